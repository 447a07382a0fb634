/-! READING: one STATEMENT, in both -/
section
variable {S0 S1 : x_S} {ri r L n d wc D m m2 : Nat} {kk en ow fm hi dp : Nat → Nat} {T : List tx_T} {Sc Sm : x_S}
theorem t_if (h : r_X S0 S1 ri L n d wc kk en ow fm hi dp D T Sc Sm) (hA : r_A S0 S1 ri r L) (hd : 0 < d) (hk : kk (d - 1) < en (d - 1)) {p j t : Nat} (hp : p = d - 1 + r_un (fun i => g_ar Sc 400 i) ow (fun c => g_ar Sc 107 c) d) (hj : j < wc) (hsl : g_ar Sc 108 (d - 1) = nI j) (ht : kk (d - 1) < t) (ht2 : t ≤ en (d - 1)) (hC : g_pa S0 3 ri (kk (d - 1)) = nI t) : ∃ Tc Tm, f_X1_readIf m Sc (nI (kk (d - 1))) = some (nI (kk (d - 1) + 1), Tc) ∧ f_X7_readIf m2 (s_ar Sm 725 p (nI (kk (d - 1) + 1))) (nI (60 * r)) (nI (kk (d - 1))) (nI t) = some Tm ∧ r_N S0 S1 ri L n d (r_un (fun i => g_ar Sc 400 i) ow (fun c => g_ar Sc 107 c) d) (kk (d - 1) + 1) Tc Tm := by
  obtain ⟨r1, r2, r3, r4, r5, r6, -⟩ := h.room hd hk
  have d60 := h.d60 hd hk
  have hb := h.1
  have hr := hA.1
  obtain ⟨a1, a2, a3, a4, a5⟩ := hA.2.2 (kk (d - 1)) (by omega)
  have k2 : kk (d - 1) < 2 ^ 31 := by omega
  have ck := k_in (i := kk (d - 1)) (L := 60) (by omega) (by decide)
  have hC' : g_pa Sc 3 ri (kk (d - 1)) = nI t := (hb.1.2.2.2.2.1 3 ri _).trans hC
  have d2 : d - 1 < 2 ^ 31 := by omega
  have p2 : p < 2 ^ 31 := by omega
  have q2 : 60 * r + kk (d - 1) < 2 ^ 31 := by omega
  have cd := k_in (i := d - 1) (L := 61) (by omega) (by decide)
  have cp := k_in (i := p) (L := 200) (by omega) (by decide)
  have cq := k_in (i := 60 * r + kk (d - 1)) (L := 720) (by omega) (by decide)
  have ed : nI d - 1 = nI (d - 1) := by have := nI_pred (d - 1); rw [show d - 1 + 1 = d by omega] at this; exact this
  have et : nI t - 1 = nI (t - 1) := by have := nI_pred (t - 1); rw [show t - 1 + 1 = t by omega] at this; exact this
  have f703 : g_ar (s_ar Sm 725 p (nI (kk (d - 1) + 1))) 703 (60 * r + kk (d - 1)) = g_pa S0 1 ri (kk (d - 1)) := by rw [q_ar_ar, if_neg (by omega), a2]; exact h.2.1.1.2 703 _ (by decide)
  have f704 : g_ar (s_ar Sm 725 p (nI (kk (d - 1) + 1))) 704 (60 * r + kk (d - 1)) = g_pa S0 2 ri (kk (d - 1)) := by rw [q_ar_ar, if_neg (by omega), a3]; exact h.2.1.1.2 704 _ (by decide)
  rcases t_else (m := m) (m2 := m2) h hA hd hk hp ht ht2 (nI (kk (d - 1) + 1)) with ⟨e, ⟨E1, E2, E3, E4, E5, E6, E7⟩, ce, me⟩ | ⟨ce, x, me⟩
  · have b1 := k_bgn (m := m) h hd hk (beh := e) (own := kk (d - 1)) hj hsl (by omega) 2
    have b2 := b1.2.s406 (t - 1) (nI n)
    have w1 := k_wordTest (m := m) b2 (by omega) (show kk (d - 1) < 60 by omega)
    have kV := k_b.ws [g_pa S0 1 ri (kk (d - 1)), g_pa S0 2 ri (kk (d - 1))] b2
    have op := (k_open (m := m) kV (by omega) (by simp only [List.length]; omega) (nI n) 0 (nI (t - 1)) (g_ar Sc 104 (d - 1)) (g_ar Sc 105 (d - 1))).1
    have st := j_stt (m := m2) h hd hk hp (nI (kk (d - 1) + 1)) 2 (nI e) (g_pa S0 1 ri (kk (d - 1))) (g_pa S0 2 ri (kk (d - 1))) (nI t)
    have jU := st.2.ar 725 p (nI e) (by decide)
    have rg := j_range (m := m2) jU (by omega) (nI t) (nI e) (g_ar Sc 104 (d - 1)) (g_ar Sc 105 (d - 1)) (nI n) 1
    have rg2 := j_range (m := m2) rg.2 (by omega) (nI (kk (d - 1) + 1)) (nI (t - 1)) (g_ar Sc 104 (d - 1)) (g_ar Sc 105 (d - 1)) (nI n) 0
    have t60 : t - 1 < 60 := by omega
    have ctt := k_in (i := t - 1) (L := 60) t60 (by decide)
    have ne : ¬ nI e = -1 := nI_m1 (by omega)
    refine ⟨_, _, ?_, ?_, h.opnS hd hk (beh := e) (kk0 := kk (d - 1) + 1) (en0 := t - 1) (o1 := kk (d - 1)) (o2 := t - 1) (so := 2) (ta := g_pa S0 1 ri (kk (d - 1))) (tb := g_pa S0 2 ri (kk (d - 1))) (go := nI t) (b1 := g_ar Sc 104 (d - 1)) (a1 := g_ar Sc 105 (d - 1)) (vs := [2, g_pa S0 1 ri (kk (d - 1)), g_pa S0 2 ri (kk (d - 1))]) hp hj hsl (by unfold r_cmp; decide) (by omega) E5 (by omega) (by omega) (by omega) (fun _ => by omega) (fun q => by omega) (fun q => absurd rfl q) (fun _ => rfl) (Nat.le_refl _) ?_ ?_ ?_ w_two kV ?_ ?_ j_two jU (Or.inr ⟨rfl, rfl⟩)⟩
    · unfold f_X1_readIf
      rw [hb.2.1, x_o_s, x_gt hb.2.2.1, x_gt hb.2.2.1, x_gt ck, nI_clamp k2, x_l_e, hC', x_l_e, hb.2.2.2.1, ed, x_gt cd, nI_clamp d2, x_l_e, x_l_e, ed, x_gt cd, nI_clamp d2, x_l_e, ce, x_b2_s, if_neg ne, b1.1, x_b2_s, et, x_gt ctt, nI_clamp (by omega), x_l_e, w1, x_b_s, op, x_b_s, nI_1]
      rfl
    · rw [me]
      unfold f_X7_readIf_105 f_X7_readIf_118 f_X7_readIf_130 f_X7_readIf_167
      rw [if_neg i_1n, if_neg i_1n, x_gt cq, nI_clamp q2, x_l_e, x_gt (k_in2 (show 60 * r + kk (d - 1) < 720 by omega) q2), x_l_e, f703, f704, st.1, x_b2_s, if_neg i_1n, x_gt cp, nI_clamp p2, x_l_e, if_neg i_1n, rg.1, x_b_s, nI_1, et, rg2.1, x_b_s]
      rw [show t - 1 + 1 = t by omega]
    · rfl
    · intro i
      simp only [true_and]
      omega
    · intro i hi
      constructor
      · rintro (⟨-, q⟩ | ⟨q, -⟩ | ⟨-, q⟩)
        · exact Or.inl ((nI_eq (by omega) (by omega)).mp q).symm
        · exact absurd q (by unfold w_lp; decide)
        · have := (nI_eq (by omega) (by omega)).mp q
          exact Or.inr (by omega)
      · rintro (q | q)
        · exact Or.inl ⟨by decide, by rw [q]⟩
        · exact Or.inr (Or.inr ⟨rfl, by rw [q, show t - 1 + 1 = t by omega]⟩)
    · rw [kw_sc 411 (by decide), q_sc_ar, kw_sc 411 (by decide), bg_sc _ _ _ _ _ _ _ 411 (by decide)]
    · rw [kw_sc 410 (by decide), q_sc_ar, kw_sc 410 (by decide), bg_sc _ _ _ _ _ _ _ 410 (by decide)]
  · have b1 := k_bgn (m := m) h hd hk (beh := t) (own := kk (d - 1)) hj hsl (by omega) 1
    have w1 := k_wordTest (m := m) b1.2 (by omega) (show kk (d - 1) < 60 by omega)
    have kV := k_b.ws [g_pa S0 1 ri (kk (d - 1)), g_pa S0 2 ri (kk (d - 1))] b1.2
    have op := (k_open (m := m) kV (by omega) (by simp only [List.length]; omega) (nI n) 0 (nI t) (g_ar Sc 104 (d - 1)) (g_ar Sc 105 (d - 1))).1
    have st := j_stt (m := m2) h hd hk hp (nI (kk (d - 1) + 1)) 1 (nI t) (g_pa S0 1 ri (kk (d - 1))) (g_pa S0 2 ri (kk (d - 1))) (nI t)
    have jU := st.2.ar 725 p (nI t) (by decide)
    have rg := j_range (m := m2) jU (by omega) (nI (kk (d - 1) + 1)) (nI t) (g_ar Sc 104 (d - 1)) (g_ar Sc 105 (d - 1)) (nI n) 0
    refine ⟨_, _, ?_, ?_, h.opnS hd hk (beh := t) (kk0 := kk (d - 1) + 1) (en0 := t) (o1 := kk (d - 1)) (o2 := kk (d - 1)) (so := 1) (ta := g_pa S0 1 ri (kk (d - 1))) (tb := g_pa S0 2 ri (kk (d - 1))) (go := nI t) (b1 := g_ar Sc 104 (d - 1)) (a1 := g_ar Sc 105 (d - 1)) (vs := [1, g_pa S0 1 ri (kk (d - 1)), g_pa S0 2 ri (kk (d - 1))]) hp hj hsl (by unfold r_cmp; decide) (by omega) ht2 (by omega) (by omega) (by omega) (fun q => absurd q (by decide)) (fun q => by omega) (fun _ => by omega) (fun q => absurd q (by decide)) (Nat.le_refl _) ?_ ?_ ?_ (w_same rfl) kV ?_ ?_ j_two jU (Or.inl ⟨by decide, rfl⟩)⟩
    · unfold f_X1_readIf
      rw [hb.2.1, x_o_s, x_gt hb.2.2.1, x_gt hb.2.2.1, x_gt ck, nI_clamp k2, x_l_e, hC', x_l_e, hb.2.2.2.1, ed, x_gt cd, nI_clamp d2, x_l_e, x_l_e, ed, x_gt cd, nI_clamp d2, x_l_e, ce, x_b2_s, if_pos rfl, b1.1, x_b2_s, w1, x_b_s, op, x_b_s, nI_1]
      rfl
    · rw [me]
      unfold f_X7_readIf_105 f_X7_readIf_118 f_X7_readIf_130 f_X7_readIf_167
      rw [if_pos rfl, if_pos rfl, x_gt cq, nI_clamp q2, x_l_e, x_gt (k_in2 (show 60 * r + kk (d - 1) < 720 by omega) q2), x_l_e, f703, f704, st.1, x_b2_s, if_pos rfl, x_gt cp, nI_clamp p2, x_l_e, if_pos rfl, nI_1, rg.1, x_b_s]
    · rfl
    · intro i
      have s2 : ¬ (1 : Int32) = 2 := by decide
      simp only [s2, false_and, not_false_eq_true, and_true]
      omega
    · intro i hi
      constructor
      · rintro (⟨-, q⟩ | ⟨q, -⟩ | ⟨q, -⟩)
        · exact Or.inl ((nI_eq (by omega) (by omega)).mp q).symm
        · exact absurd q (by unfold w_lp; decide)
        · exact absurd q (by decide)
      · rintro (q | q)
        · exact Or.inl ⟨by decide, by rw [q]⟩
        · exact Or.inl ⟨by decide, by rw [q]⟩
    · rw [kw_sc 411 (by decide), bg_sc _ _ _ _ _ _ _ 411 (by decide)]
    · rw [kw_sc 410 (by decide), bg_sc _ _ _ _ _ _ _ 410 (by decide)]
/-- the loops -/
theorem t_loop (h : r_X S0 S1 ri L n d wc kk en ow fm hi dp D T Sc Sm) (hA : r_A S0 S1 ri r L) (hd : 0 < d) (hk : kk (d - 1) < en (d - 1)) {p j q : Nat} (hp : p = d - 1 + r_un (fun i => g_ar Sc 400 i) ow (fun c => g_ar Sc 107 c) d) (hj : j < wc) (hsl : g_ar Sc 108 (d - 1) = nI j) (hl : ¬ r_lb d kk ow fm (fun i => g_ar Sc 400 i)) (hq : kk (d - 1) ≤ q) (hq2 : q < en (d - 1)) : ∃ k' Tc Tm, f_X1_readLoop m Sc (nI (kk (d - 1))) (nI q) = some (nI k', Tc) ∧ f_X7_readLoop m2 Sm (nI (60 * r)) (nI (kk (d - 1))) (nI q) = some Tm ∧ r_N S0 S1 ri L n d (r_un (fun i => g_ar Sc 400 i) ow (fun c => g_ar Sc 107 c) d) k' Tc Tm := by
  obtain ⟨r1, r2, r3, r4, r5, r6, -⟩ := h.room hd hk
  obtain ⟨m1, -⟩ := h.topm hd p hp
  have d60 := h.d60 hd hk
  have hb := h.1
  have hr := hA.1
  obtain ⟨a1, a2, a3, a4, -⟩ := hA.2.2 (kk (d - 1)) (by omega)
  obtain ⟨g1, g2, g3, g4, -⟩ := hA.2.2 q (by omega)
  have k2 : kk (d - 1) < 2 ^ 31 := by omega
  have p2 : p < 2 ^ 31 := by omega
  have q2 : q < 2 ^ 31 := by omega
  have ka2 : 60 * r + kk (d - 1) < 2 ^ 31 := by omega
  have qa2 : 60 * r + q < 2 ^ 31 := by omega
  have cp := k_in (i := p) (L := 200) (by omega) (by decide)
  have ck := k_in (i := kk (d - 1)) (L := 60) (by omega) (by decide)
  have cq := k_in (i := q) (L := 60) (by omega) (by decide)
  have cka := k_in (i := 60 * r + kk (d - 1)) (L := 720) (by omega) (by decide)
  have cqa := k_in (i := 60 * r + q) (L := 720) (by omega) (by decide)
  have P0q : g_pa Sc 0 ri q = g_pa S0 0 ri q := hb.1.2.2.2.2.1 0 ri _
  have P0k : g_pa Sc 0 ri (kk (d - 1)) = g_pa S0 0 ri (kk (d - 1)) := hb.1.2.2.2.2.1 0 ri _
  have P3k : g_pa Sc 3 ri (kk (d - 1)) = g_pa S0 3 ri (kk (d - 1)) := hb.1.2.2.2.2.1 3 ri _
  have f702q : g_ar (s_ar Sm 725 p (nI (q + 1))) 702 (60 * r + q) = g_pa S0 0 ri q := by rw [q_ar_ar, if_neg (by omega), g1]; exact h.2.1.1.2 702 _ (by decide)
  have f703q : g_ar (s_ar Sm 725 p (nI (q + 1))) 703 (60 * r + q) = g_pa S0 1 ri q := by rw [q_ar_ar, if_neg (by omega), g2]; exact h.2.1.1.2 703 _ (by decide)
  have f704q : g_ar (s_ar Sm 725 p (nI (q + 1))) 704 (60 * r + q) = g_pa S0 2 ri q := by rw [q_ar_ar, if_neg (by omega), g3]; exact h.2.1.1.2 704 _ (by decide)
  have f702k : g_ar (s_ar Sm 725 p (nI (q + 1))) 702 (60 * r + kk (d - 1)) = g_pa S0 0 ri (kk (d - 1)) := by rw [q_ar_ar, if_neg (by omega), a1]; exact h.2.1.1.2 702 _ (by decide)
  have f703k : g_ar (s_ar Sm 725 p (nI (q + 1))) 703 (60 * r + kk (d - 1)) = g_pa S0 1 ri (kk (d - 1)) := by rw [q_ar_ar, if_neg (by omega), a2]; exact h.2.1.1.2 703 _ (by decide)
  have f704k : g_ar (s_ar Sm 725 p (nI (q + 1))) 704 (60 * r + kk (d - 1)) = g_pa S0 2 ri (kk (d - 1)) := by rw [q_ar_ar, if_neg (by omega), a3]; exact h.2.1.1.2 704 _ (by decide)
  have f705k : g_ar (s_ar Sm 725 p (nI (q + 1))) 705 (60 * r + kk (d - 1)) = g_pa S0 3 ri (kk (d - 1)) := by rw [q_ar_ar, if_neg (by omega), a4]; exact h.2.1.1.2 705 _ (by decide)
  have hcl : f_X1_readLoop m Sc (nI (kk (d - 1))) (nI q) = if g_pa S0 0 ri q = 3 then x_b2 (f_X1_begin m Sc 5 (nI (kk (d - 1))) (nI (q + 1)) (nI q)) (fun v15 S => x_b (f_X1_wordTest m S (nI q)) (fun S => x_b (f_X1_openBody m S v15 0 (nI q) (nI (q + 1)) (nI q)) (fun S => some (nI (kk (d - 1)), S)))) else if g_pa S0 0 ri (kk (d - 1)) = 3 ∧ g_pa S0 3 ri (kk (d - 1)) = nI (q + 1) then x_b2 (f_X1_begin m Sc 4 (nI (kk (d - 1))) (nI (q + 1)) (nI q)) (fun v11 S => x_let (s_ar S 406 (kk (d - 1)) v11) (fun S => x_b (f_X1_wordTest m S (nI (kk (d - 1)))) (fun S => x_b (f_X1_openBody m S v11 0 (nI q) (nI (q + 1)) (nI (kk (d - 1)))) (fun S => some (nI (kk (d - 1) + 1), S))))) else f_X1_readLoop_111 m Sc (nI (kk (d - 1))) (nI q) := by
    unfold f_X1_readLoop
    rw [hb.2.1, x_o_s, x_gt hb.2.2.1, x_gt hb.2.2.1, x_gt cq, nI_clamp q2, x_l_e, P0q, nI_1, nI_1]
    by_cases c1 : g_pa S0 0 ri q = 3
    · rw [if_pos c1, if_pos c1]
    · rw [if_neg c1, if_neg c1, x_o_s, x_gt hb.2.2.1, x_gt hb.2.2.1, x_gt ck, nI_clamp k2, x_l_e, P0k]
      by_cases c2 : g_pa S0 0 ri (kk (d - 1)) = 3
      · rw [if_pos c2, x_o_s, x_gt hb.2.2.1, x_gt hb.2.2.1, x_gt (k_in2 (show kk (d - 1) < 60 by omega) k2), x_l_e, P3k]
        by_cases c3 : g_pa S0 3 ri (kk (d - 1)) = nI (q + 1)
        · rw [if_pos c3, if_pos ⟨c2, c3⟩]
          congr 1
          funext v S
          rw [x_gt (k_in2 (show kk (d - 1) < 60 by omega) k2)]
        · rw [if_neg c3, if_neg (fun z => c3 z.2)]
      · rw [if_neg c2, if_neg (fun z => c2 z.1)]
  have hml : f_X7_readLoop m2 Sm (nI (60 * r)) (nI (kk (d - 1))) (nI q) = if g_pa S0 0 ri q = 3 then x_b2 (f_X7_state m2 (s_ar Sm 725 p (nI (q + 1))) 5 (nI (kk (d - 1))) (nI (q + 1)) (g_pa S0 1 ri q) (g_pa S0 2 ri q) (nI (kk (d - 1)))) (fun v16 S => x_b (f_X7_range m2 S (nI (kk (d - 1))) (nI q) (nI (q + 1)) (nI q) v16 0) (fun S => some S)) else if g_pa S0 0 ri (kk (d - 1)) = 3 ∧ g_pa S0 3 ri (kk (d - 1)) = nI (q + 1) then x_b2 (f_X7_state m2 (s_ar Sm 725 p (nI (q + 1))) 4 (nI (kk (d - 1))) (nI (q + 1)) (g_pa S0 1 ri (kk (d - 1))) (g_pa S0 2 ri (kk (d - 1))) (nI (q + 1))) (fun v11 S => x_b (f_X7_range m2 S (nI (kk (d - 1) + 1)) (nI q) (nI (q + 1)) (nI (kk (d - 1))) v11 0) (fun S => some S)) else f_X7_readLoop_152 m2 (s_ar Sm 725 p (nI (q + 1))) (nI (kk (d - 1))) (nI q) := by
    unfold f_X7_readLoop
    rw [x_l_e, m1, nI_pred, x_gt cp, nI_clamp p2, nI_1, x_l_e, nI_add, nI_add, nI_1, x_gt cqa, nI_clamp qa2, x_l_e, f702q]
    by_cases c1 : g_pa S0 0 ri q = 3
    · rw [if_pos c1, if_pos c1, x_gt (k_in2 (show 60 * r + q < 720 by omega) qa2), x_l_e, x_gt (k_in2 (show 60 * r + q < 720 by omega) qa2), x_l_e, f703q, f704q]
    · rw [if_neg c1, if_neg c1, x_gt cka, nI_clamp ka2, x_l_e, f702k]
      by_cases c2 : g_pa S0 0 ri (kk (d - 1)) = 3
      · rw [if_pos c2, x_gt (k_in2 (show 60 * r + kk (d - 1) < 720 by omega) ka2), x_l_e, f705k]
        by_cases c3 : g_pa S0 3 ri (kk (d - 1)) = nI (q + 1)
        · have c4 : ¬ nI (kk (d - 1)) = nI q := fun z => by
            rw [(nI_eq (by omega) (by omega)).mp z] at c2
            exact c1 c2
          rw [if_pos c3, if_neg c4, if_pos (⟨c2, c3⟩ : g_pa S0 0 ri (kk (d - 1)) = 3 ∧ g_pa S0 3 ri (kk (d - 1)) = nI (q + 1)), x_gt (k_in2 (show 60 * r + kk (d - 1) < 720 by omega) ka2), x_l_e, x_gt (k_in2 (show 60 * r + kk (d - 1) < 720 by omega) ka2), x_l_e, f703k, f704k]
        · rw [if_neg c3, if_neg (fun z => c3 z.2)]
      · rw [if_neg c2, if_neg (fun z => c2 z.1)]
  rw [hcl, hml]
  by_cases c1 : g_pa S0 0 ri q = 3
  · have b1 := k_bgn (m := m) h hd hk (beh := q + 1) (own := q) hj hsl (by omega) 5
    have w1 := k_wordTest (m := m) b1.2 (by omega) (show q < 60 by omega)
    have kV := k_b.ws [g_pa S0 1 ri q, g_pa S0 2 ri q] b1.2
    have op := (k_open (m := m) kV (by omega) (by simp only [List.length]; omega) (nI n) 0 (nI q) (nI (q + 1)) (nI q)).1
    have st := j_stt (m := m2) h hd hk hp (nI (q + 1)) 5 (nI (q + 1)) (g_pa S0 1 ri q) (g_pa S0 2 ri q) (nI (kk (d - 1)))
    have rg := j_range (m := m2) st.2 (by omega) (nI (kk (d - 1))) (nI q) (nI (q + 1)) (nI q) (nI n) 0
    refine ⟨kk (d - 1), _, _, ?_, ?_, h.opnS hd hk (beh := q + 1) (kk0 := kk (d - 1)) (en0 := q) (o1 := q) (o2 := q) (so := 5) (ta := g_pa S0 1 ri q) (tb := g_pa S0 2 ri q) (go := nI (kk (d - 1))) (b1 := nI (q + 1)) (a1 := nI q) (vs := [5, g_pa S0 1 ri q, g_pa S0 2 ri q]) hp hj hsl (by unfold r_cmp; decide) (by omega) (by omega) (Nat.le_refl _) hq (by omega) (fun q => absurd q (by decide)) (fun _ => ⟨Or.inr rfl, hl⟩) (fun _ => by omega) (fun q => absurd q (by decide)) (Nat.le_refl _) ?_ ?_ ?_ (w_same rfl) kV ?_ ?_ (fun _ _ => rfl) st.2 (Or.inl ⟨by decide, rfl⟩)⟩
    · rw [if_pos c1, b1.1, x_b2_s, w1, x_b_s, op, x_b_s]
      rfl
    · rw [if_pos c1, st.1, x_b2_s, rg.1, x_b_s]
    · rfl
    · intro i
      have s2 : ¬ (5 : Int32) = 2 := by decide
      simp only [s2, false_and, not_false_eq_true, and_true]
      omega
    · intro i hi
      constructor
      · rintro (⟨z, -⟩ | ⟨-, z⟩ | ⟨z, -⟩)
        · exact absurd (Or.inr rfl) z
        · have := (nI_eq (by omega) (by omega)).mp z
          exact Or.inl (by omega)
        · exact absurd z (by decide)
      · intro z
        have z : i = q := by omega
        exact Or.inr (Or.inl ⟨by unfold w_lp; decide, by rw [z]⟩)
    · rw [kw_sc 411 (by decide), bg_sc _ _ _ _ _ _ _ 411 (by decide)]
    · rw [kw_sc 410 (by decide), bg_sc _ _ _ _ _ _ _ 410 (by decide)]
  · rw [if_neg c1, if_neg c1]
    by_cases c2 : g_pa S0 0 ri (kk (d - 1)) = 3 ∧ g_pa S0 3 ri (kk (d - 1)) = nI (q + 1)
    · have c4 : ¬ kk (d - 1) = q := fun z => by
        have := c2.1
        rw [z] at this
        exact c1 this
      have b1 := k_bgn (m := m) h hd hk (beh := q + 1) (own := q) hj hsl (by omega) 4
      have b2 := b1.2.s406 (kk (d - 1)) (nI n)
      have w1 := k_wordTest (m := m) b2 (by omega) (show kk (d - 1) < 60 by omega)
      have kV := k_b.ws [g_pa S0 1 ri (kk (d - 1)), g_pa S0 2 ri (kk (d - 1))] b2
      have op := (k_open (m := m) kV (by omega) (by simp only [List.length]; omega) (nI n) 0 (nI q) (nI (q + 1)) (nI (kk (d - 1)))).1
      have st := j_stt (m := m2) h hd hk hp (nI (q + 1)) 4 (nI (q + 1)) (g_pa S0 1 ri (kk (d - 1))) (g_pa S0 2 ri (kk (d - 1))) (nI (q + 1))
      have rg := j_range (m := m2) st.2 (by omega) (nI (kk (d - 1) + 1)) (nI q) (nI (q + 1)) (nI (kk (d - 1))) (nI n) 0
      refine ⟨kk (d - 1) + 1, _, _, ?_, ?_, h.opnS hd hk (beh := q + 1) (kk0 := kk (d - 1) + 1) (en0 := q) (o1 := q) (o2 := kk (d - 1)) (so := 4) (ta := g_pa S0 1 ri (kk (d - 1))) (tb := g_pa S0 2 ri (kk (d - 1))) (go := nI (q + 1)) (b1 := nI (q + 1)) (a1 := nI (kk (d - 1))) (vs := [4, g_pa S0 1 ri (kk (d - 1)), g_pa S0 2 ri (kk (d - 1))]) hp hj hsl (by unfold r_cmp; decide) (by omega) (by omega) (by omega) (by omega) (by omega) (fun q => absurd q (by decide)) (fun q => by omega) (fun _ => by omega) (fun q => absurd q (by decide)) (Nat.le_refl _) ?_ ?_ ?_ w_two kV ?_ ?_ (fun _ _ => rfl) st.2 (Or.inl ⟨by decide, rfl⟩)⟩
      · rw [if_pos c2, b1.1, x_b2_s, x_l_e, w1, x_b_s, op, x_b_s]
        rfl
      · rw [if_pos c2, st.1, x_b2_s, rg.1, x_b_s]
      · rfl
      · intro i
        have s2 : ¬ (4 : Int32) = 2 := by decide
        simp only [s2, false_and, not_false_eq_true, and_true]
        omega
      · intro i hi
        constructor
        · rintro (⟨-, z⟩ | ⟨-, z⟩ | ⟨z, -⟩)
          · exact Or.inr ((nI_eq (by omega) (by omega)).mp z).symm
          · have := (nI_eq (by omega) (by omega)).mp z
            exact Or.inl (by omega)
          · exact absurd z (by decide)
        · rintro (z | z)
          · exact Or.inr (Or.inl ⟨by unfold w_lp; decide, by rw [z]⟩)
          · exact Or.inl ⟨by decide, by rw [z]⟩
      · rw [kw_sc 411 (by decide), q_sc_ar, kw_sc 411 (by decide), bg_sc _ _ _ _ _ _ _ 411 (by decide)]
      · rw [kw_sc 410 (by decide), q_sc_ar, kw_sc 410 (by decide), bg_sc _ _ _ _ _ _ _ 410 (by decide)]
    · have b1 := k_bgn (m := m) h hd hk (beh := q + 1) (own := q) hj hsl (by omega) 3
      have op := (k_open (m := m) b1.2 (by omega) (by omega) (nI n) 0 (nI q) (nI (q + 1)) (nI (kk (d - 1)))).1
      have st := j_stt (m := m2) h hd hk hp (nI (q + 1)) 3 (nI (q + 1)) 0 0 (nI (kk (d - 1)))
      have rg := j_range (m := m2) st.2 (by omega) (nI (kk (d - 1))) (nI q) (nI (q + 1)) (nI (kk (d - 1))) (nI n) 0
      refine ⟨kk (d - 1), _, _, ?_, ?_, h.opnS hd hk (beh := q + 1) (kk0 := kk (d - 1)) (en0 := q) (o1 := q) (o2 := q) (so := 3) (ta := 0) (tb := 0) (go := nI (kk (d - 1))) (b1 := nI (q + 1)) (a1 := nI (kk (d - 1))) (vs := [3]) hp hj hsl (by unfold r_cmp; decide) (by omega) (by omega) (Nat.le_refl _) hq (by omega) (fun q => absurd q (by decide)) (fun _ => ⟨Or.inl rfl, hl⟩) (fun _ => by omega) (fun q => absurd q (by decide)) (by simp only [List.length]; omega) ?_ ?_ ?_ (w_same rfl) b1.2 ?_ ?_ (fun _ _ => rfl) st.2 (Or.inl ⟨by decide, rfl⟩)⟩
      · rw [if_neg c2]
        unfold f_X1_readLoop_111
        rw [nI_1, b1.1, x_b2_s, op, x_b_s]
        rfl
      · rw [if_neg c2]
        unfold f_X7_readLoop_152
        rw [nI_1, st.1, x_b2_s, rg.1, x_b_s]
      · rfl
      · intro i
        have s2 : ¬ (3 : Int32) = 2 := by decide
        simp only [s2, false_and, not_false_eq_true, and_true]
        omega
      · intro i hi
        constructor
        · rintro (⟨z, -⟩ | ⟨-, z⟩ | ⟨z, -⟩)
          · exact absurd (Or.inl rfl) z
          · have := (nI_eq (by omega) (by omega)).mp z
            exact Or.inl (by omega)
          · exact absurd z (by decide)
        · intro z
          have z : i = q := by omega
          exact Or.inr (Or.inl ⟨by unfold w_lp; decide, by rw [z]⟩)
      · rw [kw_sc 411 (by decide), bg_sc _ _ _ _ _ _ _ 411 (by decide)]
      · rw [kw_sc 410 (by decide), bg_sc _ _ _ _ _ _ _ 410 (by decide)]
end
