/-! READING: IF, IF ELSE and the loops, in both -/
section
variable {S0 S1 : x_S} {ri r L n d wc D m m2 : Nat} {kk en ow fm hi dp : Nat → Nat} {T : List tx_T} {Sc Sm : x_S}
theorem r_X.d60 (h : r_X S0 S1 ri L n d wc kk en ow fm hi dp D T Sc Sm) (hd : 0 < d) (hk : kk (d - 1) < en (d - 1)) : d ≤ 60 := by
  have := h.room hd hk
  have := h.2.2.2.2.2.2.2.2.2.2.2.2
  omega
theorem w_same {V : x_S} {so fr be pa bo : Int32} {o1 j : Nat} {vs : List Int32} (hV : V = k_ws (k_bg Sc n so fr be pa bo o1 j) wc vs) (x y : Nat) : g_ar V x y = if x = 406 ∧ y = o1 then nI n else g_ar (k_ws (k_bg Sc n so fr be pa bo o1 j) wc vs) x y := by
  subst hV
  by_cases e : x = 406 ∧ y = o1
  · rw [if_pos e, e.1, e.2, kw_ar 406 o1 (by decide), (bg_at so fr be pa bo o1 j o1).2.2.2.2.2.2.1, if_pos rfl]
  · rw [if_neg e]
theorem w_two {B : x_S} {so A Bv v : Int32} {o2 : Nat} (x y : Nat) : g_ar (k_ws (s_ar (k_ws B wc [so]) 406 o2 v) (wc + 1) [A, Bv]) x y = if x = 406 ∧ y = o2 then v else g_ar (k_ws B wc [so, A, Bv]) x y := by
  show g_ar (s_sc (s_ar (s_sc (s_ar (s_ar (s_sc (s_ar B 407 wc so) 409 (nI (wc + 1))) 406 o2 v) 407 (wc + 1) A) 409 (nI (wc + 1 + 1))) 407 (wc + 1 + 1) Bv) 409 (nI (wc + 1 + 1 + 1))) x y = if x = 406 ∧ y = o2 then v else g_ar (s_sc (s_ar (s_sc (s_ar (s_sc (s_ar B 407 wc so) 409 (nI (wc + 1))) 407 (wc + 1) A) 409 (nI (wc + 1 + 1))) 407 (wc + 1 + 1) Bv) 409 (nI (wc + 1 + 1 + 1))) x y
  simp only [q_ar_sc, q_ar_ar]
  by_cases e : x = 406 ∧ y = o2
  · rw [if_pos e, if_pos e, if_neg (by omega), if_neg (by omega)]
  · rw [if_neg e, if_neg e]
theorem k_b.s406 {S : x_S} (h : k_b S0 ri n d wc S) (i : Nat) (v : Int32) : k_b S0 ri n d wc (s_ar S 406 i v) := ⟨h.1.tr (fk_ar S 406 i v (by omega)), h.2.1, h.2.2.1, h.2.2.2.1, h.2.2.2.2.1, h.2.2.2.2.2⟩
theorem j_stt (h : r_X S0 S1 ri L n d wc kk en ow fm hi dp D T Sc Sm) (hd : 0 < d) (hk : kk (d - 1) < en (d - 1)) {p : Nat} (hp : p = d - 1 + r_un (fun i => g_ar Sc 400 i) ow (fun c => g_ar Sc 107 c) d) (v so be ta tb go : Int32) : f_X7_state m (s_ar Sm 725 p v) so (nI (kk (d - 1))) be ta tb go = some (nI n, j_st (s_ar Sm 725 p v) n so (nI (kk (d - 1))) be (g_ar Sc 106 (d - 1)) (g_ar Sc 107 (d - 1)) ta tb go) ∧ j_b S1 (n + 1) (p + 1) (j_st (s_ar Sm 725 p v) n so (nI (kk (d - 1))) be (g_ar Sc 106 (d - 1)) (g_ar Sc 107 (d - 1)) ta tb go) := by
  obtain ⟨r1, r2, r3, r4, r5, r6, -⟩ := h.room hd hk
  obtain ⟨m1, mk0, m3, m4, m5, m6, m7⟩ := h.topm hd p hp
  have jb : j_b S1 n (p + 1) (s_ar Sm 725 p v) := ⟨h.2.1.1.tr (fr_m_ar _ 725 p _ (by decide)), h.2.1.2.1, m1⟩
  have e1 : g_ar (s_ar Sm 725 p v) 729 p = g_ar Sc 106 (d - 1) := by rw [q_ar_ar, if_neg (by omega)]; exact m6
  have e2 : g_ar (s_ar Sm 725 p v) 730 p = g_ar Sc 107 (d - 1) := by rw [q_ar_ar, if_neg (by omega)]; exact m7
  have := j_state (m := m) jb (show n < 200 by omega) (show p < 200 by omega) so (nI (kk (d - 1))) be ta tb go
  rw [e1, e2] at this
  exact this
theorem j_two {p : Nat} {v w so fr be pa bo ta tb go : Int32} (x y : Nat) : g_ar (s_ar (j_st (s_ar Sm 725 p v) n so fr be pa bo ta tb go) 725 p w) x y = g_ar (j_st (s_ar Sm 725 p w) n so fr be pa bo ta tb go) x y := by
  unfold j_st
  simp only [q_ar_sc, q_ar_ar]
  by_cases e : x = 725 ∧ y = p
  · rw [if_pos e, if_neg (by omega), if_neg (by omega), if_neg (by omega), if_neg (by omega), if_neg (by omega), if_neg (by omega), if_neg (by omega), if_neg (by omega), if_pos e]
  · simp only [if_neg e]
/-- whether it is an IF ELSE: both say the same -/
def r_els (S0 Sc : x_S) (ri k t e d : Nat) (en : Nat) : Prop := k < t - 1 ∧ g_pa S0 0 ri (t - 1) = 2 ∧ g_pa S0 3 ri (t - 1) = nI e ∧ t < e ∧ e ≤ en ∧ ¬ nI e = g_ar Sc 104 (d - 1) ∧ ¬ nI e = g_ar Sc 105 (d - 1)
theorem t_else (h : r_X S0 S1 ri L n d wc kk en ow fm hi dp D T Sc Sm) (hA : r_A S0 S1 ri r L) (hd : 0 < d) (hk : kk (d - 1) < en (d - 1)) {p t : Nat} (hp : p = d - 1 + r_un (fun i => g_ar Sc 400 i) ow (fun c => g_ar Sc 107 c) d) (ht : kk (d - 1) < t) (ht2 : t ≤ en (d - 1)) (v : Int32) : (∃ e, r_els S0 Sc ri (kk (d - 1)) t e d (en (d - 1)) ∧ f_X1_elseEnd m Sc (nI (kk (d - 1))) (nI t) = some (nI e, Sc) ∧ f_X7_readIf m2 (s_ar Sm 725 p v) (nI (60 * r)) (nI (kk (d - 1))) (nI t) = f_X7_readIf_105 m2 (s_ar Sm 725 p v) (nI (kk (d - 1))) (nI t) (nI p) (nI (60 * r + kk (d - 1))) (g_ar Sc 104 (d - 1)) (g_ar Sc 105 (d - 1)) (nI e) 1) ∨ (f_X1_elseEnd m Sc (nI (kk (d - 1))) (nI t) = some (-1, Sc) ∧ ∃ x, f_X7_readIf m2 (s_ar Sm 725 p v) (nI (60 * r)) (nI (kk (d - 1))) (nI t) = f_X7_readIf_105 m2 (s_ar Sm 725 p v) (nI (kk (d - 1))) (nI t) (nI p) (nI (60 * r + kk (d - 1))) (g_ar Sc 104 (d - 1)) (g_ar Sc 105 (d - 1)) x 0) := by
  obtain ⟨r1, r2, r3, r4, r5, r6, -⟩ := h.room hd hk
  obtain ⟨m1, mk0, m3, m4, m5, m6, m7⟩ := h.topm hd p hp
  have hb := h.1
  obtain ⟨a1, a2, a3, a4, a5⟩ := hA.2.2 (t - 1) (by omega)
  have hr := hA.1
  have d2 : d - 1 < 2 ^ 31 := by omega
  have p2 : p < 2 ^ 31 := by omega
  have t2 : t - 1 < 2 ^ 31 := by omega
  have q2 : 60 * r + (t - 1) < 2 ^ 31 := by omega
  have cd := k_in (i := d - 1) (L := 61) (by omega) (by decide)
  have cp := k_in (i := p) (L := 200) (by omega) (by decide)
  have ct := k_in (i := t - 1) (L := 60) (by omega) (by decide)
  have cq := k_in (i := 60 * r + (t - 1)) (L := 720) (by omega) (by decide)
  have ed : nI d - 1 = nI (d - 1) := by have := nI_pred (d - 1); rw [show d - 1 + 1 = d by omega] at this; exact this
  have et : nI t - 1 = nI (t - 1) := by have := nI_pred (t - 1); rw [show t - 1 + 1 = t by omega] at this; exact this
  have eq : nI (60 * r + t) - 1 = nI (60 * r + (t - 1)) := by have := nI_pred (60 * r + (t - 1)); rw [show 60 * r + (t - 1) + 1 = 60 * r + t by omega] at this; exact this
  have e103 : g_ar Sc 103 (d - 1) = nI (en (d - 1)) := (h.2.2.2.1 (d - 1) (by omega)).1
  have P0 : g_pa Sc 0 ri (t - 1) = g_pa S0 0 ri (t - 1) := hb.1.2.2.2.2.1 0 ri _
  have P3 : g_pa Sc 3 ri (t - 1) = g_pa S0 3 ri (t - 1) := hb.1.2.2.2.2.1 3 ri _
  have f724 : g_sc (s_ar Sm 725 p v) 724 = nI (p + 1) := m1
  have f726 : g_ar (s_ar Sm 725 p v) 726 p = nI (en (d - 1)) := by rw [q_ar_ar, if_neg (by omega)]; exact m3
  have f727 : g_ar (s_ar Sm 725 p v) 727 p = g_ar Sc 104 (d - 1) := by rw [q_ar_ar, if_neg (by omega)]; exact m4
  have f728 : g_ar (s_ar Sm 725 p v) 728 p = g_ar Sc 105 (d - 1) := by rw [q_ar_ar, if_neg (by omega)]; exact m5
  have f702 : g_ar (s_ar Sm 725 p v) 702 (60 * r + (t - 1)) = g_pa S0 0 ri (t - 1) := by rw [q_ar_ar, if_neg (by omega), a1]; exact h.2.1.1.2 702 _ (by decide)
  have f705 : g_ar (s_ar Sm 725 p v) 705 (60 * r + (t - 1)) = g_pa S0 3 ri (t - 1) := by rw [q_ar_ar, if_neg (by omega), a4]; exact h.2.1.1.2 705 _ (by decide)
  have nt : (-1 : Int32) ≤ nI t := by rw [k_ge (by omega)]; have : (-1 : Int32).toInt = -1 := rfl; omega
  have hm : ∀ X, f_X7_readIf m2 (s_ar Sm 725 p v) (nI (60 * r)) (nI (kk (d - 1))) (nI t) = X ↔ (if nI (t - 1) ≤ nI (kk (d - 1)) then f_X7_readIf_105 m2 (s_ar Sm 725 p v) (nI (kk (d - 1))) (nI t) (nI p) (nI (60 * r + kk (d - 1))) (g_ar Sc 104 (d - 1)) (g_ar Sc 105 (d - 1)) (-1) 0 else if g_pa S0 0 ri (t - 1) = 2 then f_X7_readIf_66 m2 (s_ar Sm 725 p v) (nI (kk (d - 1))) (nI t) (nI p) (nI (60 * r + kk (d - 1))) (g_ar Sc 104 (d - 1)) (g_ar Sc 105 (d - 1)) (g_pa S0 3 ri (t - 1)) else f_X7_readIf_105 m2 (s_ar Sm 725 p v) (nI (kk (d - 1))) (nI t) (nI p) (nI (60 * r + kk (d - 1))) (g_ar Sc 104 (d - 1)) (g_ar Sc 105 (d - 1)) (-1) 0) = X := by
    intro X
    have e65 : f_X7_readIf_65 m2 (s_ar Sm 725 p v) (nI (kk (d - 1))) (nI t) (nI p) (nI (60 * r + kk (d - 1))) (g_ar Sc 104 (d - 1)) (g_ar Sc 105 (d - 1)) = f_X7_readIf_105 m2 (s_ar Sm 725 p v) (nI (kk (d - 1))) (nI t) (nI p) (nI (60 * r + kk (d - 1))) (g_ar Sc 104 (d - 1)) (g_ar Sc 105 (d - 1)) (-1) 0 := by
      unfold f_X7_readIf_65 f_X7_readIf_66 f_X7_readIf_104
      rw [if_pos nt]
    unfold f_X7_readIf
    rw [x_l_e, f724, nI_pred, x_gt cp, nI_clamp p2, x_l_e, x_gt (k_in2 (show p < 200 by omega) p2), x_l_e, f727, f728, et, nI_add, nI_add, eq, e65, x_gt cq, nI_clamp q2, x_l_e, x_gt (k_in2 (show 60 * r + (t - 1) < 720 by omega) q2), x_l_e, f702, f705]
  by_cases c1 : t - 1 ≤ kk (d - 1)
  · right
    have c1' : nI (t - 1) ≤ nI (kk (d - 1)) := nI_le c1 (by omega)
    refine ⟨?_, -1, ?_⟩
    · unfold f_X1_elseEnd
      rw [et, if_pos c1']
    · rw [hm, if_pos c1']
  · have c1' : ¬ nI (t - 1) ≤ nI (kk (d - 1)) := nI_ge (by omega) (by omega)
    by_cases c2 : g_pa S0 0 ri (t - 1) = 2
    · obtain ⟨e, e1, e2⟩ := a5 (Or.inl (by rw [← a1]; exact c2))
      have e3 : g_pa S0 3 ri (t - 1) = nI e := a4.trans e2
      have hce : f_X1_elseEnd m Sc (nI (kk (d - 1))) (nI t) = if nI e ≤ nI t then some (-1, Sc) else if nI (en (d - 1)) < nI e then some (-1, Sc) else x_b2 (f_X1_isNeither m Sc (nI e)) (fun v8 S => if v8 = 0 then some (-1, S) else some (nI e, S)) := by
        unfold f_X1_elseEnd
        rw [et, if_neg c1', hb.2.1, x_o_s, x_gt hb.2.2.1, x_gt hb.2.2.1, x_gt ct, nI_clamp t2, x_l_e, P0, if_pos c2, x_o_s, x_gt hb.2.2.1, x_gt hb.2.2.1, x_gt (k_in2 (show t - 1 < 60 by omega) t2), x_l_e, P3, e3, x_l_e, hb.2.2.2.1, ed, x_gt cd, nI_clamp d2, x_l_e, e103]
      have hme : ∀ X, f_X7_readIf m2 (s_ar Sm 725 p v) (nI (60 * r)) (nI (kk (d - 1))) (nI t) = X ↔ f_X7_readIf_66 m2 (s_ar Sm 725 p v) (nI (kk (d - 1))) (nI t) (nI p) (nI (60 * r + kk (d - 1))) (g_ar Sc 104 (d - 1)) (g_ar Sc 105 (d - 1)) (nI e) = X := by
        intro X
        rw [hm, if_neg c1', if_pos c2, e3]
      by_cases c3 : e ≤ t
      · right
        have c3' : nI e ≤ nI t := nI_le c3 (by omega)
        refine ⟨by rw [hce, if_pos c3'], nI e, ?_⟩
        rw [hme]
        unfold f_X7_readIf_66 f_X7_readIf_104
        rw [if_pos c3']
      · have c3' : ¬ nI e ≤ nI t := nI_ge (by omega) (by omega)
        by_cases c4 : en (d - 1) < e
        · right
          have c4' : nI (en (d - 1)) < nI e := nI_lt c4 (by omega)
          refine ⟨by rw [hce, if_neg c3', if_pos c4'], nI e, ?_⟩
          rw [hme]
          unfold f_X7_readIf_66 f_X7_readIf_104
          rw [if_neg c3', x_gt cp, nI_clamp p2, x_l_e, f726, if_pos c4']
        · have c4' : ¬ nI (en (d - 1)) < nI e := nI_nlt (by omega) (by omega)
          have hce2 : f_X1_elseEnd m Sc (nI (kk (d - 1))) (nI t) = if nI e = g_ar Sc 104 (d - 1) then some (-1, Sc) else if nI e = g_ar Sc 105 (d - 1) then some (-1, Sc) else some (nI e, Sc) := by
            rw [hce, if_neg c3', if_neg c4']
            rw [k_isN h hd hk, x_b2_s]
            by_cases z1 : nI e = g_ar Sc 104 (d - 1)
            · rw [if_pos (Or.inl z1), if_pos rfl, if_pos z1]
            · by_cases z2 : nI e = g_ar Sc 105 (d - 1)
              · rw [if_pos (Or.inr z2), if_pos rfl, if_neg z1, if_pos z2]
              · rw [if_neg (fun z : nI e = g_ar Sc 104 (d - 1) ∨ nI e = g_ar Sc 105 (d - 1) => z.elim z1 z2), if_neg i_1n, if_neg z1, if_neg z2]
          have hme2 : ∀ X, f_X7_readIf m2 (s_ar Sm 725 p v) (nI (60 * r)) (nI (kk (d - 1))) (nI t) = X ↔ (if nI e = g_ar Sc 104 (d - 1) then f_X7_readIf_105 m2 (s_ar Sm 725 p v) (nI (kk (d - 1))) (nI t) (nI p) (nI (60 * r + kk (d - 1))) (g_ar Sc 104 (d - 1)) (g_ar Sc 105 (d - 1)) (nI e) 0 else if nI e = g_ar Sc 105 (d - 1) then f_X7_readIf_105 m2 (s_ar Sm 725 p v) (nI (kk (d - 1))) (nI t) (nI p) (nI (60 * r + kk (d - 1))) (g_ar Sc 104 (d - 1)) (g_ar Sc 105 (d - 1)) (nI e) 0 else f_X7_readIf_105 m2 (s_ar Sm 725 p v) (nI (kk (d - 1))) (nI t) (nI p) (nI (60 * r + kk (d - 1))) (g_ar Sc 104 (d - 1)) (g_ar Sc 105 (d - 1)) (nI e) 1) = X := by
            intro X
            rw [hme]
            unfold f_X7_readIf_66 f_X7_readIf_104
            rw [if_neg c3', x_gt cp, nI_clamp p2, x_l_e, f726, if_neg c4']
          by_cases c5 : nI e = g_ar Sc 104 (d - 1)
          · right
            exact ⟨by rw [hce2, if_pos c5], nI e, by rw [hme2, if_pos c5]⟩
          · by_cases c6 : nI e = g_ar Sc 105 (d - 1)
            · right
              exact ⟨by rw [hce2, if_neg c5, if_pos c6], nI e, by rw [hme2, if_neg c5, if_pos c6]⟩
            · left
              exact ⟨e, ⟨by omega, c2, e3, by omega, by omega, c5, c6⟩, by rw [hce2, if_neg c5, if_neg c6], by rw [hme2, if_neg c5, if_neg c6]⟩
    · right
      refine ⟨?_, -1, ?_⟩
      · unfold f_X1_elseEnd
        rw [et, if_neg c1', hb.2.1, x_o_s, x_gt hb.2.2.1, x_gt hb.2.2.1, x_gt ct, nI_clamp t2, x_l_e, P0, if_neg c2]
      · rw [hm, if_neg c1', if_neg c2]
end
