/-! READING: one turn, in both -/
theorem r_D_le {n d D : Nat} {ow dp : Nat → Nat} {Pa So : Nat → Int32} (h : r_D n d ow dp Pa So D) : ∀ s, s < n → dp s ≤ s + 1 := by
  intro s
  induction s using Nat.strongRecOn with
  | _ s ih =>
    intro hs
    rcases h.1 s hs with ⟨-, q⟩ | ⟨p, p1, -, q⟩
    · omega
    · have := ih p p1 (by omega)
      omega
section
variable {S0 S1 : x_S} {ri r L n d wc D m m2 : Nat} {kk en ow fm hi dp : Nat → Nat} {T : List tx_T} {Sc Sm : x_S}
theorem r_X.leafV (h : r_X S0 S1 ri L n d wc kk en ow fm hi dp D T Sc Sm) (hd : 0 < d) (hk : kk (d - 1) < en (d - 1)) {p j : Nat} (hp : p = d - 1 + r_un (fun i => g_ar Sc 400 i) ow (fun c => g_ar Sc 107 c) d) (hj : j < wc) (hsl : g_ar Sc 108 (d - 1) = nI j) {so ta tb go : Int32} {us : List Int32} (hso : so = 0 ∨ (6 ≤ so ∧ so ≤ 11)) (hus : us.length ≤ 3) (htok : tx_tk so ta tb go n = (so :: us).map tx_lit) {Tc : x_S} (hTc : (¬ (so = 8 ∨ so = 11) ∧ Tc = k_ws (k_bg Sc n so (nI (kk (d - 1))) (nI (kk (d - 1) + 1)) (g_ar Sc 106 (d - 1)) (g_ar Sc 107 (d - 1)) (kk (d - 1)) j) wc (so :: us)) ∨ ((so = 8 ∨ so = 11) ∧ Tc = s_sc (k_ws (k_bg Sc n so (nI (kk (d - 1))) (nI (kk (d - 1) + 1)) (g_ar Sc 106 (d - 1)) (g_ar Sc 107 (d - 1)) (kk (d - 1)) j) wc (so :: us)) 410 (g_sc Sc 410 + 1))) : r_N S0 S1 ri L n d (r_un (fun i => g_ar Sc 400 i) ow (fun c => g_ar Sc 107 c) d) (kk (d - 1) + 1) Tc (j_lf Sm p n (kk (d - 1)) so (g_ar Sc 106 (d - 1)) (g_ar Sc 107 (d - 1)) ta tb go) := by
  obtain ⟨r1, r2, r3, r4, r5, r6, -⟩ := h.room hd hk
  have b0 := (k_bgn (m := 0) h hd hk (beh := kk (d - 1) + 1) (own := kk (d - 1)) hj hsl (by omega) so).2
  have b1 := k_b.ws us b0
  have e : k_ws (k_ws (k_bg Sc n so (nI (kk (d - 1))) (nI (kk (d - 1) + 1)) (g_ar Sc 106 (d - 1)) (g_ar Sc 107 (d - 1)) (kk (d - 1)) j) wc [so]) (wc + 1) us = k_ws (k_bg Sc n so (nI (kk (d - 1))) (nI (kk (d - 1) + 1)) (g_ar Sc 106 (d - 1)) (g_ar Sc 107 (d - 1)) (kk (d - 1)) j) wc (so :: us) := rfl
  rw [e, show wc + 1 + us.length = wc + (so :: us).length by rw [List.length_cons]; omega] at b1
  rcases hTc with ⟨q, rfl⟩ | ⟨q, rfl⟩
  · refine h.leafS hd hk hp hj hsl (vs := so :: us) hso (by rw [List.length_cons]; omega) htok (fun _ _ => rfl) b1 ?_ ?_
    · rw [kw_sc 411 (by decide), bg_sc _ _ _ _ _ _ _ 411 (by decide)]
    · rw [kw_sc 410 (by decide), bg_sc _ _ _ _ _ _ _ 410 (by decide), if_neg q]
  · refine h.leafS hd hk hp hj hsl (vs := so :: us) hso (by rw [List.length_cons]; omega) htok (fun _ _ => rfl) (b1.s410 _) ?_ ?_
    · rw [y_sn _ _ _ _ (by decide), kw_sc 411 (by decide), bg_sc _ _ _ _ _ _ _ 411 (by decide)]
    · rw [y_sc, if_pos q]
theorem t_plain (h : r_X S0 S1 ri L n d wc kk en ow fm hi dp D T Sc Sm) (hA : r_A S0 S1 ri r L) (hd : 0 < d) (hk : kk (d - 1) < en (d - 1)) {p j : Nat} (hp : p = d - 1 + r_un (fun i => g_ar Sc 400 i) ow (fun c => g_ar Sc 107 c) d) (hj : j < wc) (hsl : g_ar Sc 108 (d - 1) = nI j) : ∃ k' Tc Tm, f_X1_readStatement_31 m Sc (nI (kk (d - 1))) (-1) = some (nI k', Tc) ∧ f_X7_readAt_90 m2 Sm (nI (60 * r)) (nI (kk (d - 1))) (nI p) (nI (en (d - 1))) = some Tm ∧ r_N S0 S1 ri L n d (r_un (fun i => g_ar Sc 400 i) ow (fun c => g_ar Sc 107 c) d) k' Tc Tm := by
  obtain ⟨r1, r2, r3, r4, r5, r6, -⟩ := h.room hd hk
  obtain ⟨m1, mk0, m3, m4, m5, m6, m7⟩ := h.topm hd p hp
  have hb := h.1
  obtain ⟨a1, a2, a3, a4, a5⟩ := hA.2.2 (kk (d - 1)) (by omega)
  have k2 : kk (d - 1) < 2 ^ 31 := by omega
  have ck := k_in (i := kk (d - 1)) (L := 60) (by omega) (by decide)
  have P0 : g_pa Sc 0 ri (kk (d - 1)) = g_pa S0 0 ri (kk (d - 1)) := hb.1.2.2.2.2.1 0 ri _
  have hcl : f_X1_readStatement_31 m Sc (nI (kk (d - 1))) (-1) = if g_pa S0 0 ri (kk (d - 1)) = 2 then k_jm m Sc (nI (kk (d - 1))) else if g_pa S0 0 ri (kk (d - 1)) = 3 then k_jm m Sc (nI (kk (d - 1))) else f_X1_readAct m Sc (nI (kk (d - 1))) := by
    unfold f_X1_readStatement_31 k_jm
    rw [if_pos rfl, hb.2.1, x_o_s, x_gt hb.2.2.1, x_gt hb.2.2.1, x_gt ck, nI_clamp k2, x_l_e, P0, e_isJump, x_b_s, x_b2_id]
    by_cases z2 : g_pa S0 0 ri (kk (d - 1)) = 2
    · rw [if_pos (Or.inl z2), if_neg i_1n, if_pos z2]
    · by_cases z3 : g_pa S0 0 ri (kk (d - 1)) = 3
      · rw [if_pos (Or.inr z3), if_neg i_1n, if_neg z2, if_pos z3]
      · rw [if_neg (fun z : g_pa S0 0 ri (kk (d - 1)) = 2 ∨ g_pa S0 0 ri (kk (d - 1)) = 3 => z.elim z2 z3), if_pos rfl, if_neg z2, if_neg z3]
  have hml := (j_90 (m := m2) (e := en (d - 1)) hA.1 h.2.1.1 (show kk (d - 1) < 60 by omega) (show p < 200 by omega) a1.symm a2.symm a3.symm a4.symm m4 m5).trans (j_174 (m := m2) h hd hk hp hA.1 a1.symm)
  have jp : (g_pa S0 0 ri (kk (d - 1)) = 2 ∨ g_pa S0 0 ri (kk (d - 1)) = 3) → ∃ t, t ≤ L ∧ g_pa S0 3 ri (kk (d - 1)) = nI t := fun z => by rw [a4]; exact a5 (by rw [← a1]; exact z)
  rw [hcl, hml]
  generalize hK : g_pa S0 0 ri (kk (d - 1)) = K at *
  generalize hAv : g_pa S0 1 ri (kk (d - 1)) = A at *
  generalize hBv : g_pa S0 2 ri (kk (d - 1)) = B at *
  generalize hCv : g_pa S0 3 ri (kk (d - 1)) = C at *
  by_cases q2 : K = 2
  · rw [if_pos q2, if_pos q2, k_go h hd hk hj hsl (hK.trans q2) hCv]
    have jq : K = 2 ∨ K = 3 := Or.inl q2
    by_cases e1 : C = g_ar Sc 104 (d - 1)
    · rw [if_pos e1, if_pos (⟨jq, e1⟩ : (K = 2 ∨ K = 3) ∧ C = g_ar Sc 104 (d - 1)), if_neg i_1n]
      exact ⟨_, _, _, rfl, rfl, h.leafV hd hk hp hj hsl (us := []) (Or.inr (by decide)) (by decide) rfl (Or.inl ⟨by decide, rfl⟩)⟩
    · rw [if_neg e1, if_neg (fun z : (K = 2 ∨ K = 3) ∧ C = g_ar Sc 104 (d - 1) => e1 z.2), if_pos rfl]
      by_cases e2 : C = g_ar Sc 105 (d - 1)
      · rw [if_pos e2, if_pos (⟨jq, e2⟩ : (K = 2 ∨ K = 3) ∧ C = g_ar Sc 105 (d - 1)), if_neg i_1n]
        exact ⟨_, _, _, rfl, rfl, h.leafV hd hk hp hj hsl (us := []) (Or.inr (by decide)) (by decide) rfl (Or.inl ⟨by decide, rfl⟩)⟩
      · rw [if_neg e2, if_neg (fun z : (K = 2 ∨ K = 3) ∧ C = g_ar Sc 105 (d - 1) => e2 z.2), if_pos rfl]
        exact ⟨_, _, _, rfl, rfl, h.leafV hd hk hp hj hsl (us := [C]) (Or.inr (by decide)) (Nat.le_succ_of_le (Nat.le_succ_of_le (Nat.le_refl _))) rfl (Or.inr ⟨by decide, rfl⟩)⟩
  · rw [if_neg q2, if_neg q2]
    by_cases q3 : K = 3
    · rw [if_pos q3, if_pos q3, k_test h hd hk hj hsl (hK.trans q3) hAv hBv hCv]
      have jq : K = 2 ∨ K = 3 := Or.inr q3
      by_cases e1 : C = g_ar Sc 104 (d - 1)
      · rw [if_pos e1, if_pos (⟨jq, e1⟩ : (K = 2 ∨ K = 3) ∧ C = g_ar Sc 104 (d - 1)), if_neg i_1n]
        exact ⟨_, _, _, rfl, rfl, h.leafV hd hk hp hj hsl (us := [A, B]) (Or.inr (by decide)) (Nat.le_succ _) rfl (Or.inl ⟨by decide, rfl⟩)⟩
      · rw [if_neg e1, if_neg (fun z : (K = 2 ∨ K = 3) ∧ C = g_ar Sc 104 (d - 1) => e1 z.2), if_pos rfl]
        by_cases e2 : C = g_ar Sc 105 (d - 1)
        · rw [if_pos e2, if_pos (⟨jq, e2⟩ : (K = 2 ∨ K = 3) ∧ C = g_ar Sc 105 (d - 1)), if_neg i_1n]
          exact ⟨_, _, _, rfl, rfl, h.leafV hd hk hp hj hsl (us := [A, B]) (Or.inr (by decide)) (Nat.le_succ _) rfl (Or.inl ⟨by decide, rfl⟩)⟩
        · rw [if_neg e2, if_neg (fun z : (K = 2 ∨ K = 3) ∧ C = g_ar Sc 105 (d - 1) => e2 z.2), if_pos rfl]
          by_cases e3 : C ≤ nI (kk (d - 1)) ∨ nI (en (d - 1)) < C
          · rw [if_pos e3, if_pos e3]
            exact ⟨_, _, _, rfl, rfl, h.leafV hd hk hp hj hsl (us := [A, B, C]) (Or.inr (by decide)) (Nat.le_refl _) rfl (Or.inr ⟨by decide, rfl⟩)⟩
          · rw [if_neg e3, if_neg e3]
            obtain ⟨t, t1, t2⟩ := jp jq
            subst t2
            have c1 : kk (d - 1) < t := Nat.lt_of_not_le (fun z => e3 (Or.inl (nI_le z k2)))
            have c2 : t ≤ en (d - 1) := Nat.le_of_not_lt (fun z => e3 (Or.inr (nI_lt z (by omega))))
            obtain ⟨Tc, Tm, z1, z2, z3⟩ := t_if (m := m) (m2 := m2) h hA hd hk hp hj hsl c1 c2 hCv
            exact ⟨_, Tc, Tm, z1, z2, z3⟩
    · rw [if_neg q3, if_neg q3, k_act h hd hk hj hsl hK hAv hBv]
      exact ⟨_, _, _, rfl, rfl, h.leafV hd hk hp hj hsl (us := [K, A, B]) (Or.inl rfl) (Nat.le_refl _) rfl (Or.inl ⟨by decide, rfl⟩)⟩
/-- a STATEMENT -/
theorem t_stmt (h : r_X S0 S1 ri L n d wc kk en ow fm hi dp D T Sc Sm) (hA : r_A S0 S1 ri r L) (hd : 0 < d) (hk : kk (d - 1) < en (d - 1)) (hm : 1000 ≤ m) (hm2 : 1000 ≤ m2) : ∃ k' Tc Tm, f_X1_readStatement m Sc (nI (kk (d - 1))) = some (nI k', Tc) ∧ f_X7_readAt m2 Sm (nI (60 * r)) (nI (kk (d - 1))) = some Tm ∧ r_N S0 S1 ri L n d (r_un (fun i => g_ar Sc 400 i) ow (fun c => g_ar Sc 107 c) d) k' Tc Tm := by
  obtain ⟨r1, r2, r3, r4, r5, r6, j, hj, hsl⟩ := h.room hd hk
  obtain ⟨p, hp⟩ : ∃ p, p = d - 1 + r_un (fun i => g_ar Sc 400 i) ow (fun c => g_ar Sc 107 c) d := ⟨_, rfl⟩
  obtain ⟨m1, mk0, m3, m4, m5, m6, m7⟩ := h.topm hd p hp
  have hb := h.1
  have d2 : d - 1 < 2 ^ 31 := by omega
  have cd := k_in (i := d - 1) (L := 61) (by omega) (by decide)
  have ed : nI d - 1 = nI (d - 1) := by have := nI_pred (d - 1); rw [show d - 1 + 1 = d by omega] at this; exact this
  have e103 : g_ar Sc 103 (d - 1) = nI (en (d - 1)) := (h.2.2.2.1 (d - 1) (by omega)).1
  have hla := k_last (m := m) hA hb.1 hb.2.2.1 (show kk (d - 1) ≤ en (d - 1) by omega) r4 hm
  have hml := j_readAt (m := m2) hA.1 h.2.1.1 (show kk (d - 1) ≤ en (d - 1) by omega) (by omega) hm2 m1 (by omega) m3
  have pl := t_plain (m := m) (m2 := m2) h hA hd hk hp hj hsl
  have hcl : f_X1_readStatement m Sc (nI (kk (d - 1))) = x_b2 (f_X1_isLoopBegun m Sc (nI (kk (d - 1)))) (fun v2 S => if v2 = 0 then (x_o (g_rf S 101) (x_let (g_sc S 102) (fun v4 => x_g (¬ ((v4 - (1 : Int32)) < 0 ∨ 61 ≤ ((v4 - (1 : Int32))).toNatClampNeg)) (x_let (g_ar S 103 ((v4 - (1 : Int32))).toNatClampNeg) (fun v5 => none)))) (fun i3 => x_let (g_sc S 102) (fun v6 => x_g (¬ ((v6 - (1 : Int32)) < 0 ∨ 61 ≤ ((v6 - (1 : Int32))).toNatClampNeg)) (x_let (g_ar S 103 ((v6 - (1 : Int32))).toNatClampNeg) (fun v7 => x_g (i3 < g_np S) (x_b2 (f_X2_lastJumpTo m S i3 (nI (kk (d - 1))) v7) (fun v9 S => f_X1_readStatement_31 m S (nI (kk (d - 1))) v9))))))) else f_X1_readStatement_31 m S (nI (kk (d - 1))) (-1)) := rfl
  rcases j_begun (m := m2) h hd hm2 with ⟨B, jB⟩ | ⟨B, jB⟩
  · have kB : f_X1_isLoopBegun m Sc (nI (kk (d - 1))) = some (1, Sc) := (k_begun (m := m) h hd).elim (fun z => z.2) (fun z => absurd B z.1)
    rw [hcl, hml, kB, x_b2_s, if_neg i_1n, jB, x_b2_s, if_neg i_1n]
    rw [show (if r_lj S1 r (kk (d - 1)) (en (d - 1) - kk (d - 1)) = -1 then f_X7_readAt_90 m2 Sm (nI (60 * r)) (nI (kk (d - 1))) (nI p) (nI (en (d - 1))) else f_X7_readAt_90 m2 Sm (nI (60 * r)) (nI (kk (d - 1))) (nI p) (nI (en (d - 1)))) = f_X7_readAt_90 m2 Sm (nI (60 * r)) (nI (kk (d - 1))) (nI p) (nI (en (d - 1))) from by split <;> rfl]
    exact pl
  · have kB : f_X1_isLoopBegun m Sc (nI (kk (d - 1))) = some (0, Sc) := (k_begun (m := m) h hd).elim (fun z => absurd z.1 B) (fun z => z.2)
    rw [hcl, hml, kB, x_b2_s, if_pos rfl, hb.2.1, x_o_s, x_l_e, hb.2.2.2.1, ed, x_gt cd, nI_clamp d2, x_l_e, e103, x_gt hb.2.2.1, hla, x_b2_s, jB, x_b2_s, if_pos rfl]
    rcases r_lj_cases S1 r (kk (d - 1)) (en (d - 1) - kk (d - 1)) with z | ⟨q, q1, q2, z, -, -⟩
    · rw [z, if_pos rfl]
      exact pl
    · obtain ⟨k', Tc, Tm, z1, z2, z3⟩ := t_loop (m := m) (m2 := m2) h hA hd hk (q := q) hp hj hsl B q1 (by omega)
      refine ⟨k', Tc, Tm, ?_, ?_, z3⟩
      · unfold f_X1_readStatement_31
        rw [z, if_neg (nI_m1 (by omega)), z1, x_b2_s]
      · rw [z, if_neg (nI_m1 (by omega)), z2, x_b_s]
/-- a BODY is over -/
theorem t_close (h : r_X S0 S1 ri L n d wc kk en ow fm hi dp D T Sc Sm) (hd : 0 < d) (hke : kk (d - 1) = en (d - 1)) {p : Nat} (hp : p = d - 1 + r_un (fun i => g_ar Sc 400 i) ow (fun c => g_ar Sc 107 c) d) : ∃ k' Tc, f_X1_closeBody m Sc (nI (kk (d - 1))) = some (nI k', Tc) ∧ r_N S0 S1 ri L n d (r_un (fun i => g_ar Sc 400 i) ow (fun c => g_ar Sc 107 c) d) k' Tc (s_sc Sm 724 (nI p)) := by
  have h' := h
  obtain ⟨x1, x2, x3, x4, x5, x6, x7, ⟨x8, x8b⟩, x9, x10, ⟨t1, t2, t3⟩, x12, ⟨y1, y2, y3, y4, y5⟩⟩ := h'
  have un2 := r_un_le2 (fun i => g_ar Sc 400 i) ow (fun c => g_ar Sc 107 c) d
  have d2 : d - 1 < 2 ^ 31 := by omega
  have cd := k_in (i := d - 1) (L := 61) (by omega) (by decide)
  have ed : nI d - 1 = nI (d - 1) := by have := nI_pred (d - 1); rw [show d - 1 + 1 = d by omega] at this; exact this
  have kb0 : k_b S0 ri n (d - 1) wc (s_sc Sc 102 (nI (d - 1))) := ⟨x1.1.tr (fk_sc Sc 102 _ (by omega)), x1.2.1, x1.2.2.1, y_sc _ _ _, (y_sn _ _ _ _ (by decide)).trans x1.2.2.2.2.1, (y_sn _ _ _ _ (by decide)).trans x1.2.2.2.2.2⟩
  have jb0 : j_b S1 n p (s_sc Sm 724 (nI p)) := ⟨x2.1.tr (fr_m_sc Sm 724 _ (by decide)), (y_sn _ _ _ _ (by decide)).trans x2.2.1, y_sc _ _ _⟩
  unfold f_X1_closeBody
  rw [x_l_e, x1.2.2.2.1, ed, x_l_e, x_l_e, y_sc, x_gt cd, nI_clamp d2, x_l_e, q_ar_sc]
  by_cases e1 : d = 1
  · subst e1
    have z6 : g_ar Sc 106 0 = -1 := (x6.1 hd).1
    have z7 : g_ar Sc 107 0 = -1 := (x6.1 hd).2
    have u1 : r_un (fun i => g_ar Sc 400 i) ow (fun c => g_ar Sc 107 c) 1 = 0 := by
      show 0 + (if r_wt (fun i => g_ar Sc 400 i) ow (fun c => g_ar Sc 107 c) 0 then 1 else 0) = 0
      rw [if_neg (fun q => by have := q.2; (try simp only at this); rw [z7] at this; exact absurd this (by decide))]
    rw [show (1 : Nat) - 1 = 0 from rfl, z6, if_pos rfl]
    have p0 : p = 0 := by omega
    subst p0
    have X := h.root (Tc := s_sc Sc 102 (nI 0)) (Tm := s_sc Sm 724 (nI 0)) hke kb0 jb0 (fun _ _ _ _ => rfl) (y_sn _ _ _ _ (by decide)) (y_sn _ _ _ _ (by decide)) (fun _ _ _ _ => rfl)
    refine ⟨kk 0, _, rfl, n, 0, _, _, _, _, _, _, _, _, _, X, fun q => absurd q (by decide), ?_⟩
    show 0 + 0 + 1 + 3 * n ≤ _
    omega
  · obtain ⟨q1, q2, q3, q4, q5, q6, q7, q8, q9, q10⟩ := x6.2 (d - 1) (by omega) (by omega)
    have q2' : g_ar Sc 106 (d - 1) = nI (ow (d - 1)) := q2
    have q4' : g_ar Sc 402 (ow (d - 1)) = nI (kk (d - 1 - 1)) := q4
    have o2 : ow (d - 1) < 2 ^ 31 := by omega
    have co := k_in (i := ow (d - 1)) (L := 60) (by omega) (by decide)
    rw [q2', if_neg (nI_m1 o2), x_gt co, nI_clamp o2, x_l_e, q_ar_sc]
    by_cases w : r_wt (fun i => g_ar Sc 400 i) ow (fun c => g_ar Sc 107 c) (d - 1)
    · have w1 : g_ar Sc 400 (ow (d - 1)) = 2 := w.1
      have w2 : g_ar Sc 107 (d - 1) = 0 := w.2
      have us := r_un_step (fun i => g_ar Sc 400 i) ow (fun c => g_ar Sc 107 c) w
      rw [show d - 1 + 1 = d by omega] at us
      have op := k_open (m := m) kb0 (by omega) (by omega) (nI (ow (d - 1))) 1 (nI (kk (d - 1 - 1))) (g_ar Sc 104 (d - 1)) (g_ar Sc 105 (d - 1))
      rw [show d - 1 + 1 = d by omega] at op
      obtain ⟨p6, p7, p3, p4, p5, p8⟩ := op_at (S := s_sc Sc 102 (nI (d - 1))) (d := d - 1) (wc := wc) (nI (ow (d - 1))) 1 (nI (kk (d - 1 - 1))) (g_ar Sc 104 (d - 1)) (g_ar Sc 105 (d - 1))
      have jb1 : j_b S1 n (d + (r_un (fun i => g_ar Sc 400 i) ow (fun c => g_ar Sc 107 c) d - 1)) (s_sc Sm 724 (nI p)) := by
        rw [show d + (r_un (fun i => g_ar Sc 400 i) ow (fun c => g_ar Sc 107 c) d - 1) = p by omega]
        exact jb0
      have X := h.turn (Tc := k_op (s_sc Sc 102 (nI (d - 1))) (d - 1) wc (nI (ow (d - 1))) 1 (nI (kk (d - 1 - 1))) (g_ar Sc 104 (d - 1)) (g_ar Sc 105 (d - 1))) (Tm := s_sc Sm 724 (nI p)) (by omega) hke w op.2 jb1 (fun j x h1 h2 => by rw [op_ar _ _ _ _ _ j x (by omega) (by omega), q_ar_sc]) (fun j c h1 h2 h3 => by rw [op_ar _ _ _ _ _ j c (by omega) (by omega), q_ar_sc]) ⟨p3, p4, p5, p6.trans q2'.symm, p7, p8⟩ ?_ ?_ (fun i hi => by rw [op_w _ _ _ _ _ i hi, q_ar_sc]) (op_w0 _ _ _ _ _) (fun _ _ _ _ => rfl)
      · refine ⟨kk (d - 1) + 1, _, ?_, n, d, _, _, _, _, _, _, _, _, _, X, fun _ => ?_, ?_⟩
        · rw [w1, if_pos rfl, x_l_e, x_gt cd, nI_clamp d2, x_l_e, q_ar_sc, w2, if_pos rfl, x_gt (k_in2 (show ow (d - 1) < 60 by omega) o2), x_l_e, q_ar_sc, q4', x_l_e, x_gt cd, nI_clamp d2, x_l_e, q_ar_sc, x_l_e, x_gt cd, nI_clamp d2, x_l_e, q_ar_sc, op.1, x_b_s, nI_1]
        · show kk (d - 1) + 1 = (if d - 1 = d - 1 then en (d - 1) + 1 else kk (d - 1))
          rw [if_pos rfl, hke]
        · have e := X.2.1.2.2
          have ule := r_un_le2 (fun i => g_ar (k_op (s_sc Sc 102 (nI (d - 1))) (d - 1) wc (nI (ow (d - 1))) 1 (nI (kk (d - 1 - 1))) (g_ar Sc 104 (d - 1)) (g_ar Sc 105 (d - 1))) 400 i) ow (fun c => g_ar (k_op (s_sc Sc 102 (nI (d - 1))) (d - 1) wc (nI (ow (d - 1))) 1 (nI (kk (d - 1 - 1))) (g_ar Sc 104 (d - 1)) (g_ar Sc 105 (d - 1))) 107 c) d
          rw [y_sc] at e
          have := (nI_eq (by omega) (by omega)).mp e
          omega
      · have dD := x8.2.2.2.1
        rw [op_411, y_sn _ _ _ _ (by decide), x8b, show d - 1 + 1 = d by omega]
        by_cases c : nI D < nI d
        · by_cases bD : D < 2 ^ 31
          · exact absurd c (nI_nlt dD (by omega))
          · rcases x8.2.2.2.2.2 with z | ⟨s, s1, -, s2⟩
            · omega
            · have := r_D_le x8 s s1
              omega
        · rw [if_neg c]
      · rw [op_sc _ _ _ _ _ 410 (by decide), y_sn _ _ _ _ (by decide)]
    · have us : r_un (fun i => g_ar Sc 400 i) ow (fun c => g_ar Sc 107 c) d = r_un (fun i => g_ar Sc 400 i) ow (fun c => g_ar Sc 107 c) (d - 1) := by
        have : r_un (fun i => g_ar Sc 400 i) ow (fun c => g_ar Sc 107 c) (d - 1 + 1) = r_un (fun i => g_ar Sc 400 i) ow (fun c => g_ar Sc 107 c) (d - 1) := by
          show _ + (if r_wt (fun i => g_ar Sc 400 i) ow (fun c => g_ar Sc 107 c) (d - 1) then 1 else 0) = _
          rw [if_neg w]; rfl
        rw [show d - 1 + 1 = d by omega] at this
        exact this
      have e89 : f_X1_closeBody_89 m (s_sc Sc 102 (nI (d - 1))) (nI (ow (d - 1))) = some (nI (kk (d - 1 - 1)), s_ar (s_sc Sc 102 (nI (d - 1))) 405 (ow (d - 1)) (nI (n - 1 - ow (d - 1)))) := by
        unfold f_X1_closeBody_89
        rw [x_l_e, y_sn _ _ _ _ (by decide), x1.2.2.2.2.1, pk_sub (by omega), x_gt co, nI_clamp o2, x_l_e, x_gt (k_in2 (show ow (d - 1) < 60 by omega) o2), x_l_e, q_ar_ar, if_neg (by omega), q_ar_sc, q4']
        have := nI_pred (n - 1 - ow (d - 1))
        rw [show n - 1 - ow (d - 1) + 1 = n - ow (d - 1) by omega] at this
        rw [this]
      have kb1 : k_b S0 ri n (d - 1) wc (s_ar (s_sc Sc 102 (nI (d - 1))) 405 (ow (d - 1)) (nI (n - 1 - ow (d - 1)))) := ⟨kb0.1.tr (fk_ar _ 405 _ _ (by omega)), kb0.2.1, kb0.2.2.1, kb0.2.2.2.1, kb0.2.2.2.2.1, kb0.2.2.2.2.2⟩
      have hh := h
      rw [show d = d - 1 + 1 by omega] at hh
      have X := hh.pop (Tc := s_ar (s_sc Sc 102 (nI (d - 1))) 405 (ow (d - 1)) (nI (n - 1 - ow (d - 1)))) (Tm := s_sc Sm 724 (nI p)) (by omega) hke w kb1 (by rw [show d - 1 + 1 = d by omega, ← hp]; exact jb0) (fun j x h1 h2 h3 => by rw [q_ar_ar, if_neg (by omega), q_ar_sc]) (fun x => by rw [q_ar_ar, q_ar_sc]; simp only [true_and]) (by rw [q_sc_ar, y_sn _ _ _ _ (by decide)]) (by rw [q_sc_ar, y_sn _ _ _ _ (by decide)]) (fun _ _ _ _ => rfl)
      refine ⟨kk (d - 1 - 1), _, ?_, n, d - 1, _, _, _, _, _, _, _, _, _, X, fun _ => rfl, ?_⟩
      · by_cases w1 : g_ar Sc 400 (ow (d - 1)) = 2
        · have w2 : ¬ g_ar Sc 107 (d - 1) = 0 := fun z => w ⟨w1, z⟩
          rw [if_pos w1, x_l_e, x_gt cd, nI_clamp d2, x_l_e, q_ar_sc, if_neg w2]
          exact e89
        · rw [if_neg w1]
          exact e89
      · have e7 : r_un (fun i => g_ar (s_ar (s_sc Sc 102 (nI (d - 1))) 405 (ow (d - 1)) (nI (n - 1 - ow (d - 1)))) 400 i) ow (fun c => g_ar (s_ar (s_sc Sc 102 (nI (d - 1))) 405 (ow (d - 1)) (nI (n - 1 - ow (d - 1)))) 107 c) (d - 1) = r_un (fun i => g_ar Sc 400 i) ow (fun c => g_ar Sc 107 c) (d - 1) := r_un_eq (d - 1) (fun c hc => by unfold r_wt; (try simp only); rw [q_ar_ar, if_neg (by omega), q_ar_ar, if_neg (by omega), q_ar_sc, q_ar_sc])
        rw [e7]
        omega
end
