/-! READING: each kind of STATEMENT without a BODY, in both -/
section
variable {S0 S1 : x_S} {ri r L n d wc D m : Nat} {kk en ow fm hi dp : Nat → Nat} {T : List tx_T} {Sc Sm : x_S}
theorem k_b.s410 {S : x_S} (h : k_b S0 ri n d wc S) (v : Int32) : k_b S0 ri n d wc (s_sc S 410 v) := ⟨h.1.tr (fk_sc S 410 v (by omega)), h.2.1, h.2.2.1, (y_sn _ _ _ _ (by decide)).trans h.2.2.2.1, (y_sn _ _ _ _ (by decide)).trans h.2.2.2.2.1, (y_sn _ _ _ _ (by decide)).trans h.2.2.2.2.2⟩
/-- begin -/
theorem k_bgn (h : r_X S0 S1 ri L n d wc kk en ow fm hi dp D T Sc Sm) (hd : 0 < d) (hk : kk (d - 1) < en (d - 1)) {j beh own : Nat} (hj : j < wc) (hsl : g_ar Sc 108 (d - 1) = nI j) (hown : own < 60) (so : Int32) : f_X1_begin m Sc so (nI (kk (d - 1))) (nI beh) (nI own) = some (nI n, k_ws (k_bg Sc n so (nI (kk (d - 1))) (nI beh) (g_ar Sc 106 (d - 1)) (g_ar Sc 107 (d - 1)) own j) wc [so]) ∧ k_b S0 ri (n + 1) d (wc + 1) (k_ws (k_bg Sc n so (nI (kk (d - 1))) (nI beh) (g_ar Sc 106 (d - 1)) (g_ar Sc 107 (d - 1)) own j) wc [so]) := by
  obtain ⟨r1, r2, r3, r4, r5, r6, -⟩ := h.room hd hk
  have hb := h.1
  rw [show d = d - 1 + 1 by omega] at hb
  have := k_begin (m := m) hb r1 (by omega) (by omega) (show j < 241 by omega) hown hsl so (nI (kk (d - 1))) (nI beh)
  rw [show d - 1 + 1 = d by omega] at this
  exact ⟨this.1, k_b.ws [so] this.2⟩
theorem k_pa (h : r_X S0 S1 ri L n d wc kk en ow fm hi dp D T Sc Sm) (hA : r_A S0 S1 ri r L) {i : Nat} (hi : i < L) : g_pa S0 0 ri i = g_ar S1 702 (60 * r + i) ∧ g_pa S0 1 ri i = g_ar S1 703 (60 * r + i) ∧ g_pa S0 2 ri i = g_ar S1 704 (60 * r + i) ∧ g_pa S0 3 ri i = g_ar S1 705 (60 * r + i) := by
  obtain ⟨-, -, hA⟩ := hA
  obtain ⟨a1, a2, a3, a4, -⟩ := hA i hi
  exact ⟨a1, a2, a3, a4⟩
/-- neither B nor C -/
theorem k_isN (h : r_X S0 S1 ri L n d wc kk en ow fm hi dp D T Sc Sm) (hd : 0 < d) (hk : kk (d - 1) < en (d - 1)) (C : Int32) : f_X1_isNeither m Sc C = some (if C = g_ar Sc 104 (d - 1) ∨ C = g_ar Sc 105 (d - 1) then 0 else 1, Sc) := by
  obtain ⟨r1, r2, r3, r4, r5, r6, -⟩ := h.room hd hk
  have hb := h.1
  have k2 : kk (d - 1) < 2 ^ 31 := by omega
  have d2 : d - 1 < 2 ^ 31 := by omega
  have ck := k_in (i := kk (d - 1)) (L := 60) (by omega) (by decide)
  have ck2 := k_in2 (i := kk (d - 1)) (L := 60) (by omega) k2
  have cd := k_in (i := d - 1) (L := 61) (by omega) (by decide)
  have ed : nI d - 1 = nI (d - 1) := by have := nI_pred (d - 1); rw [show d - 1 + 1 = d by omega] at this; exact this
  unfold f_X1_isNeither
  rw [x_l_e, hb.2.2.2.1, ed, x_gt cd, nI_clamp d2, x_l_e, z_g0, z_g1]
  by_cases e1 : C = g_ar Sc 104 (d - 1)
  · rw [if_pos e1, if_pos (Or.inl e1)]
  · rw [if_neg e1, x_l_e, ed, x_gt cd, nI_clamp d2, x_l_e]
    by_cases e2 : C = g_ar Sc 105 (d - 1)
    · rw [if_pos e2, if_pos (Or.inr e2)]
    · rw [if_neg e2, if_neg (fun z => z.elim e1 e2)]
/-- whether it is an IF -/
theorem k_isIf (h : r_X S0 S1 ri L n d wc kk en ow fm hi dp D T Sc Sm) (hd : 0 < d) (hk : kk (d - 1) < en (d - 1)) {K C : Int32} (hK : g_pa S0 0 ri (kk (d - 1)) = K) (hC : g_pa S0 3 ri (kk (d - 1)) = C) : f_X1_isIf m Sc (nI (kk (d - 1))) = some (if K = 3 ∧ ¬ C ≤ nI (kk (d - 1)) ∧ ¬ nI (en (d - 1)) < C ∧ ¬ (C = g_ar Sc 104 (d - 1) ∨ C = g_ar Sc 105 (d - 1)) then 1 else 0, Sc) := by
  obtain ⟨r1, r2, r3, r4, r5, r6, -⟩ := h.room hd hk
  have hb := h.1
  have k2 : kk (d - 1) < 2 ^ 31 := by omega
  have d2 : d - 1 < 2 ^ 31 := by omega
  have ck := k_in (i := kk (d - 1)) (L := 60) (by omega) (by decide)
  have ck2 := k_in2 (i := kk (d - 1)) (L := 60) (by omega) k2
  have cd := k_in (i := d - 1) (L := 61) (by omega) (by decide)
  have ed : nI d - 1 = nI (d - 1) := by have := nI_pred (d - 1); rw [show d - 1 + 1 = d by omega] at this; exact this
  have e103 : g_ar Sc 103 (d - 1) = nI (en (d - 1)) := (h.2.2.2.1 (d - 1) (by omega)).1
  have hC' : g_pa Sc 3 ri (kk (d - 1)) = C := (hb.1.2.2.2.2.1 3 ri _).trans hC
  have hK' : g_pa Sc 0 ri (kk (d - 1)) = K := (hb.1.2.2.2.2.1 0 ri _).trans hK
  unfold f_X1_isIf
  rw [hb.2.1, x_o_s, x_gt hb.2.2.1, x_gt hb.2.2.1, x_gt ck, nI_clamp k2, x_l_e, hC', x_o_s, x_gt hb.2.2.1, x_gt hb.2.2.1, x_gt ck2, x_l_e, hK', z_g0, x_l_e, hb.2.2.2.1, ed, x_gt cd, nI_clamp d2, x_l_e, e103, k_isN h hd hk, x_b2_s, z_g0, z_g1]
  by_cases e1 : K = 3
  · rw [if_pos e1]
    by_cases e2 : C ≤ nI (kk (d - 1))
    · rw [if_pos e2, if_neg (fun z => z.2.1 e2)]
    · rw [if_neg e2]
      by_cases e3 : nI (en (d - 1)) < C
      · rw [if_pos e3, if_neg (fun z => z.2.2.1 e3)]
      · rw [if_neg e3]
        by_cases e4 : C = g_ar Sc 104 (d - 1) ∨ C = g_ar Sc 105 (d - 1)
        · rw [if_pos e4, if_pos rfl, if_neg (fun z => z.2.2.2 e4)]
        · rw [if_neg e4, if_neg i_1n, if_pos ⟨e1, e2, e3, e4⟩]
  · rw [if_neg e1, if_neg (fun z => e1 z.1)]
/-- BREAK, AGAIN, JUMP out of a GO -/
theorem k_leap2 (h : r_X S0 S1 ri L n d wc kk en ow fm hi dp D T Sc Sm) (hd : 0 < d) (hk : kk (d - 1) < en (d - 1)) {j : Nat} (hj : j < wc) (hsl : g_ar Sc 108 (d - 1) = nI j) {C : Int32} (hK : g_pa S0 0 ri (kk (d - 1)) = 2) (hC : g_pa S0 3 ri (kk (d - 1)) = C) : f_X1_readLeap m Sc (nI (kk (d - 1))) = if C = g_ar Sc 104 (d - 1) then some (nI (kk (d - 1) + 1), k_ws (k_bg Sc n 6 (nI (kk (d - 1))) (nI (kk (d - 1) + 1)) (g_ar Sc 106 (d - 1)) (g_ar Sc 107 (d - 1)) (kk (d - 1)) j) wc [6]) else if C = g_ar Sc 105 (d - 1) then some (nI (kk (d - 1) + 1), k_ws (k_bg Sc n 7 (nI (kk (d - 1))) (nI (kk (d - 1) + 1)) (g_ar Sc 106 (d - 1)) (g_ar Sc 107 (d - 1)) (kk (d - 1)) j) wc [7]) else some (nI (kk (d - 1) + 1), s_sc (k_ws (k_bg Sc n 8 (nI (kk (d - 1))) (nI (kk (d - 1) + 1)) (g_ar Sc 106 (d - 1)) (g_ar Sc 107 (d - 1)) (kk (d - 1)) j) wc [8, C]) 410 (g_sc Sc 410 + 1)) := by
  obtain ⟨r1, r2, r3, r4, r5, r6, -⟩ := h.room hd hk
  have hb := h.1
  have k2 : kk (d - 1) < 2 ^ 31 := by omega
  have d2 : d - 1 < 2 ^ 31 := by omega
  have ck := k_in (i := kk (d - 1)) (L := 60) (by omega) (by decide)
  have ck2 := k_in2 (i := kk (d - 1)) (L := 60) (by omega) k2
  have cd := k_in (i := d - 1) (L := 61) (by omega) (by decide)
  have ed : nI d - 1 = nI (d - 1) := by have := nI_pred (d - 1); rw [show d - 1 + 1 = d by omega] at this; exact this
  have hC' : g_pa Sc 3 ri (kk (d - 1)) = C := (hb.1.2.2.2.2.1 3 ri _).trans hC
  have hK' : g_pa Sc 0 ri (kk (d - 1)) = 2 := (hb.1.2.2.2.2.1 0 ri _).trans hK
  have b6 := k_bgn (m := m) h hd hk (beh := kk (d - 1) + 1) (own := kk (d - 1)) hj hsl (by omega) 6
  have b7 := k_bgn (m := m) h hd hk (beh := kk (d - 1) + 1) (own := kk (d - 1)) hj hsl (by omega) 7
  have b8 := k_bgn (m := m) h hd hk (beh := kk (d - 1) + 1) (own := kk (d - 1)) hj hsl (by omega) 8
  have e6 : f_X1_readLeap_74 m Sc (nI (kk (d - 1))) C 0 6 = some (nI (kk (d - 1) + 1), k_ws (k_bg Sc n 6 (nI (kk (d - 1))) (nI (kk (d - 1) + 1)) (g_ar Sc 106 (d - 1)) (g_ar Sc 107 (d - 1)) (kk (d - 1)) j) wc [6]) := by
    unfold f_X1_readLeap_74
    rw [if_pos rfl]
    unfold f_X1_readLeap_92
    rw [nI_1, b6.1, x_b2_s, if_pos rfl]
    unfold f_X1_readLeap_110
    rw [if_neg (by decide), nI_1]
  have e7 : f_X1_readLeap_74 m Sc (nI (kk (d - 1))) C 0 7 = some (nI (kk (d - 1) + 1), k_ws (k_bg Sc n 7 (nI (kk (d - 1))) (nI (kk (d - 1) + 1)) (g_ar Sc 106 (d - 1)) (g_ar Sc 107 (d - 1)) (kk (d - 1)) j) wc [7]) := by
    unfold f_X1_readLeap_74
    rw [if_pos rfl]
    unfold f_X1_readLeap_92
    rw [nI_1, b7.1, x_b2_s, if_pos rfl]
    unfold f_X1_readLeap_110
    rw [if_neg (by decide), nI_1]
  have e8 : f_X1_readLeap_74 m Sc (nI (kk (d - 1))) C 0 8 = some (nI (kk (d - 1) + 1), s_sc (k_ws (k_bg Sc n 8 (nI (kk (d - 1))) (nI (kk (d - 1) + 1)) (g_ar Sc 106 (d - 1)) (g_ar Sc 107 (d - 1)) (kk (d - 1)) j) wc [8, C]) 410 (g_sc Sc 410 + 1)) := by
    unfold f_X1_readLeap_74
    rw [if_pos rfl]
    unfold f_X1_readLeap_92
    rw [nI_1, b8.1, x_b2_s, if_pos rfl]
    unfold f_X1_readLeap_110
    rw [if_pos rfl, nI_1, k_word b8.2 (by omega), x_b_s, x_l_e, x_l_e, kw_sc 410 (by decide), kw_sc 410 (by decide), bg_sc _ _ _ _ _ _ _ 410 (by decide)]
    rfl
  unfold f_X1_readLeap
  rw [hb.2.1, x_o_s, x_gt hb.2.2.1, x_gt hb.2.2.1, x_gt ck, nI_clamp k2, x_l_e, hC', x_o_s, x_gt hb.2.2.1, x_gt hb.2.2.1, x_gt ck2, x_l_e, hK', if_neg (by decide)]
  unfold f_X1_readLeap_28
  rw [x_l_e, hb.2.2.2.1, ed, x_gt cd, nI_clamp d2, x_l_e, x_l_e, ed, x_gt cd, nI_clamp d2, x_l_e, e6, e7, e8]
/-- the same three, if -/
theorem k_leap3 (h : r_X S0 S1 ri L n d wc kk en ow fm hi dp D T Sc Sm) (hd : 0 < d) (hk : kk (d - 1) < en (d - 1)) {j : Nat} (hj : j < wc) (hsl : g_ar Sc 108 (d - 1) = nI j) {A B C : Int32} (hK : g_pa S0 0 ri (kk (d - 1)) = 3) (hA : g_pa S0 1 ri (kk (d - 1)) = A) (hB : g_pa S0 2 ri (kk (d - 1)) = B) (hC : g_pa S0 3 ri (kk (d - 1)) = C) : f_X1_readLeap m Sc (nI (kk (d - 1))) = if C = g_ar Sc 104 (d - 1) then some (nI (kk (d - 1) + 1), k_ws (k_bg Sc n 9 (nI (kk (d - 1))) (nI (kk (d - 1) + 1)) (g_ar Sc 106 (d - 1)) (g_ar Sc 107 (d - 1)) (kk (d - 1)) j) wc [9, A, B]) else if C = g_ar Sc 105 (d - 1) then some (nI (kk (d - 1) + 1), k_ws (k_bg Sc n 10 (nI (kk (d - 1))) (nI (kk (d - 1) + 1)) (g_ar Sc 106 (d - 1)) (g_ar Sc 107 (d - 1)) (kk (d - 1)) j) wc [10, A, B]) else some (nI (kk (d - 1) + 1), s_sc (k_ws (k_bg Sc n 11 (nI (kk (d - 1))) (nI (kk (d - 1) + 1)) (g_ar Sc 106 (d - 1)) (g_ar Sc 107 (d - 1)) (kk (d - 1)) j) wc [11, A, B, C]) 410 (g_sc Sc 410 + 1)) := by
  obtain ⟨r1, r2, r3, r4, r5, r6, -⟩ := h.room hd hk
  have hb := h.1
  have k2 : kk (d - 1) < 2 ^ 31 := by omega
  have d2 : d - 1 < 2 ^ 31 := by omega
  have ck := k_in (i := kk (d - 1)) (L := 60) (by omega) (by decide)
  have ck2 := k_in2 (i := kk (d - 1)) (L := 60) (by omega) k2
  have cd := k_in (i := d - 1) (L := 61) (by omega) (by decide)
  have ed : nI d - 1 = nI (d - 1) := by have := nI_pred (d - 1); rw [show d - 1 + 1 = d by omega] at this; exact this
  have hC' : g_pa Sc 3 ri (kk (d - 1)) = C := (hb.1.2.2.2.2.1 3 ri _).trans hC
  have hK' : g_pa Sc 0 ri (kk (d - 1)) = 3 := (hb.1.2.2.2.2.1 0 ri _).trans hK
  have b6 := k_bgn (m := m) h hd hk (beh := kk (d - 1) + 1) (own := kk (d - 1)) hj hsl (by omega) 9
  have b7 := k_bgn (m := m) h hd hk (beh := kk (d - 1) + 1) (own := kk (d - 1)) hj hsl (by omega) 10
  have b8 := k_bgn (m := m) h hd hk (beh := kk (d - 1) + 1) (own := kk (d - 1)) hj hsl (by omega) 11
  have w6 := k_wordTest (m := m) b6.2 (by omega) (show kk (d - 1) < 60 by omega)
  have w7 := k_wordTest (m := m) b7.2 (by omega) (show kk (d - 1) < 60 by omega)
  have w8 := k_wordTest (m := m) b8.2 (by omega) (show kk (d - 1) < 60 by omega)
  have w8b := k_b.ws [A, B] b8.2
  rw [hA, hB] at w6 w7 w8
  have e6 : f_X1_readLeap_74 m Sc (nI (kk (d - 1))) C 1 6 = some (nI (kk (d - 1) + 1), k_ws (k_bg Sc n 9 (nI (kk (d - 1))) (nI (kk (d - 1) + 1)) (g_ar Sc 106 (d - 1)) (g_ar Sc 107 (d - 1)) (kk (d - 1)) j) wc [9, A, B]) := by
    unfold f_X1_readLeap_74
    rw [if_neg i_1n, show (6 : Int32) - 6 + 9 = 9 from rfl]
    unfold f_X1_readLeap_92
    rw [nI_1, b6.1, x_b2_s, if_neg i_1n, w6, x_b_s]
    unfold f_X1_readLeap_110
    rw [if_neg (by decide), nI_1]
    rfl
  have e7 : f_X1_readLeap_74 m Sc (nI (kk (d - 1))) C 1 7 = some (nI (kk (d - 1) + 1), k_ws (k_bg Sc n 10 (nI (kk (d - 1))) (nI (kk (d - 1) + 1)) (g_ar Sc 106 (d - 1)) (g_ar Sc 107 (d - 1)) (kk (d - 1)) j) wc [10, A, B]) := by
    unfold f_X1_readLeap_74
    rw [if_neg i_1n, show (7 : Int32) - 6 + 9 = 10 from rfl]
    unfold f_X1_readLeap_92
    rw [nI_1, b7.1, x_b2_s, if_neg i_1n, w7, x_b_s]
    unfold f_X1_readLeap_110
    rw [if_neg (by decide), nI_1]
    rfl
  have e8 : f_X1_readLeap_74 m Sc (nI (kk (d - 1))) C 1 8 = some (nI (kk (d - 1) + 1), s_sc (k_ws (k_bg Sc n 11 (nI (kk (d - 1))) (nI (kk (d - 1) + 1)) (g_ar Sc 106 (d - 1)) (g_ar Sc 107 (d - 1)) (kk (d - 1)) j) wc [11, A, B, C]) 410 (g_sc Sc 410 + 1)) := by
    unfold f_X1_readLeap_74
    rw [if_neg i_1n, show (8 : Int32) - 6 + 9 = 11 from rfl]
    unfold f_X1_readLeap_92
    rw [nI_1, b8.1, x_b2_s, if_neg i_1n, w8, x_b_s]
    unfold f_X1_readLeap_110
    rw [if_pos rfl, nI_1, k_word w8b (by simp only [List.length]; omega), x_b_s, x_l_e, x_l_e, kw_sc 410 (by decide), kw_sc 410 (by decide), kw_sc 410 (by decide), bg_sc _ _ _ _ _ _ _ 410 (by decide)]
    rfl
  unfold f_X1_readLeap
  rw [hb.2.1, x_o_s, x_gt hb.2.2.1, x_gt hb.2.2.1, x_gt ck, nI_clamp k2, x_l_e, hC', x_o_s, x_gt hb.2.2.1, x_gt hb.2.2.1, x_gt ck2, x_l_e, hK', if_pos rfl]
  unfold f_X1_readLeap_28
  rw [x_l_e, hb.2.2.2.1, ed, x_gt cd, nI_clamp d2, x_l_e, x_l_e, ed, x_gt cd, nI_clamp d2, x_l_e, e6, e7, e8]
/-- what the class does with a jump that is no loop's -/
def k_jm (m : Nat) (S : x_S) (k : Int32) : Option (Int32 × x_S) := x_b2 (f_X1_isIf m S k) (fun v S => if v = 0 then x_b2 (f_X1_readLeap m S k) (fun v S => some (v, S)) else x_b2 (f_X1_readIf m S k) (fun v S => some (v, S)))
/-- GO -/
theorem k_go (h : r_X S0 S1 ri L n d wc kk en ow fm hi dp D T Sc Sm) (hd : 0 < d) (hk : kk (d - 1) < en (d - 1)) {j : Nat} (hj : j < wc) (hsl : g_ar Sc 108 (d - 1) = nI j) {C : Int32} (hK : g_pa S0 0 ri (kk (d - 1)) = 2) (hC : g_pa S0 3 ri (kk (d - 1)) = C) : k_jm m Sc (nI (kk (d - 1))) = if C = g_ar Sc 104 (d - 1) then some (nI (kk (d - 1) + 1), k_ws (k_bg Sc n 6 (nI (kk (d - 1))) (nI (kk (d - 1) + 1)) (g_ar Sc 106 (d - 1)) (g_ar Sc 107 (d - 1)) (kk (d - 1)) j) wc [6]) else if C = g_ar Sc 105 (d - 1) then some (nI (kk (d - 1) + 1), k_ws (k_bg Sc n 7 (nI (kk (d - 1))) (nI (kk (d - 1) + 1)) (g_ar Sc 106 (d - 1)) (g_ar Sc 107 (d - 1)) (kk (d - 1)) j) wc [7]) else some (nI (kk (d - 1) + 1), s_sc (k_ws (k_bg Sc n 8 (nI (kk (d - 1))) (nI (kk (d - 1) + 1)) (g_ar Sc 106 (d - 1)) (g_ar Sc 107 (d - 1)) (kk (d - 1)) j) wc [8, C]) 410 (g_sc Sc 410 + 1)) := by
  have hi : f_X1_isIf m Sc (nI (kk (d - 1))) = some (0, Sc) := by
    rw [k_isIf h hd hk hK hC, if_neg (fun z => absurd z.1 (by decide))]
  unfold k_jm
  rw [hi, x_b2_s, if_pos rfl, x_b2_id]
  exact k_leap2 h hd hk hj hsl hK hC
/-- TEST -/
theorem k_test (h : r_X S0 S1 ri L n d wc kk en ow fm hi dp D T Sc Sm) (hd : 0 < d) (hk : kk (d - 1) < en (d - 1)) {j : Nat} (hj : j < wc) (hsl : g_ar Sc 108 (d - 1) = nI j) {A B C : Int32} (hK : g_pa S0 0 ri (kk (d - 1)) = 3) (hA : g_pa S0 1 ri (kk (d - 1)) = A) (hB : g_pa S0 2 ri (kk (d - 1)) = B) (hC : g_pa S0 3 ri (kk (d - 1)) = C) : k_jm m Sc (nI (kk (d - 1))) = if C = g_ar Sc 104 (d - 1) then some (nI (kk (d - 1) + 1), k_ws (k_bg Sc n 9 (nI (kk (d - 1))) (nI (kk (d - 1) + 1)) (g_ar Sc 106 (d - 1)) (g_ar Sc 107 (d - 1)) (kk (d - 1)) j) wc [9, A, B]) else if C = g_ar Sc 105 (d - 1) then some (nI (kk (d - 1) + 1), k_ws (k_bg Sc n 10 (nI (kk (d - 1))) (nI (kk (d - 1) + 1)) (g_ar Sc 106 (d - 1)) (g_ar Sc 107 (d - 1)) (kk (d - 1)) j) wc [10, A, B]) else if C ≤ nI (kk (d - 1)) ∨ nI (en (d - 1)) < C then some (nI (kk (d - 1) + 1), s_sc (k_ws (k_bg Sc n 11 (nI (kk (d - 1))) (nI (kk (d - 1) + 1)) (g_ar Sc 106 (d - 1)) (g_ar Sc 107 (d - 1)) (kk (d - 1)) j) wc [11, A, B, C]) 410 (g_sc Sc 410 + 1)) else f_X1_readIf m Sc (nI (kk (d - 1))) := by
  have hl := k_leap3 (m := m) h hd hk hj hsl hK hA hB hC
  have hi := k_isIf (m := m) h hd hk hK hC
  have h0 : (C = g_ar Sc 104 (d - 1) ∨ C = g_ar Sc 105 (d - 1) ∨ C ≤ nI (kk (d - 1)) ∨ nI (en (d - 1)) < C) → k_jm m Sc (nI (kk (d - 1))) = f_X1_readLeap m Sc (nI (kk (d - 1))) := by
    intro q
    rw [if_neg (fun z => q.elim (fun q => z.2.2.2 (Or.inl q)) (fun q => q.elim (fun q => z.2.2.2 (Or.inr q)) (fun q => q.elim z.2.1 z.2.2.1)))] at hi
    unfold k_jm
    rw [hi, x_b2_s, if_pos rfl, x_b2_id]
  by_cases e1 : C = g_ar Sc 104 (d - 1)
  · rw [h0 (Or.inl e1), hl, if_pos e1, if_pos e1]
  · by_cases e2 : C = g_ar Sc 105 (d - 1)
    · rw [h0 (Or.inr (Or.inl e2)), hl, if_neg e1, if_neg e1, if_pos e2, if_pos e2]
    · by_cases e3 : C ≤ nI (kk (d - 1)) ∨ nI (en (d - 1)) < C
      · rw [h0 (Or.inr (Or.inr e3)), hl, if_neg e1, if_neg e1, if_neg e2, if_neg e2, if_pos e3]
      · rw [if_neg e1, if_neg e2, if_neg e3]
        rw [if_pos ⟨rfl, fun z => e3 (Or.inl z), fun z => e3 (Or.inr z), fun z => z.elim e1 e2⟩] at hi
        unfold k_jm
        rw [hi, x_b2_s, if_neg i_1n, x_b2_id]
/-- any other ACT -/
theorem k_act (h : r_X S0 S1 ri L n d wc kk en ow fm hi dp D T Sc Sm) (hd : 0 < d) (hk : kk (d - 1) < en (d - 1)) {j : Nat} (hj : j < wc) (hsl : g_ar Sc 108 (d - 1) = nI j) {A B K : Int32} (hK : g_pa S0 0 ri (kk (d - 1)) = K) (hA : g_pa S0 1 ri (kk (d - 1)) = A) (hB : g_pa S0 2 ri (kk (d - 1)) = B) : f_X1_readAct m Sc (nI (kk (d - 1))) = some (nI (kk (d - 1) + 1), k_ws (k_bg Sc n 0 (nI (kk (d - 1))) (nI (kk (d - 1) + 1)) (g_ar Sc 106 (d - 1)) (g_ar Sc 107 (d - 1)) (kk (d - 1)) j) wc [0, K, A, B]) := by
  obtain ⟨r1, r2, r3, r4, r5, r6, -⟩ := h.room hd hk
  have k2 : kk (d - 1) < 2 ^ 31 := by omega
  have ck := k_in (i := kk (d - 1)) (L := 60) (by omega) (by decide)
  have b0 := k_bgn (m := m) h hd hk (beh := kk (d - 1) + 1) (own := kk (d - 1)) hj hsl (by omega) 0
  have hK' := (b0.2.1.2.2.2.2.1 0 ri (kk (d - 1))).trans hK
  have b1 := k_b.ws [K] b0.2
  have w := k_wordTest (m := m) b1 (by simp only [List.length]; omega) (show kk (d - 1) < 60 by omega)
  rw [hA, hB] at w
  unfold f_X1_readAct
  rw [nI_1, b0.1, x_b2_s, b0.2.2.1, x_o_s, x_gt b0.2.2.2.1, x_gt b0.2.2.2.1, x_gt ck, nI_clamp k2, x_l_e, hK', k_word b0.2 (by omega), x_b_s, w, x_b_s]
  rfl
/-- the reference -/
theorem j_90 {p k e : Nat} (hr : r < 12) (hf : fr_m S1 Sm) (hk : k < 60) (hp : p < 200) {K A B C b a : Int32} (hK : g_ar S1 702 (60 * r + k) = K) (hA : g_ar S1 703 (60 * r + k) = A) (hB : g_ar S1 704 (60 * r + k) = B) (hC : g_ar S1 705 (60 * r + k) = C) (hb : g_ar Sm 727 p = b) (ha : g_ar Sm 728 p = a) : f_X7_readAt_90 m Sm (nI (60 * r)) (nI k) (nI p) (nI e) = f_X7_readAt_174 m Sm (nI (60 * r)) (nI k) (nI p) (nI e) (nI (60 * r + k)) A B C (if (K = 2 ∨ K = 3) ∧ C = b then 1 else 0) (if (K = 2 ∨ K = 3) ∧ C = a then 1 else 0) := by
  have k2 : 60 * r + k < 2 ^ 31 := by omega
  have p2 : p < 2 ^ 31 := by omega
  have ck := k_in (i := 60 * r + k) (L := 720) (by omega) (by decide)
  have cp := k_in (i := p) (L := 200) hp (by decide)
  have K' : g_ar Sm 702 (60 * r + k) = K := (hf.2 702 _ (by decide)).trans hK
  have A' : g_ar Sm 703 (60 * r + k) = A := (hf.2 703 _ (by decide)).trans hA
  have B' : g_ar Sm 704 (60 * r + k) = B := (hf.2 704 _ (by decide)).trans hB
  have C' : g_ar Sm 705 (60 * r + k) = C := (hf.2 705 _ (by decide)).trans hC
  have e147 : ∀ t, f_X7_readAt_147 m Sm (nI (60 * r)) (nI k) (nI p) (nI e) (nI (60 * r + k)) A B C t = f_X7_readAt_174 m Sm (nI (60 * r)) (nI k) (nI p) (nI e) (nI (60 * r + k)) A B C t (if (K = 2 ∨ K = 3) ∧ C = a then 1 else 0) := by
    intro t
    unfold f_X7_readAt_147 f_X7_readAt_173
    rw [e_leads m Sm _ (by omega), x_b2_s, K', x_gt cp, nI_clamp p2, x_l_e, ha]
    by_cases q1 : K = 2 ∨ K = 3
    · rw [if_pos q1, if_neg i_1n]
      by_cases q2 : C = a
      · rw [if_pos q2, if_pos ⟨q1, q2⟩]
      · rw [if_neg q2, if_neg (fun z => q2 z.2)]
    · rw [if_neg q1, if_pos rfl, if_neg (fun z => q1 z.1)]
  unfold f_X7_readAt_90 f_X7_readAt_146
  rw [nI_add, x_gt ck, nI_clamp k2, x_l_e, x_gt (k_in2 (show 60 * r + k < 720 by omega) k2), x_l_e, x_gt (k_in2 (show 60 * r + k < 720 by omega) k2), x_l_e, e_leads m Sm _ (by omega), x_b2_s, K', A', B', C', e147, e147, x_gt cp, nI_clamp p2, x_l_e, hb]
  generalize (if (K = 2 ∨ K = 3) ∧ C = a then (1 : Int32) else 0) = G
  by_cases q1 : K = 2 ∨ K = 3
  · rw [if_pos q1, if_neg i_1n]
    by_cases q2 : C = b
    · rw [if_pos q2, if_pos ⟨q1, q2⟩]
    · rw [if_neg q2, if_neg (fun z => q2 z.2)]
  · rw [if_neg q1, if_pos rfl, if_neg (fun z => q1 z.1)]
theorem j_174 (h : r_X S0 S1 ri L n d wc kk en ow fm hi dp D T Sc Sm) (hd : 0 < d) (hk : kk (d - 1) < en (d - 1)) {p : Nat} (hp : p = d - 1 + r_un (fun i => g_ar Sc 400 i) ow (fun c => g_ar Sc 107 c) d) (hr : r < 12) {K A B C o g : Int32} (hK : g_ar S1 702 (60 * r + kk (d - 1)) = K) : f_X7_readAt_174 m Sm (nI (60 * r)) (nI (kk (d - 1))) (nI p) (nI (en (d - 1))) (nI (60 * r + kk (d - 1))) A B C o g = if K = 2 then (if o = 0 then if g = 0 then some (j_lf Sm p n (kk (d - 1)) 8 (g_ar Sc 106 (d - 1)) (g_ar Sc 107 (d - 1)) 0 0 C) else some (j_lf Sm p n (kk (d - 1)) 7 (g_ar Sc 106 (d - 1)) (g_ar Sc 107 (d - 1)) 0 0 C) else some (j_lf Sm p n (kk (d - 1)) 6 (g_ar Sc 106 (d - 1)) (g_ar Sc 107 (d - 1)) 0 0 C)) else if K = 3 then (if o = 0 then if g = 0 then if C ≤ nI (kk (d - 1)) ∨ nI (en (d - 1)) < C then some (j_lf Sm p n (kk (d - 1)) 11 (g_ar Sc 106 (d - 1)) (g_ar Sc 107 (d - 1)) A B C) else f_X7_readIf m (s_ar Sm 725 p (nI (kk (d - 1) + 1))) (nI (60 * r)) (nI (kk (d - 1))) C else some (j_lf Sm p n (kk (d - 1)) 10 (g_ar Sc 106 (d - 1)) (g_ar Sc 107 (d - 1)) A B C) else some (j_lf Sm p n (kk (d - 1)) 9 (g_ar Sc 106 (d - 1)) (g_ar Sc 107 (d - 1)) A B C)) else some (j_lf Sm p n (kk (d - 1)) 0 (g_ar Sc 106 (d - 1)) (g_ar Sc 107 (d - 1)) A B K) := by
  obtain ⟨r1, r2, r3, r4, r5, r6, -⟩ := h.room hd hk
  have k2 : 60 * r + kk (d - 1) < 2 ^ 31 := by omega
  have p2 : p < 2 ^ 31 := by omega
  have ck := k_in (i := 60 * r + kk (d - 1)) (L := 720) (by omega) (by decide)
  have cp := k_in (i := p) (L := 200) (by omega) (by decide)
  have K' : g_ar (s_ar Sm 725 p (nI (kk (d - 1) + 1))) 702 (60 * r + kk (d - 1)) = K := by
    rw [q_ar_ar, if_neg (by omega)]
    exact (h.2.1.1.2 702 _ (by decide)).trans hK
  have lf := fun so ta tb go => (j_leaf (m := m) h hd hk hp so ta tb go).1
  have e222 : ∀ t, f_X7_readAt_222 m (s_ar Sm 725 p (nI (kk (d - 1) + 1))) (nI (kk (d - 1))) C t = some (j_lf Sm p n (kk (d - 1)) t (g_ar Sc 106 (d - 1)) (g_ar Sc 107 (d - 1)) 0 0 C) := by
    intro t
    unfold f_X7_readAt_222
    rw [nI_1, lf, x_b2_s]
  have e320 : ∀ t, f_X7_readAt_320 m (s_ar Sm 725 p (nI (kk (d - 1) + 1))) (nI (kk (d - 1))) A B C t = some (j_lf Sm p n (kk (d - 1)) t (g_ar Sc 106 (d - 1)) (g_ar Sc 107 (d - 1)) A B C) := by
    intro t
    unfold f_X7_readAt_320
    rw [nI_1, lf, x_b2_s]
  have e297 : f_X7_readAt_297 m (s_ar Sm 725 p (nI (kk (d - 1) + 1))) (nI (kk (d - 1))) A B C o g = if o = 0 then (if g = 0 then some (j_lf Sm p n (kk (d - 1)) 11 (g_ar Sc 106 (d - 1)) (g_ar Sc 107 (d - 1)) A B C) else some (j_lf Sm p n (kk (d - 1)) 10 (g_ar Sc 106 (d - 1)) (g_ar Sc 107 (d - 1)) A B C)) else some (j_lf Sm p n (kk (d - 1)) 9 (g_ar Sc 106 (d - 1)) (g_ar Sc 107 (d - 1)) A B C) := by
    unfold f_X7_readAt_297
    rw [e320, e320, e320]
  unfold f_X7_readAt_174
  rw [x_gt cp, nI_clamp p2, nI_1, x_l_e, x_gt ck, nI_clamp k2, x_l_e, x_gt (k_in2 (show 60 * r + kk (d - 1) < 720 by omega) k2), x_l_e, x_gt (k_in2 (show 60 * r + kk (d - 1) < 720 by omega) k2), x_l_e, K', e222, e222, e222, e297, lf, x_b2_s]
  by_cases q2 : K = 2
  · rw [if_pos q2, if_pos q2]
  · rw [if_neg q2, if_neg q2]
    by_cases q3 : K = 3
    · rw [if_pos q3, if_pos q3]
      by_cases o0 : o = 0
      · simp only [if_pos o0]
        by_cases g0 : g = 0
        · simp only [if_pos g0]
          by_cases q4 : C ≤ nI (kk (d - 1))
          · rw [if_pos q4, if_pos (Or.inl q4)]
          · rw [if_neg q4]
            by_cases q5 : C ≤ nI (en (d - 1))
            · rw [if_pos q5, if_neg (fun z : C ≤ nI (kk (d - 1)) ∨ nI (en (d - 1)) < C => z.elim q4 (fun z => absurd q5 (Int32.not_le.mpr z)))]
              cases f_X7_readIf m (s_ar Sm 725 p (nI (kk (d - 1) + 1))) (nI (60 * r)) (nI (kk (d - 1))) C with
              | none => rfl
              | some v => rfl
            · rw [if_neg q5, if_pos (Or.inr (Int32.not_le.mp q5))]
        · simp only [if_neg g0]
      · simp only [if_neg o0]
    · rw [if_neg q3, if_neg q3]
end
