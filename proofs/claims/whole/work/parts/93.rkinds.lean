/-! READING: each kind of STATEMENT without a BODY, in both -/
section
variable {S0 S1 : x_S} {ri r L n d wc D m : Nat} {kk en ow fm hi dp : Nat → Nat} {T : List tx_T} {Sc Sm : x_S}
theorem k_b.s410 {S : x_S} (h : k_b S0 ri n d wc S) (v : Int32) : k_b S0 ri n d wc (s_sc S 410 v) := ⟨h.1.tr (fk_sc S 410 v (by omega)), h.2.1, h.2.2.1, (y_sn _ _ _ _ (by decide)).trans h.2.2.2.1, (y_sn _ _ _ _ (by decide)).trans h.2.2.2.2.1, (y_sn _ _ _ _ (by decide)).trans h.2.2.2.2.2⟩
/-- begin -/
theorem k_bgn (h : r_X S0 S1 ri L n d wc kk en ow fm hi dp D T Sc Sm) (hd : 0 < d) (hk : kk (d - 1) < en (d - 1)) {j beh own : Nat} (hj : j < wc) (hsl : g_ar Sc 108 (d - 1) = nI j) (hown : own < 60) (so : Int32) : f_X1_begin m Sc so (nI (kk (d - 1))) (nI beh) (nI own) = some (nI n, k_ws (k_bg Sc n so (nI (kk (d - 1))) (nI beh) (g_ar Sc 106 (d - 1)) (g_ar Sc 107 (d - 1)) own j) wc [so]) ∧ k_b S0 ri (n + 1) d (wc + 1) (k_ws (k_bg Sc n so (nI (kk (d - 1))) (nI beh) (g_ar Sc 106 (d - 1)) (g_ar Sc 107 (d - 1)) own j) wc [so]) := by
  obtain ⟨r1, r2, r3, r4, r5, r6, -⟩ := h.room hd hk
  have hb := h.1
  rw [show d = d - 1 + 1 by omega] at hb
  have := k_begin (m := m) hb r1 (by omega) (by omega) (show j < 241 by omega) hown hsl so (nI (kk (d - 1))) (nI beh)
  rw [show d - 1 + 1 = d by omega] at this
  exact ⟨this.1, k_b.ws [so] this.2⟩
theorem k_pa (h : r_X S0 S1 ri L n d wc kk en ow fm hi dp D T Sc Sm) (hA : r_A S0 S1 ri r L) {i : Nat} (hi : i < L) : g_pa S0 0 ri i = g_ar S1 702 (60 * r + i) ∧ g_pa S0 1 ri i = g_ar S1 703 (60 * r + i) ∧ g_pa S0 2 ri i = g_ar S1 704 (60 * r + i) ∧ g_pa S0 3 ri i = g_ar S1 705 (60 * r + i) := by
  obtain ⟨-, -, hA⟩ := hA
  obtain ⟨a1, a2, a3, a4, -⟩ := hA i hi
  exact ⟨a1, a2, a3, a4⟩
/-- GO -/
theorem k_go (h : r_X S0 S1 ri L n d wc kk en ow fm hi dp D T Sc Sm) (hd : 0 < d) (hk : kk (d - 1) < en (d - 1)) {j : Nat} (hj : j < wc) (hsl : g_ar Sc 108 (d - 1) = nI j) {C : Int32} (hC : g_pa S0 3 ri (kk (d - 1)) = C) : f_X1_readGo m Sc (nI (kk (d - 1))) = if C = g_ar Sc 104 (d - 1) then some (nI (kk (d - 1) + 1), k_ws (k_bg Sc n 6 (nI (kk (d - 1))) (nI (kk (d - 1) + 1)) (g_ar Sc 106 (d - 1)) (g_ar Sc 107 (d - 1)) (kk (d - 1)) j) wc [6]) else if C = g_ar Sc 105 (d - 1) then some (nI (kk (d - 1) + 1), k_ws (k_bg Sc n 7 (nI (kk (d - 1))) (nI (kk (d - 1) + 1)) (g_ar Sc 106 (d - 1)) (g_ar Sc 107 (d - 1)) (kk (d - 1)) j) wc [7]) else some (nI (kk (d - 1) + 1), s_sc (k_ws (k_bg Sc n 8 (nI (kk (d - 1))) (nI (kk (d - 1) + 1)) (g_ar Sc 106 (d - 1)) (g_ar Sc 107 (d - 1)) (kk (d - 1)) j) wc [8, C]) 410 (g_sc Sc 410 + 1)) := by
  obtain ⟨r1, r2, r3, r4, r5, r6, -⟩ := h.room hd hk
  have hb := h.1
  have k2 : kk (d - 1) < 2 ^ 31 := by omega
  have d2 : d - 1 < 2 ^ 31 := by omega
  have ck := k_in (i := kk (d - 1)) (L := 60) (by omega) (by decide)
  have cd := k_in (i := d - 1) (L := 61) (by omega) (by decide)
  have hC' : g_pa Sc 3 ri (kk (d - 1)) = C := (hb.1.2.2.2.2.1 3 ri _).trans hC
  have ed : nI d - 1 = nI (d - 1) := by have := nI_pred (d - 1); rw [show d - 1 + 1 = d by omega] at this; exact this
  have b6 := k_bgn (m := m) h hd hk (beh := kk (d - 1) + 1) (own := kk (d - 1)) hj hsl (by omega) 6
  have b7 := k_bgn (m := m) h hd hk (beh := kk (d - 1) + 1) (own := kk (d - 1)) hj hsl (by omega) 7
  have b8 := k_bgn (m := m) h hd hk (beh := kk (d - 1) + 1) (own := kk (d - 1)) hj hsl (by omega) 8
  unfold f_X1_readGo
  rw [hb.2.1, x_o_s, x_gt hb.2.2.1, x_gt hb.2.2.1, x_gt ck, nI_clamp k2, x_l_e, hC', x_l_e, hb.2.2.2.1, ed, x_gt cd, nI_clamp d2, x_l_e, nI_1, b6.1, b7.1, b8.1]
  by_cases e1 : C = g_ar Sc 104 (d - 1)
  · rw [if_pos e1, if_pos e1, x_b2_s]
  · rw [if_neg e1, if_neg e1, x_l_e, ed, x_gt cd, nI_clamp d2, x_l_e]
    by_cases e2 : C = g_ar Sc 105 (d - 1)
    · rw [if_pos e2, if_pos e2, x_b2_s]
    · rw [if_neg e2, if_neg e2, x_b2_s, k_word b8.2 (by omega), x_b_s, x_l_e, x_l_e, kw_sc 410 (by decide), kw_sc 410 (by decide), bg_sc _ _ _ _ _ _ _ 410 (by decide)]
      rfl
/-- TEST -/
theorem k_test (h : r_X S0 S1 ri L n d wc kk en ow fm hi dp D T Sc Sm) (hd : 0 < d) (hk : kk (d - 1) < en (d - 1)) {j : Nat} (hj : j < wc) (hsl : g_ar Sc 108 (d - 1) = nI j) {A B C : Int32} (hA : g_pa S0 1 ri (kk (d - 1)) = A) (hB : g_pa S0 2 ri (kk (d - 1)) = B) (hC : g_pa S0 3 ri (kk (d - 1)) = C) : f_X1_readTest m Sc (nI (kk (d - 1))) = if C = g_ar Sc 104 (d - 1) then some (nI (kk (d - 1) + 1), k_ws (k_bg Sc n 9 (nI (kk (d - 1))) (nI (kk (d - 1) + 1)) (g_ar Sc 106 (d - 1)) (g_ar Sc 107 (d - 1)) (kk (d - 1)) j) wc [9, A, B]) else if C = g_ar Sc 105 (d - 1) then some (nI (kk (d - 1) + 1), k_ws (k_bg Sc n 10 (nI (kk (d - 1))) (nI (kk (d - 1) + 1)) (g_ar Sc 106 (d - 1)) (g_ar Sc 107 (d - 1)) (kk (d - 1)) j) wc [10, A, B]) else if C ≤ nI (kk (d - 1)) ∨ nI (en (d - 1)) < C then some (nI (kk (d - 1) + 1), s_sc (k_ws (k_bg Sc n 11 (nI (kk (d - 1))) (nI (kk (d - 1) + 1)) (g_ar Sc 106 (d - 1)) (g_ar Sc 107 (d - 1)) (kk (d - 1)) j) wc [11, A, B, C]) 410 (g_sc Sc 410 + 1)) else f_X1_readIf m Sc (nI (kk (d - 1))) C := by
  obtain ⟨r1, r2, r3, r4, r5, r6, -⟩ := h.room hd hk
  have hb := h.1
  have k2 : kk (d - 1) < 2 ^ 31 := by omega
  have d2 : d - 1 < 2 ^ 31 := by omega
  have ck := k_in (i := kk (d - 1)) (L := 60) (by omega) (by decide)
  have cd := k_in (i := d - 1) (L := 61) (by omega) (by decide)
  have hC' : g_pa Sc 3 ri (kk (d - 1)) = C := (hb.1.2.2.2.2.1 3 ri _).trans hC
  have ed : nI d - 1 = nI (d - 1) := by have := nI_pred (d - 1); rw [show d - 1 + 1 = d by omega] at this; exact this
  have b6 := k_bgn (m := m) h hd hk (beh := kk (d - 1) + 1) (own := kk (d - 1)) hj hsl (by omega) 9
  have b7 := k_bgn (m := m) h hd hk (beh := kk (d - 1) + 1) (own := kk (d - 1)) hj hsl (by omega) 10
  have b8 := k_bgn (m := m) h hd hk (beh := kk (d - 1) + 1) (own := kk (d - 1)) hj hsl (by omega) 11
  have e103 : g_ar Sc 103 (d - 1) = nI (en (d - 1)) := (h.2.2.2.1 (d - 1) (by omega)).1
  have w6 := k_wordTest (m := m) b6.2 (by omega) (show kk (d - 1) < 60 by omega)
  have w7 := k_wordTest (m := m) b7.2 (by omega) (show kk (d - 1) < 60 by omega)
  have w8 := k_wordTest (m := m) b8.2 (by omega) (show kk (d - 1) < 60 by omega)
  have w8b := k_b.ws [A, B] b8.2
  rw [hA, hB] at w6 w7 w8
  have e109 : f_X1_readTest_109 m Sc (nI (kk (d - 1))) C = some (nI (kk (d - 1) + 1), s_sc (k_ws (k_bg Sc n 11 (nI (kk (d - 1))) (nI (kk (d - 1) + 1)) (g_ar Sc 106 (d - 1)) (g_ar Sc 107 (d - 1)) (kk (d - 1)) j) wc [11, A, B, C]) 410 (g_sc Sc 410 + 1)) := by
    unfold f_X1_readTest_109
    rw [nI_1, b8.1, x_b2_s, w8, x_b_s, k_word w8b (by simp only [List.length]; omega), x_b_s, x_l_e, x_l_e, kw_sc 410 (by decide), kw_sc 410 (by decide), kw_sc 410 (by decide), bg_sc _ _ _ _ _ _ _ 410 (by decide)]
    rfl
  unfold f_X1_readTest
  rw [hb.2.1, x_o_s, x_gt hb.2.2.1, x_gt hb.2.2.1, x_gt ck, nI_clamp k2, x_l_e, hC', x_l_e, hb.2.2.2.1, ed, x_gt cd, nI_clamp d2, x_l_e, nI_1, b6.1, b7.1, e109]
  by_cases e1 : C = g_ar Sc 104 (d - 1)
  · rw [if_pos e1, if_pos e1, x_b2_s, w6, x_b_s]
    rfl
  · rw [if_neg e1, if_neg e1, x_l_e, ed, x_gt cd, nI_clamp d2, x_l_e]
    by_cases e2 : C = g_ar Sc 105 (d - 1)
    · rw [if_pos e2, if_pos e2, x_b2_s, w7, x_b_s]
      rfl
    · rw [if_neg e2, if_neg e2]
      by_cases e3 : C ≤ nI (kk (d - 1))
      · rw [if_pos e3, if_pos (Or.inl e3)]
      · rw [if_neg e3, x_l_e, ed, x_gt cd, nI_clamp d2, x_l_e, e103]
        by_cases e4 : nI (en (d - 1)) < C
        · rw [if_pos e4, if_pos (Or.inr e4)]
        · rw [if_neg e4, if_neg (fun q => q.elim e3 e4)]
          cases f_X1_readIf m Sc (nI (kk (d - 1))) C with
          | none => rfl
          | some v => rfl
/-- any other ACT -/
theorem k_act (h : r_X S0 S1 ri L n d wc kk en ow fm hi dp D T Sc Sm) (hd : 0 < d) (hk : kk (d - 1) < en (d - 1)) {j : Nat} (hj : j < wc) (hsl : g_ar Sc 108 (d - 1) = nI j) {A B K : Int32} (hK : g_pa S0 0 ri (kk (d - 1)) = K) (hA : g_pa S0 1 ri (kk (d - 1)) = A) (hB : g_pa S0 2 ri (kk (d - 1)) = B) : f_X1_readAct m Sc (nI (kk (d - 1))) = some (nI (kk (d - 1) + 1), k_ws (k_bg Sc n 0 (nI (kk (d - 1))) (nI (kk (d - 1) + 1)) (g_ar Sc 106 (d - 1)) (g_ar Sc 107 (d - 1)) (kk (d - 1)) j) wc [0, K, A, B]) := by
  obtain ⟨r1, r2, r3, r4, r5, r6, -⟩ := h.room hd hk
  have k2 : kk (d - 1) < 2 ^ 31 := by omega
  have ck := k_in (i := kk (d - 1)) (L := 60) (by omega) (by decide)
  have b0 := k_bgn (m := m) h hd hk (beh := kk (d - 1) + 1) (own := kk (d - 1)) hj hsl (by omega) 0
  have hK' := (b0.2.1.2.2.2.2.1 0 ri (kk (d - 1))).trans hK
  have b1 := k_b.ws [K] b0.2
  have w := k_wordTest (m := m) b1 (by simp only [List.length]; omega) (show kk (d - 1) < 60 by omega)
  rw [hA, hB] at w
  unfold f_X1_readAct
  rw [nI_1, b0.1, x_b2_s, b0.2.2.1, x_o_s, x_gt b0.2.2.2.1, x_gt b0.2.2.2.1, x_gt ck, nI_clamp k2, x_l_e, hK', k_word b0.2 (by omega), x_b_s, w, x_b_s]
  rfl
/-- the reference -/
theorem j_90 {p k e : Nat} (hr : r < 12) (hf : fr_m S1 Sm) (hk : k < 60) (hp : p < 200) {K A B C b a : Int32} (hK : g_ar S1 702 (60 * r + k) = K) (hA : g_ar S1 703 (60 * r + k) = A) (hB : g_ar S1 704 (60 * r + k) = B) (hC : g_ar S1 705 (60 * r + k) = C) (hb : g_ar Sm 727 p = b) (ha : g_ar Sm 728 p = a) : f_X7_readAt_90 m Sm (nI (60 * r)) (nI k) (nI p) (nI e) = f_X7_readAt_174 m Sm (nI (60 * r)) (nI k) (nI p) (nI e) (nI (60 * r + k)) A B C (if (K = 2 ∨ K = 3) ∧ C = b then 1 else 0) (if (K = 2 ∨ K = 3) ∧ C = a then 1 else 0) := by
  have k2 : 60 * r + k < 2 ^ 31 := by omega
  have p2 : p < 2 ^ 31 := by omega
  have ck := k_in (i := 60 * r + k) (L := 720) (by omega) (by decide)
  have cp := k_in (i := p) (L := 200) hp (by decide)
  have K' : g_ar Sm 702 (60 * r + k) = K := (hf.2 702 _ (by decide)).trans hK
  have A' : g_ar Sm 703 (60 * r + k) = A := (hf.2 703 _ (by decide)).trans hA
  have B' : g_ar Sm 704 (60 * r + k) = B := (hf.2 704 _ (by decide)).trans hB
  have C' : g_ar Sm 705 (60 * r + k) = C := (hf.2 705 _ (by decide)).trans hC
  have e147 : ∀ t, f_X7_readAt_147 m Sm (nI (60 * r)) (nI k) (nI p) (nI e) (nI (60 * r + k)) A B C t = f_X7_readAt_174 m Sm (nI (60 * r)) (nI k) (nI p) (nI e) (nI (60 * r + k)) A B C t (if (K = 2 ∨ K = 3) ∧ C = a then 1 else 0) := by
    intro t
    unfold f_X7_readAt_147 f_X7_readAt_173
    rw [e_leads m Sm _ (by omega), x_b2_s, K', x_gt cp, nI_clamp p2, x_l_e, ha]
    by_cases q1 : K = 2 ∨ K = 3
    · rw [if_pos q1, if_neg i_1n]
      by_cases q2 : C = a
      · rw [if_pos q2, if_pos ⟨q1, q2⟩]
      · rw [if_neg q2, if_neg (fun z => q2 z.2)]
    · rw [if_neg q1, if_pos rfl, if_neg (fun z => q1 z.1)]
  unfold f_X7_readAt_90 f_X7_readAt_146
  rw [nI_add, x_gt ck, nI_clamp k2, x_l_e, x_gt (k_in2 (show 60 * r + k < 720 by omega) k2), x_l_e, x_gt (k_in2 (show 60 * r + k < 720 by omega) k2), x_l_e, e_leads m Sm _ (by omega), x_b2_s, K', A', B', C', e147, e147, x_gt cp, nI_clamp p2, x_l_e, hb]
  generalize (if (K = 2 ∨ K = 3) ∧ C = a then (1 : Int32) else 0) = G
  by_cases q1 : K = 2 ∨ K = 3
  · rw [if_pos q1, if_neg i_1n]
    by_cases q2 : C = b
    · rw [if_pos q2, if_pos ⟨q1, q2⟩]
    · rw [if_neg q2, if_neg (fun z => q2 z.2)]
  · rw [if_neg q1, if_pos rfl, if_neg (fun z => q1 z.1)]
theorem j_174 (h : r_X S0 S1 ri L n d wc kk en ow fm hi dp D T Sc Sm) (hd : 0 < d) (hk : kk (d - 1) < en (d - 1)) {p : Nat} (hp : p = d - 1 + r_un (fun i => g_ar Sc 400 i) ow (fun c => g_ar Sc 107 c) d) (hr : r < 12) {K A B C o g : Int32} (hK : g_ar S1 702 (60 * r + kk (d - 1)) = K) : f_X7_readAt_174 m Sm (nI (60 * r)) (nI (kk (d - 1))) (nI p) (nI (en (d - 1))) (nI (60 * r + kk (d - 1))) A B C o g = if K = 2 then (if o = 0 then if g = 0 then some (j_lf Sm p n (kk (d - 1)) 8 (g_ar Sc 106 (d - 1)) (g_ar Sc 107 (d - 1)) 0 0 C) else some (j_lf Sm p n (kk (d - 1)) 7 (g_ar Sc 106 (d - 1)) (g_ar Sc 107 (d - 1)) 0 0 C) else some (j_lf Sm p n (kk (d - 1)) 6 (g_ar Sc 106 (d - 1)) (g_ar Sc 107 (d - 1)) 0 0 C)) else if K = 3 then (if o = 0 then if g = 0 then if C ≤ nI (kk (d - 1)) ∨ nI (en (d - 1)) < C then some (j_lf Sm p n (kk (d - 1)) 11 (g_ar Sc 106 (d - 1)) (g_ar Sc 107 (d - 1)) A B C) else f_X7_readIf m (s_ar Sm 725 p (nI (kk (d - 1) + 1))) (nI (60 * r)) (nI (kk (d - 1))) C else some (j_lf Sm p n (kk (d - 1)) 10 (g_ar Sc 106 (d - 1)) (g_ar Sc 107 (d - 1)) A B C) else some (j_lf Sm p n (kk (d - 1)) 9 (g_ar Sc 106 (d - 1)) (g_ar Sc 107 (d - 1)) A B C)) else some (j_lf Sm p n (kk (d - 1)) 0 (g_ar Sc 106 (d - 1)) (g_ar Sc 107 (d - 1)) A B K) := by
  obtain ⟨r1, r2, r3, r4, r5, r6, -⟩ := h.room hd hk
  have k2 : 60 * r + kk (d - 1) < 2 ^ 31 := by omega
  have p2 : p < 2 ^ 31 := by omega
  have ck := k_in (i := 60 * r + kk (d - 1)) (L := 720) (by omega) (by decide)
  have cp := k_in (i := p) (L := 200) (by omega) (by decide)
  have K' : g_ar (s_ar Sm 725 p (nI (kk (d - 1) + 1))) 702 (60 * r + kk (d - 1)) = K := by
    rw [q_ar_ar, if_neg (by omega)]
    exact (h.2.1.1.2 702 _ (by decide)).trans hK
  have lf := fun so ta tb go => (j_leaf (m := m) h hd hk hp so ta tb go).1
  have e222 : ∀ t, f_X7_readAt_222 m (s_ar Sm 725 p (nI (kk (d - 1) + 1))) (nI (kk (d - 1))) C t = some (j_lf Sm p n (kk (d - 1)) t (g_ar Sc 106 (d - 1)) (g_ar Sc 107 (d - 1)) 0 0 C) := by
    intro t
    unfold f_X7_readAt_222
    rw [nI_1, lf, x_b2_s]
  have e320 : ∀ t, f_X7_readAt_320 m (s_ar Sm 725 p (nI (kk (d - 1) + 1))) (nI (kk (d - 1))) A B C t = some (j_lf Sm p n (kk (d - 1)) t (g_ar Sc 106 (d - 1)) (g_ar Sc 107 (d - 1)) A B C) := by
    intro t
    unfold f_X7_readAt_320
    rw [nI_1, lf, x_b2_s]
  have e297 : f_X7_readAt_297 m (s_ar Sm 725 p (nI (kk (d - 1) + 1))) (nI (kk (d - 1))) A B C o g = if o = 0 then (if g = 0 then some (j_lf Sm p n (kk (d - 1)) 11 (g_ar Sc 106 (d - 1)) (g_ar Sc 107 (d - 1)) A B C) else some (j_lf Sm p n (kk (d - 1)) 10 (g_ar Sc 106 (d - 1)) (g_ar Sc 107 (d - 1)) A B C)) else some (j_lf Sm p n (kk (d - 1)) 9 (g_ar Sc 106 (d - 1)) (g_ar Sc 107 (d - 1)) A B C) := by
    unfold f_X7_readAt_297
    rw [e320, e320, e320]
  unfold f_X7_readAt_174
  rw [x_gt cp, nI_clamp p2, nI_1, x_l_e, x_gt ck, nI_clamp k2, x_l_e, x_gt (k_in2 (show 60 * r + kk (d - 1) < 720 by omega) k2), x_l_e, x_gt (k_in2 (show 60 * r + kk (d - 1) < 720 by omega) k2), x_l_e, K', e222, e222, e222, e297, lf, x_b2_s]
  by_cases q2 : K = 2
  · rw [if_pos q2, if_pos q2]
  · rw [if_neg q2, if_neg q2]
    by_cases q3 : K = 3
    · rw [if_pos q3, if_pos q3]
      by_cases o0 : o = 0
      · simp only [if_pos o0]
        by_cases g0 : g = 0
        · simp only [if_pos g0]
          by_cases q4 : C ≤ nI (kk (d - 1))
          · rw [if_pos q4, if_pos (Or.inl q4)]
          · rw [if_neg q4]
            by_cases q5 : C ≤ nI (en (d - 1))
            · rw [if_pos q5, if_neg (fun z : C ≤ nI (kk (d - 1)) ∨ nI (en (d - 1)) < C => z.elim q4 (fun z => absurd q5 (Int32.not_le.mpr z)))]
              cases f_X7_readIf m (s_ar Sm 725 p (nI (kk (d - 1) + 1))) (nI (60 * r)) (nI (kk (d - 1))) C with
              | none => rfl
              | some v => rfl
            · rw [if_neg q5, if_pos (Or.inr (Int32.not_le.mp q5))]
        · simp only [if_neg g0]
      · simp only [if_neg o0]
    · rw [if_neg q3, if_neg q3]
end
