theorem l2_act (n : Nat) (hn : 1000 ≤ n) : x_2_act INV n := by
  intro Sc Sm a k x y z h
  obtain ⟨N, hN⟩ := h
  have h1 := hN.1
  have hb12 : N < 2 ^ 31 := by have := h1.1; omega
  rcases k_arg a hb12 with ha | ⟨r, hr, rfl⟩
  · refine ⟨-2, Sc, Sm, ?_, ?_, N, hN⟩
    · simp only [f_X6_act, e_find_no n h1 ha, x_b2_s, x_o_n]
    · simp only [f_X7_act, e_isR_no n h1 ha, x_b2_s, if_true]
  · rcases e_isAct n k x y z with ⟨hok, e1, e2⟩ | ⟨e1, e2⟩
    · obtain ⟨L, hL⟩ := h1.2.2.2.2.2.2 r hr
      have hL60 := hL.1
      have hN12 := h1.1
      have np1 : r + 1 < g_np Sc := by have := h1.2.2.2.1; omega
      have hr2 : r < 2 ^ 31 := by omega
      have g3 := k_in2 (show r < 12 by omega) hr2
      have g4 := nI_clamp hr2
      have l3 := hL.2.2.1
      have l2 := hL.2.1
      by_cases hq : L = 60
      · subst hq
        refine ⟨-4, Sc, Sm, ?_, ?_, N, hN⟩
        · simp only [f_X6_act, e_find n h1 hr, x_b2_s, x_o_s, e1, x_b_s, if_neg i_10, x_gt np1, x_l_e, l3]
          rfl
        · simp only [f_X7_act, e_isR n h1 hr, x_b2_s, if_neg i_10, e2, x_b_s, g4, x_gt g3, x_l_e, l2]
          rfl
      · have hlt : L < 60 := by omega
        have c1 : nI L < (60 : Int32) := nI_lt hlt (by decide)
        have c2 : ¬ nI L = (60 : Int32) := fun e => hq ((nI_eq (b := 60) (by omega) (by decide)).mp e)
        have np2 : r + 1 < g_np (s_ps Sc 4 (r + 1) (nI (L + 1))) := np1
        have p4 : g_ps (s_ps Sc 4 (r + 1) (nI (L + 1))) 4 (r + 1) = nI (L + 1) := by simp [q_ps_ps]
        obtain ⟨v, hv, he⟩ := e_change n hn (s_ps Sc 4 (r + 1) (nI (L + 1))) (r + 1) L (L + 1) k x y z np2 hlt (by omega) p4
        have m7 : g_ar (s_pum Sm (60 * r + L) k x y z) 701 r = nI L := by simp [s_pum, q_ar_ar, l2]
        refine ⟨nI L, s_sc (s_ps (s_put (s_ps Sc 4 (r + 1) (nI (L + 1))) (r + 1) L k x y z) 5 (r + 1) v) 603 (-1), s_ar (s_pum Sm (60 * r + L) k x y z) 701 r (nI (L + 1)), ?_, ?_, ?_⟩
        · simp only [f_X6_act, e_find n h1 hr, x_b2_s, x_o_s, e1, x_b_s, if_neg i_10, x_gt np1, x_l_e, l3, if_pos c1, nI_1, he]
        · simp only [f_X7_act, e_isR n h1 hr, x_b2_s, if_neg i_10, e2, x_b_s, g4, x_gt g3, x_l_e, l2, if_neg c2, e_pum n Sm r L k x y z (by omega) hlt, m7, nI_1, q_ar_ar, true_and, if_true, nI_pred]
        · refine iv_change hN hr hL (M := L + 1) (j := L) (by omega) (by omega) (fun i h1 h2 => by omega) hok ?_ ?_ ?_ ?_ ?_ ?_ ?_ ?_ ?_ ?_ ?_ ?_ ?_ ?_ ?_
          · intro w hw; simp [s_put, q_sc_sc, q_sc_ps, q_sc_pa, hw]
          · rfl
          · intro w u; rfl
          · rfl
          · intro w; rfl
          · intro w u; rfl
          · intro w q hq; simp [s_put, q_ps_sc, q_ps_ps, q_ps_pa, hq]
          · simp [s_put, q_ps_sc, q_ps_ps, q_ps_pa]
          · intro w q i hi
            simp only [s_put, q_pa_sc, q_pa_ps, q_pa_pa]
            rcases hi with hi | hi <;> simp [hi]
          · simp [s_put, q_pa_sc, q_pa_ps, q_pa_pa]
          · have e5 : g_ps (s_sc (s_ps (s_put (s_ps Sc 4 (r + 1) (nI (L + 1))) (r + 1) L k x y z) 5 (r + 1) v) 603 (-1)) 5 (r + 1) = v := by simp [q_ps_sc, q_ps_ps]
            rw [e5]
            exact hv
          · intro w; rfl
          · intro w u h5 h6
            simp only [s_pum, q_ar_ar]
            by_cases d1 : w = 701 ∧ u = r
            · exact absurd d1 h5
            · rw [if_neg d1, if_neg (fun d => h6 ⟨by omega, d.2⟩), if_neg (fun d => h6 ⟨by omega, d.2⟩), if_neg (fun d => h6 ⟨by omega, d.2⟩), if_neg (fun d => h6 ⟨by omega, d.2⟩)]
          · simp [q_ar_ar]
          · simp [s_pum, q_ar_ar]
    · refine ⟨-2, Sc, Sm, ?_, ?_, N, hN⟩
      · simp only [f_X6_act, e_find n h1 hr, x_b2_s, x_o_s, e1, x_b_s, if_true]
      · simp only [f_X7_act, e_isR n h1 hr, x_b2_s, if_neg i_10, e2, x_b_s, if_true]
theorem e_has_no (n : Nat) {L i : Nat} {S : x_S} {a : Int32} (hi : i < g_np S) (h4 : g_ps S 4 i = nI L) (hq : a < 0 ∨ nI L ≤ a) : f_X2_has n S i a = some (0, S) := by
  unfold f_X2_has
  rw [z_g0]
  by_cases c1 : a < 0
  · rw [if_pos c1]
  · rcases hq with hq | hq
    · exact absurd hq c1
    · rw [if_neg c1, x_gt hi, x_l_e, h4, if_pos hq]
theorem e_has (n : Nat) {L i j : Nat} {S : x_S} (hi : i < g_np S) (h4 : g_ps S 4 i = nI L) (hj : j < L) (hL : L ≤ 60) : f_X2_has n S i (nI j) = some (1, S) := by
  unfold f_X2_has
  rw [if_neg (nI_pos (by omega)), x_gt hi, x_l_e, h4, if_neg (nI_ge hj (by omega)), z_g1]
theorem l2_alter (n : Nat) (hn : 1000 ≤ n) : x_2_alter INV n := by
  intro Sc Sm a i k x y z h
  obtain ⟨N, hN⟩ := h
  have h1 := hN.1
  have hb12 : N < 2 ^ 31 := by have := h1.1; omega
  rcases k_arg a hb12 with ha | ⟨r, hr, rfl⟩
  · refine ⟨-2, Sc, Sm, ?_, ?_, N, hN⟩
    · simp only [f_X6_alter, e_find_no n h1 ha, x_b2_s, x_o_n]
    · simp only [f_X7_alter, e_isR_no n h1 ha, x_b2_s, if_true]
  · obtain ⟨L, hL⟩ := h1.2.2.2.2.2.2 r hr
    have hL60 := hL.1
    have hN12 := h1.1
    have np1 : r + 1 < g_np Sc := by have := h1.2.2.2.1; omega
    have hr2 : r < 2 ^ 31 := by omega
    have g3 := k_in2 (show r < 12 by omega) hr2
    have g4 := nI_clamp hr2
    have l3 := hL.2.2.1
    have l2 := hL.2.1
    rcases k_arg i (N := L) (by omega) with hi | ⟨j, hj, rfl⟩
    · refine ⟨-2, Sc, Sm, ?_, ?_, N, hN⟩
      · simp only [f_X6_alter, e_find n h1 hr, x_b2_s, x_o_s, x_gt np1, e_has_no n np1 l3 hi, if_true]
      · simp only [f_X7_alter, e_isR n h1 hr, x_b2_s, if_neg i_10, g4, x_gt g3, x_l_e, l2, e_in_no n hi (show L ≤ 720 by omega), x_b_s, if_true]
    · rcases e_isAct n k x y z with ⟨hok, e1, e2⟩ | ⟨e1, e2⟩
      · obtain ⟨v, hv, he⟩ := e_change n hn Sc (r + 1) j L k x y z np1 (by omega) hL60 l3
        refine ⟨nI j, s_sc (s_ps (s_put Sc (r + 1) j k x y z) 5 (r + 1) v) 603 (-1), s_pum Sm (60 * r + j) k x y z, ?_, ?_, ?_⟩
        · simp only [f_X6_alter, e_find n h1 hr, x_b2_s, x_o_s, x_gt np1, e_has n np1 l3 hj hL60, if_neg i_10, e1, x_b_s, he]
        · simp only [f_X7_alter, e_isR n h1 hr, x_b2_s, if_neg i_10, g4, x_gt g3, x_l_e, l2, e_in_yes n hj (show L ≤ 720 by omega), x_b_s, e2, e_pum n Sm r j k x y z (by omega) (by omega)]
        · refine iv_change hN hr hL (M := L) (j := j) hL60 hj (fun i h1 h2 => h1) hok ?_ ?_ ?_ ?_ ?_ ?_ ?_ ?_ ?_ ?_ ?_ ?_ ?_ ?_ ?_
          · intro w hw; simp [s_put, q_sc_sc, q_sc_ps, q_sc_pa, hw]
          · rfl
          · intro w u; rfl
          · rfl
          · intro w; rfl
          · intro w u; rfl
          · intro w q hq; simp [s_put, q_ps_sc, q_ps_ps, q_ps_pa, hq]
          · simp [s_put, q_ps_sc, q_ps_ps, q_ps_pa, l3]
          · intro w q i hi
            simp only [s_put, q_pa_sc, q_pa_ps, q_pa_pa]
            rcases hi with hi | hi <;> simp [hi]
          · simp [s_put, q_pa_sc, q_pa_ps, q_pa_pa]
          · have e5 : g_ps (s_sc (s_ps (s_put Sc (r + 1) j k x y z) 5 (r + 1) v) 603 (-1)) 5 (r + 1) = v := by simp [q_ps_sc, q_ps_ps]
            rw [e5]
            exact hv
          · intro w; rfl
          · intro w u h5 h6
            simp only [s_pum, q_ar_ar]
            rw [if_neg (fun d => h6 ⟨by omega, d.2⟩), if_neg (fun d => h6 ⟨by omega, d.2⟩), if_neg (fun d => h6 ⟨by omega, d.2⟩), if_neg (fun d => h6 ⟨by omega, d.2⟩)]
          · simp [s_pum, q_ar_ar, l2]
          · simp [s_pum, q_ar_ar]
      · refine ⟨-2, Sc, Sm, ?_, ?_, N, hN⟩
        · simp only [f_X6_alter, e_find n h1 hr, x_b2_s, x_o_s, x_gt np1, e_has n np1 l3 hj hL60, if_neg i_10, e1, x_b_s, if_true]
        · simp only [f_X7_alter, e_isR n h1 hr, x_b2_s, if_neg i_10, g4, x_gt g3, x_l_e, l2, e_in_yes n hj (show L ≤ 720 by omega), x_b_s, e2, if_true]
