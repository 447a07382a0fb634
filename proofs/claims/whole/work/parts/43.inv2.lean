def iv_tree (L r : Nat) (Sc Sm : x_S) : Prop := rd_P L (fun i => if i < L then g_ar Sm 702 (60 * r + i) else 0) (fun i => if i < L then g_ar Sm 703 (60 * r + i) else 0) (fun i => if i < L then g_ar Sm 704 (60 * r + i) else 0) (fun i => if i < L then g_ar Sm 705 (60 * r + i) else 0) (g_sc Sc 408) (g_sc Sc 409) (g_sc Sc 410) (g_sc Sc 411) (fun z => g_ar Sc 400 z) (fun z => g_ar Sc 401 z) (fun z => g_ar Sc 402 z) (fun z => g_ar Sc 403 z) (fun z => g_ar Sc 404 z) (fun z => g_ar Sc 405 z) (fun z => g_ar Sc 406 z) (fun z => g_ar Sc 407 z)
def iv_tr (N : Nat) (Sc Sm : x_S) : Prop := g_sc Sc 603 = -1 ∨ ∃ r L, r < N ∧ g_sc Sc 603 = nI r ∧ iv_one L r Sc Sm ∧ iv_whole L r Sm ∧ iv_tree L r Sc Sm
def iv_N (N : Nat) (Sc Sm : x_S) : Prop := iv_rt N Sc Sm ∧ iv_cl Sc ∧ iv_tp Sc Sm ∧ iv_rg Sc Sm ∧ iv_rn Sc Sm ∧ g_sc Sc 608 = g_sc Sm 709 ∧ iv_tr N Sc Sm
def INV (Sc Sm : x_S) : Prop := ∃ N, iv_N N Sc Sm
/-- at first -/
theorem inv_0 : INV x_S0c x_S0m := by
  refine ⟨0, ⟨by decide, rfl, rfl, rfl, fun r h => absurd h (by omega), fun r _ => rfl, fun r h => absurd h (by omega)⟩, ⟨fun k i h => (by cases h), fun k j i h => (by cases h)⟩, ⟨0, by decide, rfl, rfl, fun i h => absurd h (by omega)⟩, fun i _ => rfl, ⟨rfl, rfl, ⟨0, by decide, rfl, rfl, fun i h => absurd h (by omega)⟩, fun i _ => rfl⟩, rfl, Or.inl rfl⟩
/-- fault, clear, feed, set, ran, out -/
theorem l2_fault (n : Nat) : x_2_fault INV n := by
  intro Sc Sm h
  obtain ⟨N, h⟩ := id h
  refine ⟨g_sc Sc 608, Sc, Sm, rfl, ?_, ⟨N, h⟩⟩
  rw [h.2.2.2.2.2.1]
  rfl
theorem l2_clear (n : Nat) : x_2_clear INV n := by
  intro Sc Sm h
  obtain ⟨N, h1, h2, ⟨t, t1, t2, t3, t4⟩, h4, h5, h6, h7⟩ := h
  refine ⟨nI t, s_sc Sc 606 0, s_sc Sm 708 0, ?_, ?_, N, h1, h2, ⟨0, by decide, rfl, rfl, fun i h => absurd h (by omega)⟩, h4, h5, h6, h7⟩
  · simp only [f_X6_clear, x_let, t2]
  · simp only [f_X7_clear, x_let, t3]
theorem l2_feed (n : Nat) : x_2_feed INV n := by
  intro Sc Sm a h
  obtain ⟨N, h1, h2, ⟨t, t1, t2, t3, t4⟩, h4, h5, h6, h7⟩ := h
  have ht : t < 2 ^ 31 := by omega
  by_cases hq : t < 300
  · have c1 : nI t < (300 : Int32) := (k_lt ht).mpr (by show (t : Int) < 300; omega)
    have c2 : ¬ nI t = (300 : Int32) := fun e => by rw [k_eq ht] at e; have : (300 : Int32).toInt = 300 := rfl; omega
    have c3 := k_in2 hq ht
    have c4 := nI_clamp ht
    refine ⟨nI (t + 1), s_sc (s_ar Sc 605 t a) 606 (nI (t + 1)), s_sc (s_ar Sm 707 t a) 708 (nI (t + 1)), ?_, ?_, N, h1, h2, ⟨t + 1, by omega, rfl, rfl, ?_⟩, h4, h5, h6, h7⟩
    · simp only [f_X6_feed, x_let, t2, if_pos c1, x_gt c3, c4, q_sc_ar, q_sc_sc, if_true, nI_1]
    · simp only [f_X7_feed, x_let, t3, if_neg c2, x_gt c3, c4, q_sc_ar, q_sc_sc, if_true, nI_1]
    · intro i hi
      simp only [q_ar_sc, q_ar_ar, true_and]
      by_cases e : i = t
      · simp [e]
      · simp [e]
        exact t4 i (by omega)
  · have e : t = 300 := by omega
    subst e
    refine ⟨-4, Sc, Sm, ?_, ?_, N, h1, h2, ⟨300, t1, t2, t3, t4⟩, h4, h5, h6, h7⟩
    · simp only [f_X6_feed, x_let, t2]
      rfl
    · simp only [f_X7_feed, x_let, t3]
      rfl
theorem l2_set (n : Nat) : x_2_set INV n := by
  intro Sc Sm a v h
  obtain ⟨N, h1, h2, h3, h4, h5, h6, h7⟩ := h
  rcases k_arg a (N := 4) (by decide) with hq | ⟨j, hj, rfl⟩
  · refine ⟨-2, Sc, Sm, ?_, ?_, N, h1, h2, h3, h4, h5, h6, h7⟩
    · unfold f_X6_set
      by_cases c1 : a < 0
      · rw [if_pos c1]
      · have c2 : ¬ a < (4 : Int32) := by
          rcases hq with hq | hq
          · exact absurd hq c1
          · exact Int32.not_lt.mpr hq
        rw [if_neg c1, if_neg c2]
    · unfold f_X7_set
      have e : f_X7_in n a 0 3 = some 0 := e_in_no n (N := 4) hq (by decide)
      rw [e, x_b_s, if_pos rfl]
  · have hj2 : j < 2 ^ 31 := by omega
    have c1 := nI_pos hj2
    have c2 : nI j < (4 : Int32) := nI_lt hj (by decide)
    have c3 := k_in2 hj hj2
    have c4 := nI_clamp hj2
    have e : f_X7_in n (nI j) 0 3 = some 1 := e_in_yes n (N := 4) hj (by decide)
    refine ⟨g_ar Sc 609 j, s_ar Sc 609 j v, s_ar Sm 706 j v, ?_, ?_, N, h1, h2, h3, ?_, h5, h6, h7⟩
    · simp only [f_X6_set, if_neg c1, if_pos c2, c4, x_gt c3, x_l_e]
    · simp only [f_X7_set, e, x_b_s, if_neg i_10, c4, x_gt c3, x_l_e, h4 j hj]
    · intro i hi
      simp only [q_ar_ar, true_and]
      by_cases e : i = j
      · simp [e]
      · simp [e]
        exact h4 i hi
theorem l2_out (n : Nat) : x_2_out INV n := by
  intro Sc Sm a h
  obtain ⟨N, h1, h2, h3, h4, ⟨r1, r2, ⟨t, t1, t2, t3, t4⟩, r4⟩, h6, h7⟩ := h
  have hfin : iv_N N Sc Sm := ⟨h1, h2, h3, h4, ⟨r1, r2, ⟨t, t1, t2, t3, t4⟩, r4⟩, h6, h7⟩
  rcases k_arg a (N := t) (by omega) with hq | ⟨j, hj, rfl⟩
  · refine ⟨-2, Sc, Sm, ?_, ?_, N, hfin⟩
    · unfold f_X6_out
      by_cases c1 : a < 0
      · rw [if_pos c1]
      · have c2 : ¬ a < nI t := by
          rcases hq with hq | hq
          · exact absurd hq c1
          · exact Int32.not_lt.mpr hq
        rw [if_neg c1, x_l_e, t2, if_neg c2]
    · unfold f_X7_out
      rw [x_l_e, t3, e_in_no n hq (by omega), x_b_s, if_pos rfl]
  · have hj2 : j < 2 ^ 31 := by omega
    have c1 := nI_pos hj2
    have c2 : nI j < nI t := nI_lt hj (by omega)
    have c3 := k_in2 (show j < 200 by omega) hj2
    have c4 := nI_clamp hj2
    have e := e_in_yes n hj (show t ≤ 720 by omega)
    refine ⟨g_ar Sc 303 j, Sc, Sm, ?_, ?_, N, hfin⟩
    · simp only [f_X6_out, if_neg c1, x_l_e, t2, if_pos c2, c4, x_gt c3]
    · simp only [f_X7_out, x_l_e, t3, e, x_b_s, if_neg i_10, c4, x_gt c3, t4 j hj]
theorem l2_ran (n : Nat) : x_2_ran INV n := by
  intro Sc Sm a h
  obtain ⟨N, h1, h2, h3, h4, ⟨r1, r2, ⟨t, t1, t2, t3, t4⟩, r4⟩, h6, h7⟩ := h
  have hfin : iv_N N Sc Sm := ⟨h1, h2, h3, h4, ⟨r1, r2, ⟨t, t1, t2, t3, t4⟩, r4⟩, h6, h7⟩
  rcases k_arg a (N := 8) (by decide) with hq | ⟨j, hj, rfl⟩
  · refine ⟨-2, Sc, Sm, ?_, ?_, N, hfin⟩
    · have hne : ∀ k : Nat, k < 8 → ¬ a = nI k := by
        intro k hk e
        subst e
        rcases hq with hq | hq
        · exact nI_pos (by omega) hq
        · exact nI_ge hk (by decide) hq
      unfold f_X6_ran
      rw [if_neg (show ¬ a = 0 from hne 0 (by decide)), if_neg (show ¬ a = 1 from hne 1 (by decide)), if_neg (show ¬ a = 2 from hne 2 (by decide)), if_neg (show ¬ a = 3 from hne 3 (by decide)), if_neg (show ¬ a = 4 from hne 4 (by decide)), if_neg (show ¬ a = 5 from hne 5 (by decide)), if_neg (show ¬ a = 6 from hne 6 (by decide)), if_neg (show ¬ a = 7 from hne 7 (by decide))]
    · unfold f_X7_ran
      have e : f_X7_in n a 0 7 = some 0 := e_in_no n (N := 8) hq (by decide)
      rw [e, x_b_s, if_pos rfl]
  · have e : f_X7_in n (nI j) 0 7 = some 1 := e_in_yes n (N := 8) hj (by decide)
    rcases (show j = 0 ∨ j = 1 ∨ j = 2 ∨ j = 3 ∨ j = 4 ∨ j = 5 ∨ j = 6 ∨ j = 7 by omega) with rfl | rfl | rfl | rfl | rfl | rfl | rfl | rfl
    · refine ⟨g_sc Sc 300, Sc, Sm, rfl, ?_, N, hfin⟩
      unfold f_X7_ran; rw [e, r1]; rfl
    · refine ⟨g_sc Sc 302, Sc, Sm, rfl, ?_, N, hfin⟩
      unfold f_X7_ran; rw [e, t2, ← t3]; rfl
    · refine ⟨g_sc Sc 301, Sc, Sm, rfl, ?_, N, hfin⟩
      unfold f_X7_ran; rw [e, r2]; rfl
    · refine ⟨-2, Sc, Sm, rfl, ?_, N, hfin⟩
      unfold f_X7_ran; rw [e]; rfl
    · refine ⟨g_ar Sc 304 0, Sc, Sm, rfl, ?_, N, hfin⟩
      unfold f_X7_ran; rw [e, r4 0 (by decide)]; rfl
    · refine ⟨g_ar Sc 304 1, Sc, Sm, rfl, ?_, N, hfin⟩
      unfold f_X7_ran; rw [e, r4 1 (by decide)]; rfl
    · refine ⟨g_ar Sc 304 2, Sc, Sm, rfl, ?_, N, hfin⟩
      unfold f_X7_ran; rw [e, r4 2 (by decide)]; rfl
    · refine ⟨g_ar Sc 304 3, Sc, Sm, rfl, ?_, N, hfin⟩
      unfold f_X7_ran; rw [e, r4 3 (by decide)]; rfl
