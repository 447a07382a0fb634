/-! routine, act, alter -/
theorem iv_one_mono {L r : Nat} {Sc Sm Sc1 Sm1 : x_S} (h : iv_one L r Sc Sm) (e1 : g_ar Sm1 701 r = g_ar Sm 701 r) (e2 : ∀ k, g_ps Sc1 k (r + 1) = g_ps Sc k (r + 1)) (e3 : ∀ k i, g_pa Sc1 k (r + 1) i = g_pa Sc k (r + 1) i) (e4 : ∀ i, i < 60 → g_ar Sm1 702 (60 * r + i) = g_ar Sm 702 (60 * r + i) ∧ g_ar Sm1 703 (60 * r + i) = g_ar Sm 703 (60 * r + i) ∧ g_ar Sm1 704 (60 * r + i) = g_ar Sm 704 (60 * r + i) ∧ g_ar Sm1 705 (60 * r + i) = g_ar Sm 705 (60 * r + i)) : iv_one L r Sc1 Sm1 := by
  obtain ⟨h1, h2, h3, h4, h5⟩ := h
  have hw : iv_whole L r Sm1 ↔ iv_whole L r Sm := by
    constructor
    · intro q i hi; have := q i hi; rw [(e4 i (by omega)).2.2.2] at this; exact this
    · intro q i hi; rw [(e4 i (by omega)).2.2.2]; exact q i hi
  refine ⟨h1, e1.trans h2, (e2 4).trans h3, fun i hi => ?_, ?_⟩
  · obtain ⟨a1, a2, a3, a4⟩ := e4 i (by omega)
    rw [e3, e3, e3, e3, a1, a2, a3, a4]
    exact h4 i hi
  · rw [e2, hw]
    exact h5
theorem iv_tree_mono {L r : Nat} {Sc Sm Sc1 Sm1 : x_S} (hL : L ≤ 60) (h : iv_tree L r Sc Sm) (e4 : ∀ i, i < 60 → g_ar Sm1 702 (60 * r + i) = g_ar Sm 702 (60 * r + i) ∧ g_ar Sm1 703 (60 * r + i) = g_ar Sm 703 (60 * r + i) ∧ g_ar Sm1 704 (60 * r + i) = g_ar Sm 704 (60 * r + i) ∧ g_ar Sm1 705 (60 * r + i) = g_ar Sm 705 (60 * r + i)) (hs : ∀ k, 408 ≤ k → k ≤ 411 → g_sc Sc1 k = g_sc Sc k) (ha : ∀ k z, 400 ≤ k → k ≤ 407 → g_ar Sc1 k z = g_ar Sc k z) : iv_tree L r Sc1 Sm1 := by
  unfold iv_tree at h ⊢
  have f : ∀ k, (k = 702 ∨ k = 703 ∨ k = 704 ∨ k = 705) → (fun i => if i < L then g_ar Sm1 k (60 * r + i) else 0) = (fun i => if i < L then g_ar Sm k (60 * r + i) else 0) := by
    intro k hk
    funext i
    by_cases hi : i < L
    · rw [if_pos hi, if_pos hi]
      obtain ⟨a1, a2, a3, a4⟩ := e4 i (by omega)
      rcases hk with rfl | rfl | rfl | rfl
      · exact a1
      · exact a2
      · exact a3
      · exact a4
    · rw [if_neg hi, if_neg hi]
  have g : ∀ k, 400 ≤ k → k ≤ 407 → (fun z => g_ar Sc1 k z) = (fun z => g_ar Sc k z) := fun k h1 h2 => funext (fun z => ha k z h1 h2)
  rw [f 702 (by decide), f 703 (by decide), f 704 (by decide), f 705 (by decide), hs 408 (by decide) (by decide), hs 409 (by decide) (by decide), hs 410 (by decide) (by decide), hs 411 (by decide) (by decide), g 400 (by decide) (by decide), g 401 (by decide) (by decide), g 402 (by decide) (by decide), g 403 (by decide) (by decide), g 404 (by decide) (by decide), g 405 (by decide) (by decide), g 406 (by decide) (by decide), g 407 (by decide) (by decide)]
  exact h
theorem iv_whole_mono {L r : Nat} {Sm Sm1 : x_S} (hL : L ≤ 60) (h : iv_whole L r Sm) (e4 : ∀ i, i < 60 → g_ar Sm1 705 (60 * r + i) = g_ar Sm 705 (60 * r + i)) : iv_whole L r Sm1 := fun i hi => by rw [e4 i (by omega)]; exact h i hi
theorem l2_routine (n : Nat) : x_2_routine INV n := by
  intro Sc Sm h
  obtain ⟨N, hN⟩ := h
  obtain ⟨⟨h1, h2, h3, h4, h5, h6, h7⟩, k2, k3, k4, k5, k6, k7⟩ := id hN
  by_cases hb : N = 12
  · subst hb
    refine ⟨-4, Sc, Sm, ?_, ?_, 12, hN⟩
    · simp only [f_X6_routine, x_l_e, h3]; rfl
    · simp only [f_X7_routine, x_l_e, h2]; rfl
  · have hN12 : N < 12 := by omega
    have hj2 : N < 2 ^ 31 := by omega
    have c1 : nI N < (12 : Int32) := nI_lt hN12 (by decide)
    have c2 : ¬ nI N = (12 : Int32) := fun e => hb ((nI_eq (b := 12) hj2 (by decide)).mp e)
    have c3 := k_in2 hN12 hj2
    have c4 := nI_clamp hj2
    have c5 : N + 1 < g_np Sc + 1 := by omega
    refine ⟨nI N, s_sc (s_ra (s_new Sc) 600 N (some (N + 1))) 601 (nI (N + 1)), s_sc (s_ar Sm 701 N 0) 700 (nI (N + 1)), ?_, ?_, N + 1, ⟨hN12, rfl, rfl, ?_, ?_, ?_, ?_⟩, ⟨?_, ?_⟩, k3, k4, k5, k6, ?_⟩
    · simp only [f_X6_routine, f_X6_addRoutine, x_l_e, h3, if_pos c1, q_sc_new, q_np_new, h4]
      rw [h4] at c5
      simp only [x_gt c5, c4, x_gt c3, nI_1]
    · simp only [f_X7_routine, x_l_e, h2, if_neg c2, c4, x_gt c3, q_sc_ar, nI_1, q_sc_sc, if_true, nI_pred]
    · simp only [q_np_sc, q_np_ra, q_np_new, h4]
    · intro r hr
      simp only [q_ra_sc, q_ra_ra, true_and, q_ra_new]
      by_cases e : r = N
      · simp [e]
      · simp [e]; exact h5 r (by omega)
    · intro r hr
      simp only [q_ra_sc, q_ra_ra, true_and, q_ra_new]
      rw [if_neg (by omega)]
      exact h6 r (by omega)
    · intro r hr
      by_cases e : r = N
      · subst e
        refine ⟨0, by decide, ?_, ?_, fun i hi => absurd hi (by omega), Or.inl ⟨?_, fun i hi => absurd hi (by omega)⟩⟩
        · simp [q_ar_sc, q_ar_ar, nI_0]
        · simp [q_ps_sc, q_ps_ra, q_ps_new, h4, nI_0]
        · simp [q_ps_sc, q_ps_ra, q_ps_new, h4]
      · obtain ⟨L, hL⟩ := h7 r (by omega)
        have hne : ¬ r + 1 = N + 1 := by omega
        exact ⟨L, iv_one_mono hL (by simp [q_ar_sc, q_ar_ar, e]) (fun k => by simp [q_ps_sc, q_ps_ra, q_ps_new, h4, e]) (fun k i => by simp [q_pa_sc, q_pa_ra, q_pa_new, h4, e]) (fun i hi => ⟨rfl, rfl, rfl, rfl⟩)⟩
    · intro k i hi
      simp only [q_np_sc, q_np_ra, q_np_new]
      have := k2.1 k i hi
      omega
    · intro k j i hi
      simp only [q_np_sc, q_np_ra, q_np_new]
      simp only [q_ra_sc, q_ra_ra, q_ra_new] at hi
      by_cases e : k = 600 ∧ j = N
      · rw [if_pos e] at hi
        have := Option.some.inj hi
        omega
      · rw [if_neg e] at hi
        have := k2.2 k j i hi
        omega
    · rcases k7 with k7 | ⟨r, L, q1, q2, q3, q4, q5⟩
      · exact Or.inl k7
      · have e : r ≠ N := by omega
        exact Or.inr ⟨r, L, by omega, q2, iv_one_mono q3 (by simp [q_ar_sc, q_ar_ar, e]) (fun k => by simp [q_ps_sc, q_ps_ra, q_ps_new, h4, e]) (fun k i => by simp [q_pa_sc, q_pa_ra, q_pa_new, h4, e]) (fun i hi => ⟨rfl, rfl, rfl, rfl⟩), q4, q5⟩
/-- kinds of acts -/
theorem e_usesA (n : Nat) (k : Int32) : f_X6_usesA n k = some (if k = 2 ∨ k = 4 then 0 else 1) := by
  unfold f_X6_usesA
  rw [z_g0, z_g1]
  by_cases h1 : k = 2 <;> by_cases h2 : k = 4 <;> simp [h1, h2]
theorem e_usesB (n : Nat) (k : Int32) : f_X6_usesB n k = some (if k = 1 ∨ k = 3 then 1 else 0) := by
  unfold f_X6_usesB
  rw [z_g1, z_g0]
  by_cases h1 : k = 1 <;> by_cases h2 : k = 3 <;> simp [h1, h2]
theorem e_isJump (n : Nat) (k : Int32) : f_X6_isJump n k = some (if k = 2 ∨ k = 3 then 1 else 0) := by
  unfold f_X6_isJump
  rw [z_g1, z_g0]
  by_cases h1 : k = 2 <;> by_cases h2 : k = 3 <;> simp [h1, h2]
def n_a (k a : Int32) : Int32 := if k = 2 ∨ k = 4 then 0 else a
def n_b (k b : Int32) : Int32 := if k = 1 ∨ k = 3 then b else 0
def n_c (k c : Int32) : Int32 := if k = 2 ∨ k = 3 then c else 0
/-- what act() and alter() take -/
def okA (k a b c : Int32) : Prop := k = 0 ∨ (k = 1 ∧ 0 ≤ a ∧ a ≤ 3) ∨ (k = 2 ∧ 0 ≤ c ∧ c ≤ 60) ∨ (k = 3 ∧ (0 ≤ a ∧ a ≤ 3) ∧ (0 ≤ b ∧ b ≤ 5) ∧ 0 ≤ c ∧ c ≤ 60) ∨ k = 4 ∨ (k = 5 ∧ 0 ≤ a ∧ a ≤ 11)
theorem okA_ok {k a b c : Int32} (h : okA k a b c) : ok_act k (n_a k a) (n_b k b) (n_c k c) := by
  have l3 : ∀ x : Int32, x ≤ 3 → x < 4 := fun x h => by rw [Int32.le_iff_toInt_le] at h; rw [Int32.lt_iff_toInt_lt]; have : (3 : Int32).toInt = 3 := rfl; have : (4 : Int32).toInt = 4 := rfl; omega
  have l5 : ∀ x : Int32, x ≤ 5 → x < 6 := fun x h => by rw [Int32.le_iff_toInt_le] at h; rw [Int32.lt_iff_toInt_lt]; have : (5 : Int32).toInt = 5 := rfl; have : (6 : Int32).toInt = 6 := rfl; omega
  have l11 : ∀ x : Int32, x ≤ 11 → x < 12 := fun x h => by rw [Int32.le_iff_toInt_le] at h; rw [Int32.lt_iff_toInt_lt]; have : (11 : Int32).toInt = 11 := rfl; have : (12 : Int32).toInt = 12 := rfl; omega
  rcases h with rfl | ⟨rfl, h1, h2⟩ | ⟨rfl, h1, h2⟩ | ⟨rfl, ⟨h1, h2⟩, ⟨h3, h4⟩, h5, h6⟩ | rfl | ⟨rfl, h1, h2⟩
  · exact Or.inl ⟨rfl, rfl, rfl⟩
  · exact Or.inr (Or.inl ⟨rfl, h1, l3 a h2, rfl⟩)
  · exact Or.inr (Or.inr (Or.inl ⟨rfl, rfl, rfl, h1, h2⟩))
  · exact Or.inr (Or.inr (Or.inr (Or.inl ⟨rfl, h1, l3 a h2, h3, l5 b h4, h5, h6⟩)))
  · exact Or.inr (Or.inr (Or.inr (Or.inr (Or.inl ⟨rfl, rfl, rfl, rfl⟩))))
  · exact Or.inr (Or.inr (Or.inr (Or.inr (Or.inr ⟨rfl, h1, l11 a h2, rfl, rfl⟩))))
theorem i_rng (x : Int32) (lo hi : Int32) (h : hi.toInt + 1 = lo.toInt) : (¬ x < 0 ∧ ¬ lo ≤ x) ↔ (0 ≤ x ∧ x ≤ hi) := by
  rw [Int32.lt_iff_toInt_lt, Int32.le_iff_toInt_le, Int32.le_iff_toInt_le, Int32.le_iff_toInt_le]
  have : (0 : Int32).toInt = 0 := rfl
  omega
theorem e_mA42 (n : Nat) (a : Int32) : f_X6_mayHaveA_42 n a = some (if 0 ≤ a ∧ a ≤ 3 then 1 else 0) := by
  have h := i_rng a 4 3 rfl
  unfold f_X6_mayHaveA_42
  rw [z_g0, z_g1]
  by_cases h1 : a < 0
  · rw [if_pos h1, if_neg (fun q => (h.mpr q).1 h1)]
  · rw [if_neg h1]
    by_cases h2 : (4 : Int32) ≤ a
    · rw [if_pos h2, if_neg (fun q => (h.mpr q).2 h2)]
    · rw [if_neg h2, if_pos (h.mp ⟨h1, h2⟩)]
theorem e_iA39 (n : Nat) (k c : Int32) (hk : k = 2 ∨ k = 3) : f_X6_isAct_39 n k c = some (if 0 ≤ c ∧ c ≤ 60 then 1 else 0) := by
  have h : (¬ c < 0 ∧ ¬ (60 : Int32) < c) ↔ (0 ≤ c ∧ c ≤ 60) := by
    rw [Int32.not_lt, Int32.not_lt]
  unfold f_X6_isAct_39
  rw [e_isJump, if_pos hk, x_b_s, if_neg i_10, z_g0, z_g1]
  by_cases h1 : c < 0
  · rw [if_pos h1, if_neg (fun q => (h.mpr q).1 h1)]
  · rw [if_neg h1]
    by_cases h2 : (60 : Int32) < c
    · rw [if_pos h2, if_neg (fun q => (h.mpr q).2 h2)]
    · rw [if_neg h2, if_pos (h.mp ⟨h1, h2⟩)]
theorem e_mB3 (n : Nat) (b : Int32) : f_X6_mayHaveB n 3 b = some (if 0 ≤ b ∧ b ≤ 5 then 1 else 0) := by
  have h := i_rng b 6 5 rfl
  unfold f_X6_mayHaveB
  rw [z_g0, z_g1, if_neg (show ¬ (3 : Int32) = 1 by decide), if_pos rfl]
  by_cases h1 : b < 0
  · rw [if_pos h1, if_neg (fun q => (h.mpr q).1 h1)]
  · rw [if_neg h1]
    by_cases h2 : (6 : Int32) ≤ b
    · rw [if_pos h2, if_neg (fun q => (h.mpr q).2 h2)]
    · rw [if_neg h2, if_pos (h.mp ⟨h1, h2⟩)]
theorem e_mA5 (n : Nat) (a : Int32) : f_X6_mayHaveA n 5 a = some (if 0 ≤ a ∧ a ≤ 11 then 1 else 0) := by
  have h := i_rng a 12 11 rfl
  unfold f_X6_mayHaveA
  rw [z_g0, z_g1, if_neg (show ¬ (5 : Int32) = 0 by decide), if_neg (show ¬ (5 : Int32) = 1 by decide), if_neg (show ¬ (5 : Int32) = 2 by decide), if_neg (show ¬ (5 : Int32) = 3 by decide), if_neg (show ¬ (5 : Int32) = 4 by decide), if_pos rfl]
  by_cases h1 : a < 0
  · rw [if_pos h1, if_neg (fun q => (h.mpr q).1 h1)]
  · rw [if_neg h1]
    by_cases h2 : (12 : Int32) ≤ a
    · rw [if_pos h2, if_neg (fun q => (h.mpr q).2 h2)]
    · rw [if_neg h2, if_pos (h.mp ⟨h1, h2⟩)]
theorem e_isAct (n : Nat) (k a b c : Int32) : (okA k a b c ∧ f_X6_isAct n k a b c = some 1 ∧ f_X7_isAct n k a b c = some 1) ∨ (f_X6_isAct n k a b c = some 0 ∧ f_X7_isAct n k a b c = some 0) := by
  rcases k_arg k (N := 6) (by decide) with hk | ⟨j, hj, rfl⟩
  · refine Or.inr ⟨?_, ?_⟩
    · unfold f_X6_isAct
      rw [z_g0]
      by_cases h1 : k < 0
      · rw [if_pos h1]
      · have h2 : (5 : Int32) < k := by
          rcases hk with hk | hk
          · exact absurd hk h1
          · rw [Int32.lt_iff_toInt_lt]
            rw [k_le (by decide)] at hk
            have : (5 : Int32).toInt = 5 := rfl
            omega
        rw [if_neg h1, if_pos h2]
    · have hne : ∀ j : Nat, j < 6 → ¬ k = nI j := by
        intro j hj e
        subst e
        rcases hk with hk | hk
        · exact nI_pos (by omega) hk
        · exact nI_ge hj (by decide) hk
      unfold f_X7_isAct
      rw [if_neg (show ¬ k = 0 from hne 0 (by decide)), if_neg (show ¬ k = 1 from hne 1 (by decide)), if_neg (show ¬ k = 2 from hne 2 (by decide)), if_neg (show ¬ k = 3 from hne 3 (by decide)), if_neg (show ¬ k = 4 from hne 4 (by decide)), if_neg (show ¬ k = 5 from hne 5 (by decide)), z_g0]
  · rcases (show j = 0 ∨ j = 1 ∨ j = 2 ∨ j = 3 ∨ j = 4 ∨ j = 5 by omega) with rfl | rfl | rfl | rfl | rfl | rfl
    · exact Or.inl ⟨Or.inl rfl, rfl, rfl⟩
    · have e1 : f_X6_isAct n (nI 1) a b c = x_b (f_X6_mayHaveA_42 n a) (fun v10 => if v10 = 0 then some 0 else some 1) := rfl
      have e2 : f_X7_isAct n (nI 1) a b c = x_b (f_X7_in n a 0 3) (fun v2 => x_g (v2 = 0 ∨ v2 = 1) (some v2)) := rfl
      rw [e1, e2, e_mA42, e_in, x_b_s, x_b_s]
      by_cases h : 0 ≤ a ∧ a ≤ 3
      · rw [if_pos h]
        exact Or.inl ⟨Or.inr (Or.inl ⟨rfl, h.1, h.2⟩), rfl, rfl⟩
      · rw [if_neg h]
        exact Or.inr ⟨rfl, rfl⟩
    · have e1 : f_X6_isAct n (nI 2) a b c = f_X6_isAct_39 n 2 c := rfl
      have e2 : f_X7_isAct n (nI 2) a b c = x_b (f_X7_in n c 0 60) (fun v2 => x_g (v2 = 0 ∨ v2 = 1) (some v2)) := rfl
      rw [e1, e2, e_iA39 n 2 c (Or.inl rfl), e_in, x_b_s]
      by_cases h : 0 ≤ c ∧ c ≤ 60
      · rw [if_pos h]
        exact Or.inl ⟨Or.inr (Or.inr (Or.inl ⟨rfl, h.1, h.2⟩)), rfl, rfl⟩
      · rw [if_neg h]
        exact Or.inr ⟨rfl, rfl⟩
    · have e1 : f_X6_isAct n (nI 3) a b c = x_b (f_X6_mayHaveA_42 n a) (fun v10 => if v10 = 0 then some 0 else x_b (f_X6_mayHaveB n 3 b) (fun v8 => if v8 = 0 then some 0 else f_X6_isAct_39 n 3 c)) := rfl
      have e2 : f_X7_isAct n (nI 3) a b c = x_b (f_X7_in n a 0 3) (fun v6 => if v6 = 0 then some 0 else x_b (f_X7_in n b 0 5) (fun v8 => if v8 = 0 then some 0 else x_b (f_X7_in n c 0 60) (fun v10 => if v10 = 0 then some 0 else some 1))) := rfl
      rw [e1, e2, e_mB3, e_mA42, e_in, e_in, e_in, e_iA39 n 3 c (Or.inr rfl)]
      simp only [x_b_s]
      by_cases ha : 0 ≤ a ∧ a ≤ 3
      · rw [if_pos ha, if_neg i_10, if_neg i_10]
        by_cases hb : 0 ≤ b ∧ b ≤ 5
        · rw [if_pos hb, if_neg i_10, if_neg i_10]
          by_cases hc : 0 ≤ c ∧ c ≤ 60
          · rw [if_pos hc]
            exact Or.inl ⟨Or.inr (Or.inr (Or.inr (Or.inl ⟨rfl, ha, hb, hc⟩))), rfl, rfl⟩
          · rw [if_neg hc]
            exact Or.inr ⟨rfl, rfl⟩
        · rw [if_neg hb]
          exact Or.inr ⟨rfl, rfl⟩
      · rw [if_neg ha]
        exact Or.inr ⟨rfl, rfl⟩
    · exact Or.inl ⟨Or.inr (Or.inr (Or.inr (Or.inr (Or.inl rfl)))), rfl, rfl⟩
    · have e1 : f_X6_isAct n (nI 5) a b c = x_b (f_X6_mayHaveA n 5 a) (fun v10 => if v10 = 0 then some 0 else some 1) := rfl
      have e2 : f_X7_isAct n (nI 5) a b c = x_b (f_X7_in n a 0 11) (fun v12 => if v12 = 0 then some 0 else some 1) := rfl
      rw [e1, e2, e_mA5, e_in]
      simp only [x_b_s]
      by_cases h : 0 ≤ a ∧ a ≤ 11
      · rw [if_pos h]
        exact Or.inl ⟨Or.inr (Or.inr (Or.inr (Or.inr (Or.inr ⟨rfl, h.1, h.2⟩)))), rfl, rfl⟩
      · rw [if_neg h]
        exact Or.inr ⟨rfl, rfl⟩
/-- put -/
def s_put (S : x_S) (i j : Nat) (k a b c : Int32) : x_S := s_pa (s_pa (s_pa (s_pa S 0 i j k) 1 i j (n_a k a)) 2 i j (n_b k b)) 3 i j (n_c k c)
def s_pum (S : x_S) (at_ : Nat) (k a b c : Int32) : x_S := s_ar (s_ar (s_ar (s_ar S 702 at_ k) 703 at_ (n_a k a)) 704 at_ (n_b k b)) 705 at_ (n_c k c)
theorem e_put (n : Nat) (S : x_S) (i j : Nat) (k a b c : Int32) (hi : i < g_np S) (hj : j < 60) : f_X2_put n S i (nI j) k a b c = some (s_put S i j k a b c) := by
  have hj2 : j < 2 ^ 31 := by omega
  have c1 := nI_pos hj2
  have c2 : nI j < (60 : Int32) := nI_lt hj (by decide)
  have c3 := k_in2 hj hj2
  have c4 := nI_clamp hj2
  have p1 : ∀ (T : x_S) (z x y : Nat) (v : Int32), g_np (s_pa T z x y v) = g_np T := fun _ _ _ _ _ => rfl
  have ea : ∀ x : Int32, ((if (if k = 2 ∨ k = 4 then (0 : Int32) else 1) = 0 then (0 : Int32) else x)) = (if k = 2 ∨ k = 4 then 0 else x) := by
    intro x
    by_cases h : k = 2 ∨ k = 4
    · simp [h]
    · simp [h]
  unfold f_X2_put
  rw [if_neg c1, if_pos c2]
  simp only [x_gt hi, c4, x_gt c3, x_l_e, p1, e_usesA, x_b_s, f_X2_put_35, f_X2_put_54, e_usesB, e_isJump]
  unfold s_put n_a n_b n_c
  by_cases h1 : k = 2 ∨ k = 4 <;> by_cases h2 : k = 1 ∨ k = 3 <;> by_cases h3 : k = 2 ∨ k = 3 <;> simp [h1, h2, h3]
theorem e_pum (n : Nat) (S : x_S) (r j : Nat) (k a b c : Int32) (hr : r < 12) (hj : j < 60) : f_X7_put n S (nI r) (nI j) k a b c = some (s_pum S (60 * r + j) k a b c) := by
  have d1 : 60 * r + j < 2 ^ 31 := by omega
  have c3 := k_in2 (show 60 * r + j < 720 by omega) d1
  have c4 := nI_clamp d1
  unfold f_X7_put
  simp only [k_at hr hj, c4, x_gt c3, x_l_e, f_X7_put_32, f_X7_put_38, f_X7_put_55, f_X7_put_61]
  unfold s_pum n_a n_b n_c
  by_cases h1 : k = 1 <;> by_cases h2 : k = 2 <;> by_cases h3 : k = 3 <;> by_cases h4 : k = 4 <;> simp [h1, h2, h3, h4]
