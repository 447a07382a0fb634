/-! finding a ROUTINE; like; routine -/
theorem z_g0 {ρ : Type} (k : Option ρ) : x_g ((0 : Int32) = 0 ∨ (0 : Int32) = 1) k = k := x_gt (Or.inl rfl) k
theorem z_g1 {ρ : Type} (k : Option ρ) : x_g ((1 : Int32) = 0 ∨ (1 : Int32) = 1) k = k := x_gt (Or.inr rfl) k
theorem x_gT {ρ : Type} [inst : Decidable True] (k : Option ρ) : @x_g ρ True inst k = k := if_pos trivial
theorem e_find_no (n : Nat) {N : Nat} {Sc Sm : x_S} {a : Int32} (h : iv_rt N Sc Sm) (hq : a < 0 ∨ nI N ≤ a) : f_X6_find n Sc a = some (none, Sc) := by
  unfold f_X6_find
  by_cases c1 : a < 0
  · rw [if_pos c1]
  · have c2 : ¬ a < nI N := by
      rcases hq with hq | hq
      · exact absurd hq c1
      · exact Int32.not_lt.mpr hq
    rw [if_neg c1, x_l_e, h.2.2.1, if_neg c2]
theorem e_find (n : Nat) {N r : Nat} {Sc Sm : x_S} (h : iv_rt N Sc Sm) (hr : r < N) : f_X6_find n Sc (nI r) = some (some (r + 1), Sc) := by
  obtain ⟨h1, h2, h3, h4, h5, h6, h7⟩ := h
  have hj2 : r < 2 ^ 31 := by omega
  have c3 := k_in2 (show r < 12 by omega) hj2
  have c4 := nI_clamp hj2
  unfold f_X6_find
  rw [if_neg (nI_pos hj2), x_l_e, h3, if_pos (nI_lt hr (by omega)), c4, x_gt c3, x_l_e, h5 r hr, x_o_s]
theorem e_isR_no (n : Nat) {N : Nat} {Sc Sm : x_S} {a : Int32} (h : iv_rt N Sc Sm) (hq : a < 0 ∨ nI N ≤ a) : f_X7_isRoutine n Sm a = some (0, Sm) := by
  unfold f_X7_isRoutine
  rw [x_l_e, h.2.1, e_in_no n hq (by have := h.1; omega), x_b_s, x_gt (Or.inl rfl)]
theorem e_isR (n : Nat) {N r : Nat} {Sc Sm : x_S} (h : iv_rt N Sc Sm) (hr : r < N) : f_X7_isRoutine n Sm (nI r) = some (1, Sm) := by
  unfold f_X7_isRoutine
  rw [x_l_e, h.2.1, e_in_yes n hr (by have := h.1; omega), x_b_s, x_gt (Or.inr rfl)]
/-- the index of an ACT in the reference's rows -/
theorem k_at {r i : Nat} (hr : r < 12) (hi : i < 60) : ((60 : Int32) * nI r) + nI i = nI (60 * r + i) := by
  show nI 60 * nI r + nI i = _
  rw [pk_mul, nI_add]
/-- two ROUTINES, ACT by ACT -/
def lk_E (r q : Nat) (Sm : x_S) (j : Nat) : Prop := g_ar Sm 702 (60 * r + j) = g_ar Sm 702 (60 * q + j) ∧ g_ar Sm 703 (60 * r + j) = g_ar Sm 703 (60 * q + j) ∧ g_ar Sm 704 (60 * r + j) = g_ar Sm 704 (60 * q + j) ∧ g_ar Sm 705 (60 * r + j) = g_ar Sm 705 (60 * q + j)
def lk_P (E : Nat → Prop) (L i : Nat) (v : Int32) : Prop := (v = 1 ∧ ∀ j, i ≤ j → j < L → E j) ∨ (v = 0 ∧ ∃ j, i ≤ j ∧ j < L ∧ ¬ E j)
theorem lk_uni {E : Nat → Prop} {L i : Nat} {v u : Int32} (h : lk_P E L i v) (h2 : lk_P E L i u) : v = u := by
  rcases h with ⟨e, a⟩ | ⟨e, j, a, b, c⟩ <;> rcases h2 with ⟨e2, a2⟩ | ⟨e2, j2, a2, b2, c2⟩
  · rw [e, e2]
  · exact absurd (a j2 a2 b2) c2
  · exact absurd (a2 j a b) c
  · rw [e, e2]
theorem lk_step {E : Nat → Prop} {L i : Nat} {v : Int32} (hi : E i) (h : lk_P E L (i + 1) v) : lk_P E L i v := by
  rcases h with ⟨e, a⟩ | ⟨e, j, a, b, c⟩
  · refine Or.inl ⟨e, fun j h1 h2 => ?_⟩
    rcases Nat.lt_or_ge i j with q | q
    · exact a j q h2
    · have : j = i := by omega
      rw [this]; exact hi
  · exact Or.inr ⟨e, j, by omega, b, c⟩
theorem lk_c (n : Nat) {L r q : Nat} {Sc Sm : x_S} (hr : iv_one L r Sc Sm) (hq : iv_one L q Sc Sm) (h1 : r + 1 < g_np Sc) (h2 : q + 1 < g_np Sc) : ∀ (d i k : Nat), i ≤ L → L - i = d → d < k → ∃ v, lk_P (lk_E r q Sm) L i v ∧ x_loop (fun rec z => f_X2_isAlike_15 n rec z.1 z.2.1 z.2.2.1 z.2.2.2) k (Sc, r + 1, q + 1, nI i) = some (v, Sc) := by
  obtain ⟨r1, r2, r3, r4, r5⟩ := hr
  obtain ⟨q1, q2, q3, q4, q5⟩ := hq
  intro d
  induction d with
  | zero =>
    intro i k hiL hd hk
    obtain ⟨k, rfl⟩ : ∃ z, k = z + 1 := ⟨k - 1, by omega⟩
    refine ⟨1, Or.inl ⟨rfl, fun j a b => by omega⟩, ?_⟩
    rw [x_loop_s]
    simp only [f_X2_isAlike_15, x_gt h1, x_l_e, r3, if_pos (nI_le (show L ≤ i by omega) (by omega)), z_g1, or_true, x_gT]
  | succ d ih =>
    intro i k hiL hd hk
    obtain ⟨k, rfl⟩ : ∃ z, k = z + 1 := ⟨k - 1, by omega⟩
    have hi : i < L := by omega
    have hj2 : i < 2 ^ 31 := by omega
    have c3 := k_in2 (show i < 60 by omega) hj2
    have c4 := nI_clamp hj2
    obtain ⟨v, hv, he⟩ := ih (i + 1) k (by omega) (by omega) (by omega)
    obtain ⟨a1, a2, a3, a4, a5⟩ := r4 i hi
    obtain ⟨b1, b2, b3, b4, b5⟩ := q4 i hi
    rw [x_loop_s]
    simp only [f_X2_isAlike_15, x_gt h1, x_gt h2, x_l_e, r3, if_neg (nI_ge hi (by omega)), c4, x_gt c3, a1, a2, a3, a4, b1, b2, b3, b4, nI_1, z_g0, true_or, x_gT]
    by_cases e1 : g_ar Sm 702 (60 * r + i) = g_ar Sm 702 (60 * q + i)
    · rw [if_pos e1]
      by_cases e2 : g_ar Sm 703 (60 * r + i) = g_ar Sm 703 (60 * q + i)
      · rw [if_pos e2]
        by_cases e3 : g_ar Sm 704 (60 * r + i) = g_ar Sm 704 (60 * q + i)
        · rw [if_pos e3]
          by_cases e4 : g_ar Sm 705 (60 * r + i) = g_ar Sm 705 (60 * q + i)
          · rw [if_pos e4]
            exact ⟨v, lk_step ⟨e1, e2, e3, e4⟩ hv, he⟩
          · rw [if_neg e4]
            exact ⟨0, Or.inr ⟨rfl, i, Nat.le_refl _, hi, fun h => e4 h.2.2.2⟩, rfl⟩
        · rw [if_neg e3]
          exact ⟨0, Or.inr ⟨rfl, i, Nat.le_refl _, hi, fun h => e3 h.2.2.1⟩, rfl⟩
      · rw [if_neg e2]
        exact ⟨0, Or.inr ⟨rfl, i, Nat.le_refl _, hi, fun h => e2 h.2.1⟩, rfl⟩
    · rw [if_neg e1]
      exact ⟨0, Or.inr ⟨rfl, i, Nat.le_refl _, hi, fun h => e1 h.1⟩, rfl⟩
theorem lk_m (n : Nat) {L r q : Nat} {Sm : x_S} (hr : r < 12) (hq : q < 12) (hL : L ≤ 60) (h1 : g_ar Sm 701 r = nI L) : ∀ (d i k : Nat), i ≤ L → L - i = d → d + 1 < k → ∃ v, lk_P (lk_E r q Sm) L i v ∧ x_loop (fun rec z => f_X7_areLike_24 n rec z.1 z.2.1 z.2.2.1 z.2.2.2.1 z.2.2.2.2) k (Sm, nI r, nI q, 1, nI i) = some (v, Sm) := by
  have hr2 : r < 2 ^ 31 := by omega
  have g3 := k_in2 hr hr2
  have g4 := nI_clamp hr2
  have zero : ∀ (i k : Nat), i ≤ L → 0 < k → x_loop (fun rec z => f_X7_areLike_24 n rec z.1 z.2.1 z.2.2.1 z.2.2.2.1 z.2.2.2.2) k (Sm, nI r, nI q, 0, nI i) = some (0, Sm) := by
    intro i k hi hk
    obtain ⟨k, rfl⟩ : ∃ z, k = z + 1 := ⟨k - 1, by omega⟩
    rw [x_loop_s]
    simp only [f_X7_areLike_24, g4, x_gt g3, x_l_e, h1, z_g0, true_or, x_gT, if_true]
    split <;> rfl
  intro d
  induction d with
  | zero =>
    intro i k hiL hd hk
    obtain ⟨k, rfl⟩ : ∃ z, k = z + 1 := ⟨k - 1, by omega⟩
    refine ⟨1, Or.inl ⟨rfl, fun j a b => by omega⟩, ?_⟩
    rw [x_loop_s]
    simp only [f_X7_areLike_24, g4, x_gt g3, x_l_e, h1, if_pos (nI_le (show L ≤ i by omega) (by omega)), z_g1, or_true, x_gT]
  | succ d ih =>
    intro i k hiL hd hk
    obtain ⟨k, rfl⟩ : ∃ z, k = z + 1 := ⟨k - 1, by omega⟩
    have hi : i < L := by omega
    obtain ⟨v, hv, he⟩ := ih (i + 1) k (by omega) (by omega) (by omega)
    have hz := zero (i + 1) k (by omega) (by omega)
    have d1 : 60 * r + i < 2 ^ 31 := by omega
    have d2 : 60 * q + i < 2 ^ 31 := by omega
    have c3 := k_in2 (show 60 * r + i < 720 by omega) d1
    have c4 := nI_clamp d1
    have c5 := k_in2 (show 60 * q + i < 720 by omega) d2
    have c6 := nI_clamp d2
    rw [x_loop_s]
    simp only [f_X7_areLike_24, f_X7_areLike_129, f_X7_areLike_130, g4, x_gt g3, x_l_e, h1, if_neg (nI_ge hi (by omega)), if_neg i_10, k_at hr (show i < 60 by omega), k_at hq (show i < 60 by omega), c4, x_gt c3, c6, x_gt c5, nI_1]
    by_cases e1 : g_ar Sm 702 (60 * r + i) = g_ar Sm 702 (60 * q + i)
    · rw [if_pos e1]
      by_cases e2 : g_ar Sm 703 (60 * r + i) = g_ar Sm 703 (60 * q + i)
      · rw [if_pos e2]
        by_cases e3 : g_ar Sm 704 (60 * r + i) = g_ar Sm 704 (60 * q + i)
        · rw [if_pos e3]
          by_cases e4 : g_ar Sm 705 (60 * r + i) = g_ar Sm 705 (60 * q + i)
          · rw [if_pos e4]
            exact ⟨v, lk_step ⟨e1, e2, e3, e4⟩ hv, he⟩
          · rw [if_neg e4]
            exact ⟨0, Or.inr ⟨rfl, i, Nat.le_refl _, hi, fun h => e4 h.2.2.2⟩, hz⟩
        · rw [if_neg e3]
          exact ⟨0, Or.inr ⟨rfl, i, Nat.le_refl _, hi, fun h => e3 h.2.2.1⟩, hz⟩
      · rw [if_neg e2]
        exact ⟨0, Or.inr ⟨rfl, i, Nat.le_refl _, hi, fun h => e2 h.2.1⟩, hz⟩
    · rw [if_neg e1]
      exact ⟨0, Or.inr ⟨rfl, i, Nat.le_refl _, hi, fun h => e1 h.1⟩, hz⟩
theorem e_like (n : Nat) (hn : 1000 ≤ n) {N r q : Nat} {Sc Sm : x_S} (h : iv_rt N Sc Sm) (hr : r < N) (hq : q < N) : ∃ v, (v = 0 ∨ v = 1) ∧ f_X2_isAlike n Sc (r + 1) (q + 1) = some (v, Sc) ∧ f_X7_areLike n Sm (nI r) (nI q) = some (v, Sm) ∧ (r = q → v = 1) := by
  obtain ⟨h1, h2, h3, h4, h5, h6, h7⟩ := h
  obtain ⟨L, hL⟩ := h7 r hr
  obtain ⟨M, hM⟩ := h7 q hq
  have np1 : r + 1 < g_np Sc := by omega
  have np2 : q + 1 < g_np Sc := by omega
  have hr2 : r < 2 ^ 31 := by omega
  have hq2 : q < 2 ^ 31 := by omega
  have g3 := k_in2 (show r < 12 by omega) hr2
  have g4 := nI_clamp hr2
  have g5 := k_in2 (show q < 12 by omega) hq2
  have g6 := nI_clamp hq2
  have hLn := hL.1
  have hMn := hM.1
  by_cases e : L = M
  · subst e
    obtain ⟨v, v1, v2⟩ := lk_c n hL hM np1 np2 L 0 n (Nat.zero_le _) rfl (by omega)
    obtain ⟨u, u1, u2⟩ := lk_m n (show r < 12 by omega) (show q < 12 by omega) hLn hL.2.1 L 0 n (Nat.zero_le _) rfl (by omega)
    have huv := lk_uni v1 u1
    subst huv
    refine ⟨v, ?_, ?_, ?_, ?_⟩
    · rcases v1 with ⟨a, -⟩ | ⟨a, -⟩
      · exact Or.inr a
      · exact Or.inl a
    · simp only [f_X2_isAlike, x_gt np1, x_gt np2, x_l_e, hL.2.2.1, hM.2.2.1, if_true]
      exact v2
    · simp only [f_X7_areLike, f_X7_areLike_20, g4, x_gt g3, g6, x_gt g5, x_l_e, hL.2.1, hM.2.1, if_true]
      exact u2
    · intro hrq
      subst hrq
      rcases v1 with ⟨a, -⟩ | ⟨a, j, b, c, d⟩
      · exact a
      · exact absurd ⟨rfl, rfl, rfl, rfl⟩ d
  · have c1 : ¬ nI L = nI M := fun z => e ((nI_eq (by omega) (by omega)).mp z)
    refine ⟨0, Or.inl rfl, ?_, ?_, fun hrq => ?_⟩
    · simp only [f_X2_isAlike, x_gt np1, x_gt np2, x_l_e, hL.2.2.1, hM.2.2.1, if_neg c1, true_or, x_gT]
    · simp only [f_X7_areLike, f_X7_areLike_20, g4, x_gt g3, g6, x_gt g5, x_l_e, hL.2.1, hM.2.1, if_neg c1]
      obtain ⟨k, rfl⟩ : ∃ z, n = z + 1 := ⟨n - 1, by omega⟩
      rw [x_loop_s]
      simp only [f_X7_areLike_24, g4, x_gt g3, x_l_e, hL.2.1, true_or, x_gT, if_true]
      split <;> rfl
    · subst hrq
      exact absurd (hL.2.1.symm.trans hM.2.1) c1
theorem l2_like (n : Nat) (hn : 1000 ≤ n) : x_2_like INV n := by
  intro Sc Sm a b h
  obtain ⟨N, hN⟩ := h
  have h1 := hN.1
  have hb12 : N < 2 ^ 31 := by have := h1.1; omega
  rcases k_arg a hb12 with ha | ⟨r, hr, rfl⟩
  · refine ⟨-2, Sc, Sm, ?_, ?_, N, hN⟩
    · simp only [f_X6_like, e_find_no n h1 ha, x_b2_s, x_o_n]
      rcases k_arg b hb12 with hb | ⟨q, hq, rfl⟩
      · simp only [e_find_no n h1 hb, x_b2_s, x_o_n]
      · simp only [e_find n h1 hq, x_b2_s, x_o_s]
    · simp only [f_X7_like, e_isR_no n h1 ha, x_b2_s, if_true]
  · rcases k_arg b hb12 with hb | ⟨q, hq, rfl⟩
    · refine ⟨-2, Sc, Sm, ?_, ?_, N, hN⟩
      · simp only [f_X6_like, e_find n h1 hr, x_b2_s, x_o_s, e_find_no n h1 hb, x_o_n]
      · simp only [f_X7_like, e_isR n h1 hr, x_b2_s, if_neg i_10, e_isR_no n h1 hb, if_true]
    · obtain ⟨v, v1, v2, v3, -⟩ := e_like n hn h1 hr hq
      have np1 : r + 1 < g_np Sc := by have := h1.2.2.2.1; omega
      refine ⟨v, Sc, Sm, ?_, ?_, N, hN⟩
      · simp only [f_X6_like, e_find n h1 hr, x_b2_s, x_o_s, e_find n h1 hq, x_gt np1, v2]
        rcases v1 with rfl | rfl <;> rfl
      · simp only [f_X7_like, e_isR n h1 hr, x_b2_s, if_neg i_10, e_isR n h1 hq, v3]
        rcases v1 with rfl | rfl <;> rfl
