/-! LEVEL 2: the invariant between the class's state Sc and the reference's Sm -/
/-- an ACT as acts are kept: what it has no use for is 0 -/
def ok_act (k a b c : Int32) : Prop := (k = 0 ∧ b = 0 ∧ c = 0) ∨ (k = 1 ∧ 0 ≤ a ∧ a < 4 ∧ c = 0) ∨ (k = 2 ∧ a = 0 ∧ b = 0 ∧ 0 ≤ c ∧ c ≤ 60) ∨ (k = 3 ∧ 0 ≤ a ∧ a < 4 ∧ 0 ≤ b ∧ b < 6 ∧ 0 ≤ c ∧ c ≤ 60) ∨ (k = 4 ∧ a = 0 ∧ b = 0 ∧ c = 0) ∨ (k = 5 ∧ 0 ≤ a ∧ a < 12 ∧ b = 0 ∧ c = 0)
/-- ROUTINE r with L ACTS: the same in both -/
def iv_whole (L r : Nat) (Sm : x_S) : Prop := ∀ i, i < L → g_ar Sm 705 (60 * r + i) ≤ nI L
def iv_acts (L r : Nat) (Sc Sm : x_S) : Prop := ∀ i, i < L → g_pa Sc 0 (r + 1) i = g_ar Sm 702 (60 * r + i) ∧ g_pa Sc 1 (r + 1) i = g_ar Sm 703 (60 * r + i) ∧ g_pa Sc 2 (r + 1) i = g_ar Sm 704 (60 * r + i) ∧ g_pa Sc 3 (r + 1) i = g_ar Sm 705 (60 * r + i) ∧ ok_act (g_ar Sm 702 (60 * r + i)) (g_ar Sm 703 (60 * r + i)) (g_ar Sm 704 (60 * r + i)) (g_ar Sm 705 (60 * r + i))
def iv_one (L r : Nat) (Sc Sm : x_S) : Prop := L ≤ 60 ∧ g_ar Sm 701 r = nI L ∧ g_ps Sc 4 (r + 1) = nI L ∧ iv_acts L r Sc Sm ∧ ((g_ps Sc 5 (r + 1) = 1 ∧ iv_whole L r Sm) ∨ (g_ps Sc 5 (r + 1) = 0 ∧ ¬ iv_whole L r Sm))
def iv_rt (N : Nat) (Sc Sm : x_S) : Prop := N ≤ 12 ∧ g_sc Sm 700 = nI N ∧ g_sc Sc 601 = nI N ∧ g_np Sc = N + 1 ∧ (∀ r, r < N → g_ra Sc 600 r = some (r + 1)) ∧ (∀ r, N ≤ r → g_ra Sc 600 r = none) ∧ ∀ r, r < N → ∃ L, iv_one L r Sc Sm
def iv_cl (Sc : x_S) : Prop := (∀ k i, g_rf Sc k = some i → i < g_np Sc) ∧ ∀ k j i, g_ra Sc k j = some i → i < g_np Sc
def iv_tp (Sc Sm : x_S) : Prop := ∃ t, t ≤ 300 ∧ g_sc Sc 606 = nI t ∧ g_sc Sm 708 = nI t ∧ ∀ i, i < t → g_ar Sc 605 i = g_ar Sm 707 i
def iv_rg (Sc Sm : x_S) : Prop := ∀ i, i < 4 → g_ar Sc 609 i = g_ar Sm 706 i
def iv_rn (Sc Sm : x_S) : Prop := g_sc Sc 300 = g_sc Sm 710 ∧ g_sc Sc 301 = g_sc Sm 711 ∧ (∃ t, t ≤ 200 ∧ g_sc Sc 302 = nI t ∧ g_sc Sm 712 = nI t ∧ ∀ i, i < t → g_ar Sc 303 i = g_ar Sm 713 i) ∧ ∀ i, i < 4 → g_ar Sc 304 i = g_ar Sm 714 i
/-- numbers -/
theorem k_lt {t : Nat} {c : Int32} (h : t < 2 ^ 31) : nI t < c ↔ (t : Int) < c.toInt := by rw [Int32.lt_iff_toInt_lt, nI_toInt h]
theorem k_le {t : Nat} {c : Int32} (h : t < 2 ^ 31) : nI t ≤ c ↔ (t : Int) ≤ c.toInt := by rw [Int32.le_iff_toInt_le, nI_toInt h]
theorem k_gt {t : Nat} {c : Int32} (h : t < 2 ^ 31) : c < nI t ↔ c.toInt < (t : Int) := by rw [Int32.lt_iff_toInt_lt, nI_toInt h]
theorem k_ge {t : Nat} {c : Int32} (h : t < 2 ^ 31) : c ≤ nI t ↔ c.toInt ≤ (t : Int) := by rw [Int32.le_iff_toInt_le, nI_toInt h]
theorem k_eq {t : Nat} {c : Int32} (h : t < 2 ^ 31) : nI t = c ↔ (t : Int) = c.toInt := by rw [← Int32.toInt_inj, nI_toInt h]
theorem x_gt {ρ : Type} {c : Prop} [Decidable c] (h : c) (k : Option ρ) : x_g c k = k := if_pos h
theorem k_in {i L : Nat} (h : i < L) (hL : L < 2 ^ 31) : ¬ (nI i < 0 ∨ L ≤ (nI i).toNatClampNeg) := nI_in h hL
/-- an argument is below 0, too large, or a number -/
theorem k_arg (a : Int32) {N : Nat} (hN : N < 2 ^ 31) : (a < 0 ∨ nI N ≤ a) ∨ ∃ j, j < N ∧ a = nI j := by
  rcases pk_ix a hN with h | h | h
  · exact Or.inl (Or.inl h)
  · exact Or.inl (Or.inr h)
  · exact Or.inr h
/-- in(v, low, high) -/
theorem e_in (n : Nat) (v lo hi : Int32) : f_X7_in n v lo hi = some (if lo ≤ v ∧ v ≤ hi then 1 else 0) := by
  unfold f_X7_in
  by_cases h1 : v < lo
  · rw [if_pos h1, x_gt (Or.inl rfl), if_neg (fun h => absurd h.1 (Int32.not_le.mpr h1))]
  · rw [if_neg h1]
    by_cases h2 : hi < v
    · rw [if_pos h2, x_gt (Or.inl rfl), if_neg (fun h => absurd h.2 (Int32.not_le.mpr h2))]
    · rw [if_neg h2, x_gt (Or.inr rfl), if_pos ⟨Int32.not_lt.mp h1, Int32.not_lt.mp h2⟩]
theorem k_m1 {N : Nat} (h : N ≤ 720) : (nI N - 1).toInt = (N : Int) - 1 := pk_sub_toInt (a := N) (b := 1) (by omega) (by decide)
theorem e_in_yes (n : Nat) {j N : Nat} (h : j < N) (hN : N ≤ 720) : f_X7_in n (nI j) 0 (nI N - 1) = some 1 := by
  rw [e_in, if_pos]
  refine ⟨(k_ge (by omega)).mpr (by show (0 : Int) ≤ _; omega), ?_⟩
  rw [Int32.le_iff_toInt_le, k_m1 hN, nI_toInt (by omega)]
  omega
theorem e_in_no (n : Nat) {a : Int32} {N : Nat} (h : a < 0 ∨ nI N ≤ a) (hN : N ≤ 720) : f_X7_in n a 0 (nI N - 1) = some 0 := by
  rw [e_in, if_neg]
  rintro ⟨h1, h2⟩
  rw [Int32.le_iff_toInt_le, k_m1 hN] at h2
  rw [Int32.le_iff_toInt_le] at h1
  have h0 : (0 : Int32).toInt = 0 := rfl
  rcases h with h | h
  · rw [Int32.lt_iff_toInt_lt] at h
    omega
  · rw [k_le (by omega)] at h
    omega
theorem k_in2 {i L : Nat} (h : i < L) (hi : i < 2 ^ 31) : ¬ (nI i < 0 ∨ L ≤ i) := by
  rintro (h1 | h1)
  · exact nI_pos hi h1
  · omega
theorem x_b_s {α ρ : Type} (v : α) (k : α → Option ρ) : x_b (some v) k = k v := rfl
theorem x_b2_s {α β ρ : Type} (v : α) (S : β) (k : α → β → Option ρ) : x_b2 (some (v, S)) k = k v S := rfl
theorem x_o_n {ρ : Type} (a : Option ρ) (b : Nat → Option ρ) : x_o none a b = a := rfl
theorem x_o_s {ρ : Type} (i : Nat) (a : Option ρ) (b : Nat → Option ρ) : x_o (some i) a b = b i := rfl
theorem x_l_e {α ρ : Type} (a : α) (k : α → Option ρ) : x_let a k = k a := rfl
theorem x_loop_s {σ ρ : Type} (body : (σ → Option ρ) → σ → Option ρ) (k : Nat) (z : σ) : x_loop body (k + 1) z = body (x_loop body k) z := rfl
theorem i_10 : ¬ (1 : Int32) = 0 := by decide
