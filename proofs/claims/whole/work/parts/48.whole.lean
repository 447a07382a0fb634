/-! isWhole of the reference -/
theorem e_leads (n : Nat) (S : x_S) (a : Nat) (ha : a < 720) : f_X7_leads n S (nI a) = some (if g_ar S 702 a = 2 ∨ g_ar S 702 a = 3 then 1 else 0, S) := by
  have h2 : a < 2 ^ 31 := by omega
  have c3 := k_in2 ha h2
  have c4 := nI_clamp h2
  unfold f_X7_leads
  simp only [c4, x_gt c3, x_l_e, or_true, true_or, x_gT]
  by_cases e1 : g_ar S 702 a = 2 <;> by_cases e2 : g_ar S 702 a = 3 <;> simp [e1, e2]
/-- ROUTINE r of the reference's state alone -/
def am_ok (L r : Nat) (S : x_S) : Prop := L ≤ 60 ∧ g_ar S 701 r = nI L ∧ ∀ i, i < L → ok_act (g_ar S 702 (60 * r + i)) (g_ar S 703 (60 * r + i)) (g_ar S 704 (60 * r + i)) (g_ar S 705 (60 * r + i))
theorem am_of {L r : Nat} {Sc Sm : x_S} (h : iv_one L r Sc Sm) : am_ok L r Sm := ⟨h.1, h.2.1, fun i hi => (h.2.2.2.1 i hi).2.2.2.2⟩
theorem ok_c0 {k a b c : Int32} (h : ok_act k a b c) (hk : ¬ (k = 2 ∨ k = 3)) : c = 0 := by
  rcases h with ⟨_, _, e⟩ | ⟨_, _, _, e⟩ | ⟨e, _⟩ | ⟨e, _⟩ | ⟨_, _, _, e⟩ | ⟨_, _, _, _, e⟩
  · exact e
  · exact e
  · exact absurd (Or.inl e) hk
  · exact absurd (Or.inr e) hk
  · exact e
  · exact e
theorem e_wholeL (n : Nat) {L r : Nat} {S : x_S} (hr : r < 12) (h : am_ok L r S) : ∀ (d i k : Nat) (x : Int32), i ≤ L → L - i = d → d < k → (x = 0 ∨ x = 1) → ∃ v, jw_P (fun l => g_ar S 705 (60 * r + l) ≤ nI L) L i x v ∧ x_loop (fun rec z => f_X7_isWhole_7 n rec z.1 z.2.1 z.2.2.1 z.2.2.2) k (S, nI r, x, nI (60 * r + i)) = some (v, S) := by
  obtain ⟨hL, h1, h2⟩ := h
  have hr2 : r < 2 ^ 31 := by omega
  have g3 := k_in2 hr hr2
  have g4 := nI_clamp hr2
  have e60 : (60 : Int32) * nI r + nI L = nI (60 * r + L) := by
    show nI 60 * nI r + nI L = _
    rw [pk_mul, nI_add]
  intro d
  induction d with
  | zero =>
    intro i k x hi hd hk hx
    obtain ⟨k, rfl⟩ : ∃ z, k = z + 1 := ⟨k - 1, by omega⟩
    refine ⟨x, Or.inl ⟨rfl, fun l a b => by omega⟩, ?_⟩
    rw [x_loop_s]
    simp only [f_X7_isWhole_7, g4, x_gt g3, x_l_e, h1, e60, if_pos (nI_le (show 60 * r + L ≤ 60 * r + i by omega) (by omega)), x_gt hx]
  | succ d ih =>
    intro i k x hi hd hk hx
    obtain ⟨k, rfl⟩ : ∃ z, k = z + 1 := ⟨k - 1, by omega⟩
    have hlt : i < L := by omega
    have d1 : 60 * r + i < 2 ^ 31 := by omega
    have c3 := k_in2 (show 60 * r + i < 720 by omega) d1
    have c4 := nI_clamp d1
    have key : ∀ v, jw_P (fun l => g_ar S 705 (60 * r + l) ≤ nI L) L (i + 1) x v → g_ar S 705 (60 * r + i) ≤ nI L → jw_P (fun l => g_ar S 705 (60 * r + l) ≤ nI L) L i x v := by
      intro v hv e
      rcases hv with ⟨a, b⟩ | ⟨a, l, b, c, f⟩
      · refine Or.inl ⟨a, fun l h1 h2 => ?_⟩
        rcases Nat.lt_or_ge i l with q | q
        · exact b l q h2
        · have : l = i := by omega
          rw [this]; exact e
      · exact Or.inr ⟨a, l, by omega, c, f⟩
    have key0 : ∀ v, jw_P (fun l => g_ar S 705 (60 * r + l) ≤ nI L) L (i + 1) 0 v → v = 0 := by
      intro v hv
      rcases hv with ⟨a, b⟩ | ⟨a, b⟩ <;> exact a
    rw [x_loop_s]
    simp only [f_X7_isWhole_7, f_X7_isWhole_53, f_X7_isWhole_49, f_X7_isWhole_54, g4, x_gt g3, x_l_e, h1, e60, if_neg (nI_ge (show 60 * r + i < 60 * r + L by omega) (by omega)), nI_1, e_leads n S (60 * r + i) (by omega), x_b2_s, c4, x_gt c3]
    obtain ⟨v0, hv0, he0⟩ := ih (i + 1) k 0 (by omega) (by omega) (by omega) (Or.inl rfl)
    obtain ⟨v1, hv1, he1⟩ := ih (i + 1) k 1 (by omega) (by omega) (by omega) (Or.inr rfl)
    have hz := key0 v0 hv0
    subst hz
    by_cases hx0 : x = 0
    · subst hx0
      rw [if_pos rfl]
      by_cases e : g_ar S 705 (60 * r + i) ≤ nI L
      · exact ⟨0, key 0 hv0 e, he0⟩
      · exact ⟨0, Or.inr ⟨rfl, i, Nat.le_refl _, hlt, e⟩, he0⟩
    · have hx1 : x = 1 := hx.resolve_left hx0
      subst hx1
      rw [if_neg i_10]
      by_cases hk23 : g_ar S 702 (60 * r + i) = 2 ∨ g_ar S 702 (60 * r + i) = 3
      · rw [if_pos hk23, if_neg i_10]
        by_cases e : nI L < g_ar S 705 (60 * r + i)
        · rw [if_pos e]
          exact ⟨0, Or.inr ⟨rfl, i, Nat.le_refl _, hlt, fun q => absurd q (Int32.not_le.mpr e)⟩, he0⟩
        · rw [if_neg e]
          exact ⟨v1, key v1 hv1 (Int32.not_lt.mp e), he1⟩
      · rw [if_neg hk23, if_pos rfl]
        have ez : g_ar S 705 (60 * r + i) ≤ nI L := by
          rw [ok_c0 (h2 i hlt) hk23]
          exact nI_pos' (by omega)
        exact ⟨v1, key v1 hv1 ez, he1⟩
theorem e_whole (n : Nat) (hn : 1000 ≤ n) {L r : Nat} {S : x_S} (hr : r < 12) (h : am_ok L r S) : (iv_whole L r S ∧ f_X7_isWhole n S (nI r) = some (1, S)) ∨ (¬ iv_whole L r S ∧ f_X7_isWhole n S (nI r) = some (0, S)) := by
  obtain ⟨v, hv, he⟩ := e_wholeL n hr h L 0 n 1 (Nat.zero_le _) rfl (by have := h.1; omega) (Or.inr rfl)
  have e60 : (60 : Int32) * nI r = nI (60 * r + 0) := by
    show nI 60 * nI r = _
    rw [pk_mul]; rfl
  have hf : f_X7_isWhole n S (nI r) = some (v, S) := by
    unfold f_X7_isWhole
    rw [e60]
    exact he
  rcases hv with ⟨a, b⟩ | ⟨a, l, b, c, d⟩
  · exact Or.inl ⟨fun i hi => b i (Nat.zero_le _) hi, by rw [hf, a]⟩
  · exact Or.inr ⟨fun q => d (q l c), by rw [hf, a]⟩
/-- the same in both -/
theorem e_wh2 (n : Nat) (hn : 1000 ≤ n) {L r : Nat} {Sc Sm : x_S} (hr : r < 12) (h : iv_one L r Sc Sm) : (iv_whole L r Sm ∧ g_ps Sc 5 (r + 1) = 1 ∧ f_X7_isWhole n Sm (nI r) = some (1, Sm)) ∨ (¬ iv_whole L r Sm ∧ g_ps Sc 5 (r + 1) = 0 ∧ f_X7_isWhole n Sm (nI r) = some (0, Sm)) := by
  rcases e_whole n hn hr (am_of h) with ⟨a, b⟩ | ⟨a, b⟩
  · rcases h.2.2.2.2 with ⟨c, d⟩ | ⟨c, d⟩
    · exact Or.inl ⟨a, c, b⟩
    · exact absurd a d
  · rcases h.2.2.2.2 with ⟨c, d⟩ | ⟨c, d⟩
    · exact absurd d a
    · exact Or.inr ⟨a, c, b⟩
