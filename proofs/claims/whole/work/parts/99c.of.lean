/-! of: its loops -/
section
variable {m M : Nat} {S : x_S} {ow hi dp : Nat → Nat} {t0 t3 : Nat → Int32}
/-- JUMPS -/
theorem of_loop4 (hM : M ≤ 60) (h715 : g_sc S 715 = nI M) (h0 : ∀ x, x < M → g_ar S 716 x = t0 x) : ∀ (d x q : Nat), x ≤ M → M - x = d → d < q → x_loop (fun rec z => f_X7_of_110 m rec z.1 z.2.1 z.2.2) q (S, nI (r_J t0 x), nI x) = some (nI (r_J t0 M), S) := by
  intro d
  induction d with
  | zero =>
    intro x q hx hd hq
    obtain ⟨q, rfl⟩ : ∃ z, q = z + 1 := ⟨q - 1, by omega⟩
    rw [x_loop_s]
    generalize x_loop (fun rec z => f_X7_of_110 m rec z.1 z.2.1 z.2.2) q = R
    show f_X7_of_110 m R S (nI (r_J t0 x)) (nI x) = _
    unfold f_X7_of_110
    rw [x_l_e, h715, if_pos (nI_le (by omega) (by omega)), show x = M by omega]
  | succ d ih =>
    intro x q hx hd hq
    obtain ⟨q, rfl⟩ : ∃ z, q = z + 1 := ⟨q - 1, by omega⟩
    rw [x_loop_s]
    have ih' := ih (x + 1) q (by omega) (by omega) (by omega)
    generalize x_loop (fun rec z => f_X7_of_110 m rec z.1 z.2.1 z.2.2) q = R at ih'
    show f_X7_of_110 m R S (nI (r_J t0 x)) (nI x) = _
    have x2 : x < 2 ^ 31 := by omega
    have cx := k_in (i := x) (L := 200) (by omega) (by decide)
    have e : r_J t0 (x + 1) = r_J t0 x + (if t0 x = 8 ∨ t0 x = 11 then 1 else 0) := rfl
    rw [e] at ih'
    unfold f_X7_of_110 f_X7_of_144 f_X7_of_149
    rw [x_l_e, h715, if_neg (nI_ge (by omega) (by omega)), x_gt cx, nI_clamp x2, x_l_e, x_gt (k_in2 (show x < 200 by omega) x2), x_l_e, h0 x (by omega), nI_1, nI_1, Int32.add_zero]
    by_cases e8 : t0 x = 8
    · rw [if_pos (Or.inl e8)] at ih'
      rw [if_pos e8, ih']
    · rw [if_neg e8]
      by_cases e11 : t0 x = 11
      · rw [if_pos (Or.inr e11)] at ih'
        rw [if_pos e11, ih']
      · rw [if_neg (fun z => z.elim e8 e11)] at ih'
        rw [if_neg e11]
        exact ih'
/-- how deep -/
theorem dp_loop {D : Nat} {So : Nat → Int32} (hM : M ≤ 60) (h3 : ∀ x, x < M → g_ar S 719 x = t3 x) (hD : r_D M 0 ow dp t3 So D) : ∀ (x q c : Nat), x < M → x < q → x_loop (fun rec z => f_X7_depthOf_9 m rec z.1 z.2.1 z.2.2) q (S, nI c, t3 x) = some (nI (c + (dp x - 1)), S) ∧ 1 ≤ dp x := by
  intro x
  induction x using Nat.strongRecOn with
  | _ x ih =>
    intro q c hx hq
    obtain ⟨q, rfl⟩ : ∃ z, q = z + 1 := ⟨q - 1, by omega⟩
    rw [x_loop_s]
    rcases hD.1 x hx with ⟨e, e2⟩ | ⟨p, p1, e, e2⟩
    · generalize x_loop (fun rec z => f_X7_depthOf_9 m rec z.1 z.2.1 z.2.2) q = R
      refine ⟨?_, by omega⟩
      show f_X7_depthOf_9 m R S (nI c) (t3 x) = _
      unfold f_X7_depthOf_9
      rw [e, if_pos rfl, e2]
      rfl
    · have ih' := ih p p1 q (c + 1) (by omega) (by omega)
      generalize x_loop (fun rec z => f_X7_depthOf_9 m rec z.1 z.2.1 z.2.2) q = R at ih'
      refine ⟨?_, by omega⟩
      show f_X7_depthOf_9 m R S (nI c) (t3 x) = _
      have cp := k_in (i := p) (L := 200) (by omega) (by decide)
      unfold f_X7_depthOf_9
      rw [e, if_neg (nI_m1 (by omega)), x_gt cp, nI_clamp (by omega), x_l_e, h3 p (by omega), nI_1, ih'.1]
      have := ih'.2
      congr 3
      omega
theorem e_depth {D x : Nat} {So : Nat → Int32} (hm : 1000 ≤ m) (hM : M ≤ 60) (h3 : ∀ x, x < M → g_ar S 719 x = t3 x) (hD : r_D M 0 ow dp t3 So D) (hx : x < M) : f_X7_depthOf m S (nI x) = some (nI (dp x), S) := by
  have cx := k_in (i := x) (L := 200) (by omega) (by decide)
  have lp := dp_loop (m := m) hM h3 hD x m 1 hx (by omega)
  unfold f_X7_depthOf
  rw [x_gt cx, nI_clamp (by omega), x_l_e, h3 x hx]
  have e := lp.1
  rw [show 1 + (dp x - 1) = dp x by have := lp.2; omega] at e
  exact e
theorem of_loop6 {D : Nat} (hm : 1000 ≤ m) (hM : M ≤ 60) (h715 : g_sc S 715 = nI M) (h0 : ∀ x, x < M → g_ar S 716 x = t0 x) (h3 : ∀ x, x < M → g_ar S 719 x = t3 x) (hD : r_D M 0 ow dp t3 t0 D) : ∀ (d x c q : Nat), x ≤ M → M - x = d → d < q → c ≤ 100 → ∃ w, x_loop (fun rec z => f_X7_of_220 m rec z.1 z.2.1 z.2.2) q (S, nI c, nI x) = some (nI w, S) ∧ c ≤ w ∧ (∀ s, x ≤ s → s < M → dp s ≤ w ∧ (r_cmp (t0 s) → dp s + 1 ≤ w)) ∧ (w = c ∨ ∃ s, s < M ∧ (w = dp s ∨ (w = dp s + 1 ∧ r_cmp (t0 s)))) := by
  intro d
  induction d with
  | zero =>
    intro x c q hx hd hq hc
    obtain ⟨q, rfl⟩ : ∃ z, q = z + 1 := ⟨q - 1, by omega⟩
    rw [x_loop_s]
    generalize x_loop (fun rec z => f_X7_of_220 m rec z.1 z.2.1 z.2.2) q = R
    refine ⟨c, ?_, Nat.le_refl _, fun s h1 h2 => by omega, Or.inl rfl⟩
    show f_X7_of_220 m R S (nI c) (nI x) = _
    unfold f_X7_of_220
    rw [x_l_e, h715, if_pos (nI_le (by omega) (by omega))]
  | succ d ih =>
    intro x c q hx hd hq hc
    obtain ⟨q, rfl⟩ : ∃ z, q = z + 1 := ⟨q - 1, by omega⟩
    rw [x_loop_s]
    have ih' := fun c hc => ih (x + 1) c q (by omega) (by omega) (by omega) hc
    generalize x_loop (fun rec z => f_X7_of_220 m rec z.1 z.2.1 z.2.2) q = R at ih'
    show ∃ w, f_X7_of_220 m R S (nI c) (nI x) = some (nI w, S) ∧ _
    have x2 : x < 2 ^ 31 := by omega
    have cx := k_in (i := x) (L := 200) (by omega) (by decide)
    have dl := r_D_le hD x (by omega)
    have e255 : ∀ k, k ≤ 1 → f_X7_of_255 m R S (nI c) (nI x) (nI k) (nI (dp x)) = if dp x + k ≤ c then R (S, nI c, nI (x + 1)) else R (S, nI (dp x + k), nI (x + 1)) := by
      intro k hk
      unfold f_X7_of_255 f_X7_of_270
      rw [nI_add, nI_1]
      by_cases e : dp x + k ≤ c
      · rw [if_pos e, if_pos (nI_le e (by omega))]
      · rw [if_neg e, if_neg (nI_ge (by omega) (by omega))]
    unfold f_X7_of_220
    rw [x_l_e, h715, if_neg (nI_ge (by omega) (by omega)), e_depth hm hM h3 hD (by omega), x_b2_s, x_gt cx, nI_clamp x2, x_l_e, h0 x (by omega), e_in, x_b_s]
    by_cases e : (1 : Int32) ≤ t0 x ∧ t0 x ≤ 5
    · rw [if_pos e, if_neg i_1n]
      have := e255 1 (Nat.le_refl _)
      rw [show nI 1 = (1 : Int32) from rfl] at this
      rw [this]
      by_cases e2 : dp x + 1 ≤ c
      · rw [if_pos e2]
        obtain ⟨w, w1, w2, w3, w4⟩ := ih' c hc
        refine ⟨w, w1, w2, fun s h1 h2 => ?_, w4⟩
        by_cases es : s = x
        · rw [es]; exact ⟨by omega, fun _ => by omega⟩
        · exact w3 s (by omega) h2
      · rw [if_neg e2]
        obtain ⟨w, w1, w2, w3, w4⟩ := ih' (dp x + 1) (by omega)
        refine ⟨w, w1, by omega, fun s h1 h2 => ?_, ?_⟩
        · by_cases es : s = x
          · rw [es]; exact ⟨by omega, fun _ => by omega⟩
          · exact w3 s (by omega) h2
        · rcases w4 with w4 | w4
          · exact Or.inr ⟨x, by omega, Or.inr ⟨w4, e⟩⟩
          · exact Or.inr w4
    · rw [if_neg e, if_pos rfl]
      have := e255 0 (Nat.zero_le _)
      rw [show nI 0 = (0 : Int32) from rfl] at this
      rw [this]
      by_cases e2 : dp x + 0 ≤ c
      · rw [if_pos e2]
        obtain ⟨w, w1, w2, w3, w4⟩ := ih' c hc
        refine ⟨w, w1, w2, fun s h1 h2 => ?_, w4⟩
        by_cases es : s = x
        · rw [es]; exact ⟨by omega, fun z => absurd z e⟩
        · exact w3 s (by omega) h2
      · rw [if_neg e2]
        obtain ⟨w, w1, w2, w3, w4⟩ := ih' (dp x + 0) (by omega)
        refine ⟨w, w1, by omega, fun s h1 h2 => ?_, ?_⟩
        · by_cases es : s = x
          · rw [es]; exact ⟨by omega, fun z => absurd z e⟩
          · exact w3 s (by omega) h2
        · rcases w4 with w4 | w4
          · exact Or.inr ⟨x, by omega, Or.inl w4⟩
          · exact Or.inr w4
end
/-- the least that is LIKE it -/
theorem of_loop2 (n : Nat) (hn : 1000 ≤ n) {N r : Nat} {Sc Sm : x_S} (h : iv_rt N Sc Sm) (hr : r < N) : ∀ (d x q : Nat), x ≤ r → r - x = d → d < q → ∃ v, x_loop (fun rec z => f_X6_leastAlike_2 n rec z.1 z.2.1 z.2.2.1 z.2.2.2) q (Sc, nI r, r + 1, nI x) = some (v, Sc) ∧ x_loop (fun rec z => f_X7_of_58 n rec z.1 z.2.1 z.2.2) q (Sm, nI r, nI x) = some (v, Sm) := by
  have hN := h.1
  have hnp := h.2.2.2.1
  intro d
  induction d with
  | zero =>
    intro x q hx hd hq
    obtain ⟨q, rfl⟩ : ∃ z, q = z + 1 := ⟨q - 1, by omega⟩
    have e : x = r := by omega
    subst e
    obtain ⟨v, v1, v2, v3, v4⟩ := e_like n hn h hr hr
    rw [x_loop_s, x_loop_s]
    generalize x_loop (fun rec z => f_X6_leastAlike_2 n rec z.1 z.2.1 z.2.2.1 z.2.2.2) q = R
    generalize x_loop (fun rec z => f_X7_of_58 n rec z.1 z.2.1 z.2.2) q = R2
    refine ⟨nI x, ?_, ?_⟩
    · show f_X6_leastAlike_2 n R Sc (nI x) (x + 1) (nI x) = _
      unfold f_X6_leastAlike_2
      rw [if_pos (Int32.le_refl _)]
    · show f_X7_of_58 n R2 Sm (nI x) (nI x) = _
      unfold f_X7_of_58
      rw [v3, x_b2_s, v4 rfl, if_neg i_1n]
  | succ d ih =>
    intro x q hx hd hq
    obtain ⟨q, rfl⟩ : ∃ z, q = z + 1 := ⟨q - 1, by omega⟩
    obtain ⟨v, v1, v2, v3, -⟩ := e_like n hn h (show x < N by omega) hr
    rw [x_loop_s, x_loop_s]
    have ih' := ih (x + 1) q (by omega) (by omega) (by omega)
    generalize x_loop (fun rec z => f_X6_leastAlike_2 n rec z.1 z.2.1 z.2.2.1 z.2.2.2) q = R at ih'
    generalize x_loop (fun rec z => f_X7_of_58 n rec z.1 z.2.1 z.2.2) q = R2 at ih'
    show ∃ v, f_X6_leastAlike_2 n R Sc (nI r) (r + 1) (nI x) = some (v, Sc) ∧ f_X7_of_58 n R2 Sm (nI r) (nI x) = some (v, Sm)
    unfold f_X6_leastAlike_2 f_X6_leastAlike_30 f_X7_of_58
    rw [if_neg (nI_ge (by omega) (by omega)), e_find n h (show x < N by omega), x_b2_s, x_o_s, x_gt (by omega), v2, x_b2_s, v3, x_b2_s, nI_1]
    rcases v1 with rfl | rfl
    · rw [if_pos rfl, if_pos rfl]
      exact ih'
    · rw [if_neg i_1n, if_neg i_1n]
      exact ⟨_, rfl, rfl⟩
/-- not COME TO -/
theorem of_loop5 (n : Nat) {r L : Nat} {S : x_S} (hr : r < 12) (hL : L ≤ 60) (h701 : g_ar S 701 r = nI L) (hv : ∀ j, j < L → g_ar S 733 j = 1 ∨ g_ar S 733 j = 0) : ∀ (d x q : Nat), x ≤ L → L - x = d → d < q → x_loop (fun rec z => f_X7_of_172 n rec z.1 z.2.1 z.2.2.1 z.2.2.2) q (S, nI r, nI (x - cm_cnt (fun i => g_ar S 733 i) x), nI x) = some (nI (L - cm_cnt (fun i => g_ar S 733 i) L), S) := by
  have cr := k_in (i := r) (L := 12) hr (by decide)
  have r2 : r < 2 ^ 31 := by omega
  intro d
  induction d with
  | zero =>
    intro x q hx hd hq
    obtain ⟨q, rfl⟩ : ∃ z, q = z + 1 := ⟨q - 1, by omega⟩
    rw [x_loop_s]
    generalize x_loop (fun rec z => f_X7_of_172 n rec z.1 z.2.1 z.2.2.1 z.2.2.2) q = R
    have e : x = L := by omega
    subst e
    show f_X7_of_172 n R S (nI r) (nI (x - cm_cnt (fun i => g_ar S 733 i) x)) (nI x) = _
    unfold f_X7_of_172
    rw [x_gt cr, nI_clamp r2, x_l_e, h701, if_pos (Int32.le_refl _)]
  | succ d ih =>
    intro x q hx hd hq
    obtain ⟨q, rfl⟩ : ∃ z, q = z + 1 := ⟨q - 1, by omega⟩
    rw [x_loop_s]
    have ih' := ih (x + 1) q (by omega) (by omega) (by omega)
    generalize x_loop (fun rec z => f_X7_of_172 n rec z.1 z.2.1 z.2.2.1 z.2.2.2) q = R at ih'
    show f_X7_of_172 n R S (nI r) (nI (x - cm_cnt (fun i => g_ar S 733 i) x)) (nI x) = _
    have x2 : x < 2 ^ 31 := by omega
    have cx := k_in (i := x) (L := 61) (by omega) (by decide)
    have le := cm_cnt_le (fun i => g_ar S 733 i) x
    have e : cm_cnt (fun i => g_ar S 733 i) (x + 1) = cm_cnt (fun i => g_ar S 733 i) x + (if g_ar S 733 x = 1 then 1 else 0) := rfl
    rw [e] at ih'
    unfold f_X7_of_172 f_X7_of_199
    rw [x_gt cr, nI_clamp r2, x_l_e, h701, if_neg (nI_ge (by omega) (by omega)), x_gt cx, nI_clamp x2, x_l_e, nI_1, nI_1, Int32.add_zero]
    rcases hv x (by omega) with z | z
    · rw [z, if_pos rfl, show x + 1 - (cm_cnt (fun i => g_ar S 733 i) x + 1) = x - cm_cnt (fun i => g_ar S 733 i) x by omega] at ih'
      rw [z, if_neg i_1n]
      exact ih'
    · rw [z, if_neg (by decide), show x + 1 - (cm_cnt (fun i => g_ar S 733 i) x + 0) = x - cm_cnt (fun i => g_ar S 733 i) x + 1 by omega] at ih'
      rw [z, if_pos rfl]
      exact ih'
