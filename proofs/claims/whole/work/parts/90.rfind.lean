/-! READING: the last jump to a PLACE; whether its loop is being read -/
def r_A (S0 S1 : x_S) (ri r L : Nat) : Prop := r < 12 ∧ L ≤ 60 ∧ ∀ i, i < L → g_pa S0 0 ri i = g_ar S1 702 (60 * r + i) ∧ g_pa S0 1 ri i = g_ar S1 703 (60 * r + i) ∧ g_pa S0 2 ri i = g_ar S1 704 (60 * r + i) ∧ g_pa S0 3 ri i = g_ar S1 705 (60 * r + i) ∧ ((g_ar S1 702 (60 * r + i) = 2 ∨ g_ar S1 702 (60 * r + i) = 3) → ∃ t, t ≤ L ∧ g_ar S1 705 (60 * r + i) = nI t)
def r_lj (S1 : x_S) (r k : Nat) : Nat → Int32
  | 0 => -1
  | j + 1 => if (g_ar S1 702 (60 * r + (k + j)) = 2 ∨ g_ar S1 702 (60 * r + (k + j)) = 3) ∧ g_ar S1 705 (60 * r + (k + j)) = nI k then nI (k + j) else r_lj S1 r k j
theorem r_lj_cases (S1 : x_S) (r k : Nat) : ∀ j, r_lj S1 r k j = -1 ∨ ∃ m, k ≤ m ∧ m < k + j ∧ r_lj S1 r k j = nI m ∧ (g_ar S1 702 (60 * r + m) = 2 ∨ g_ar S1 702 (60 * r + m) = 3) ∧ g_ar S1 705 (60 * r + m) = nI k
  | 0 => Or.inl rfl
  | j + 1 => by
    unfold r_lj
    split
    · rename_i q
      exact Or.inr ⟨k + j, by omega, by omega, rfl, q.1, q.2⟩
    · rcases r_lj_cases S1 r k j with q | ⟨m, m1, m2, m3⟩
      · exact Or.inl q
      · exact Or.inr ⟨m, m1, by omega, m3⟩
theorem i_addm (x : Int32) : x + (-1) = x - 1 := (Int32.sub_eq_add_neg x 1).symm
section
variable {S0 S1 : x_S} {ri r L m : Nat}
theorem k_lj {S : x_S} (hA : r_A S0 S1 ri r L) (hf : fk S0 S) (hri : ri < g_np S) {k : Nat} (hk : k ≤ 60) : ∀ (j q : Nat), j < q → k + j ≤ L → x_loop (fun rec z => f_X2_lastJumpTo_4 m rec z.1 z.2.1 z.2.2.1 z.2.2.2) q (S, ri, nI k, nI (k + j) - 1) = some (r_lj S1 r k j, S) := by
  intro j
  induction j with
  | zero =>
    intro q hq hj
    obtain ⟨q, rfl⟩ : ∃ z, q = z + 1 := ⟨q - 1, by omega⟩
    rw [x_loop_s]
    generalize x_loop (fun rec z => f_X2_lastJumpTo_4 m rec z.1 z.2.1 z.2.2.1 z.2.2.2) q = R
    show f_X2_lastJumpTo_4 m R S ri (nI k) (nI (k + 0) - 1) = _
    unfold f_X2_lastJumpTo_4
    have c : nI (k + 0) - 1 < nI k := by
      rw [Int32.lt_iff_toInt_lt, nI_toInt (by omega)]
      have := pk_sub_toInt (a := k) (b := 1) (by omega) (by decide)
      have e : (nI (k + 0) - 1).toInt = (k : Int) - 1 := this
      rw [e]; omega
    rw [if_pos c]
    rfl
  | succ j ih =>
    intro q hq hj
    obtain ⟨q, rfl⟩ : ∃ z, q = z + 1 := ⟨q - 1, by omega⟩
    rw [x_loop_s]
    have ih' := ih q (by omega) (by omega)
    generalize x_loop (fun rec z => f_X2_lastJumpTo_4 m rec z.1 z.2.1 z.2.2.1 z.2.2.2) q = R at ih'
    show f_X2_lastJumpTo_4 m R S ri (nI k) (nI (k + (j + 1)) - 1) = _
    obtain ⟨-, hL, hA⟩ := hA
    obtain ⟨a1, -, -, a4, -⟩ := hA (k + j) (by omega)
    have kj : k + j < 2 ^ 31 := by omega
    have c1 : ¬ nI (k + j) < nI k := nI_nlt (by omega) kj
    have c3 := k_in (i := k + j) (L := 60) (by omega) (by decide)
    have p1 : g_pa S 0 ri (k + j) = g_ar S1 702 (60 * r + (k + j)) := (hf.2.2.2.2.1 0 ri (k + j)).trans a1
    have p4 : g_pa S 3 ri (k + j) = g_ar S1 705 (60 * r + (k + j)) := (hf.2.2.2.2.1 3 ri (k + j)).trans a4
    unfold f_X2_lastJumpTo_4 f_X2_lastJumpTo_33 r_lj
    rw [show k + (j + 1) = k + j + 1 by omega, nI_pred, if_neg c1, x_gt hri, x_gt hri, x_gt c3, nI_clamp kj, x_l_e, p1, e_isJump, x_b_s, i_addm]
    by_cases q1 : g_ar S1 702 (60 * r + (k + j)) = 2 ∨ g_ar S1 702 (60 * r + (k + j)) = 3
    · rw [if_pos q1, if_neg i_1n, x_gt hri, x_gt hri, x_gt (k_in2 (show k + j < 60 by omega) kj), x_l_e, p4]
      by_cases q2 : g_ar S1 705 (60 * r + (k + j)) = nI k
      · rw [if_pos q2, if_pos ⟨q1, q2⟩]
      · rw [if_neg q2, if_neg (fun z => q2 z.2)]
        exact ih'
    · rw [if_neg q1, if_pos rfl, if_neg (fun z => q1 z.1)]
      exact ih'
theorem k_last {S : x_S} (hA : r_A S0 S1 ri r L) (hf : fk S0 S) (hri : ri < g_np S) {k e : Nat} (hk : k ≤ e) (he : e ≤ L) (hm : 1000 ≤ m) : f_X2_lastJumpTo m S ri (nI k) (nI e) = some (r_lj S1 r k (e - k), S) := by
  have := hA.2.1
  unfold f_X2_lastJumpTo
  have := k_lj (m := m) hA hf hri (show k ≤ 60 by omega) (e - k) m (by omega) (by omega)
  rw [show k + (e - k) = e by omega] at this
  exact this
theorem j_lj {S : x_S} (hr : r < 12) (hf : fr_m S1 S) {k e : Nat} {top : Int32} (he : e ≤ 60) : ∀ (c j q : Nat), c < q → k + j + c = e → x_loop (fun rec z => f_X7_readAt_21 m rec z.1 z.2.1 z.2.2.1 z.2.2.2.1 z.2.2.2.2.1 z.2.2.2.2.2.1 z.2.2.2.2.2.2) q (S, nI (60 * r), nI k, top, nI e, r_lj S1 r k j, nI (k + j)) = if r_lj S1 r k (e - k) = -1 then f_X7_readAt_90 m S (nI (60 * r)) (nI k) top (nI e) else x_b2 (f_X7_isBeingRead m S (nI k)) (fun v S => if v = 0 then x_b (f_X7_readLoop m S (nI (60 * r)) (nI k) (r_lj S1 r k (e - k))) (fun S => some S) else f_X7_readAt_90 m S (nI (60 * r)) (nI k) top (nI e)) := by
  intro c
  induction c with
  | zero =>
    intro j q hq hj
    obtain ⟨q, rfl⟩ : ∃ z, q = z + 1 := ⟨q - 1, by omega⟩
    rw [x_loop_s]
    generalize x_loop (fun rec z => f_X7_readAt_21 m rec z.1 z.2.1 z.2.2.1 z.2.2.2.1 z.2.2.2.2.1 z.2.2.2.2.2.1 z.2.2.2.2.2.2) q = R
    show f_X7_readAt_21 m R S (nI (60 * r)) (nI k) top (nI e) (r_lj S1 r k j) (nI (k + j)) = _
    unfold f_X7_readAt_21
    rw [if_pos (nI_le (by omega) (by omega)), show e - k = j by omega]
  | succ c ih =>
    intro j q hq hj
    obtain ⟨q, rfl⟩ : ∃ z, q = z + 1 := ⟨q - 1, by omega⟩
    rw [x_loop_s]
    have ih' := ih (j + 1) q (by omega) (by omega)
    generalize x_loop (fun rec z => f_X7_readAt_21 m rec z.1 z.2.1 z.2.2.1 z.2.2.2.1 z.2.2.2.2.1 z.2.2.2.2.2.1 z.2.2.2.2.2.2) q = R at ih'
    show f_X7_readAt_21 m R S (nI (60 * r)) (nI k) top (nI e) (r_lj S1 r k j) (nI (k + j)) = _
    have kj : 60 * r + (k + j) < 2 ^ 31 := by omega
    have c3 := k_in (i := 60 * r + (k + j)) (L := 720) (by omega) (by omega)
    have p1 : g_ar S 702 (60 * r + (k + j)) = g_ar S1 702 (60 * r + (k + j)) := hf.2 702 _ (by decide)
    have p4 : g_ar S 705 (60 * r + (k + j)) = g_ar S1 705 (60 * r + (k + j)) := hf.2 705 _ (by decide)
    rw [← ih']
    unfold f_X7_readAt_21 f_X7_readAt_57 f_X7_readAt_59
    rw [if_neg (nI_ge (by omega) (by omega)), nI_add, e_leads m S _ (by omega), x_b2_s, p1, nI_1, show k + j + 1 = k + (j + 1) by omega]
    unfold r_lj
    by_cases q1 : g_ar S1 702 (60 * r + (k + j)) = 2 ∨ g_ar S1 702 (60 * r + (k + j)) = 3
    · rw [if_pos q1, if_neg i_1n, x_gt c3, nI_clamp kj, x_l_e, p4]
      by_cases q2 : g_ar S1 705 (60 * r + (k + j)) = nI k
      · rw [if_pos q2, if_pos ⟨q1, q2⟩]
      · rw [if_neg q2, if_neg (fun z => q2 z.2)]
        cases j <;> rfl
    · rw [if_neg q1, if_pos rfl, if_neg (fun z => q1 z.1)]
      cases j <;> rfl
theorem j_readAt {S : x_S} (hr : r < 12) (hf : fr_m S1 S) {k e p : Nat} (hk : k ≤ e) (he : e ≤ 60) (hm : 1000 ≤ m) (hp : g_sc S 724 = nI (p + 1)) (hp2 : p < 200) (hJ : g_ar S 726 p = nI e) : f_X7_readAt m S (nI (60 * r)) (nI k) = if r_lj S1 r k (e - k) = -1 then f_X7_readAt_90 m S (nI (60 * r)) (nI k) (nI p) (nI e) else x_b2 (f_X7_isBeingRead m S (nI k)) (fun v S => if v = 0 then x_b (f_X7_readLoop m S (nI (60 * r)) (nI k) (r_lj S1 r k (e - k))) (fun S => some S) else f_X7_readAt_90 m S (nI (60 * r)) (nI k) (nI p) (nI e)) := by
  have p2 : p < 2 ^ 31 := by omega
  have cp := k_in (i := p) (L := 200) hp2 (by decide)
  unfold f_X7_readAt
  rw [x_l_e, hp, nI_pred, x_gt cp, nI_clamp p2, x_l_e, hJ]
  exact j_lj hr hf he (e - k) 0 m (by omega) (by omega)
end
section
variable {S0 S1 : x_S} {ri L n d wc D m : Nat} {kk en ow fm hi dp : Nat → Nat} {T : List tx_T} {Sc Sm : x_S}
/-- whether the loop that begins here is being read: the innermost alone can be so -/
def r_lb (d : Nat) (kk ow fm : Nat → Nat) (So : Nat → Int32) : Prop := 0 < d - 1 ∧ (So (ow (d - 1)) = 3 ∨ So (ow (d - 1)) = 5) ∧ fm (d - 1) = kk (d - 1)
theorem k_begun (h : r_X S0 S1 ri L n d wc kk en ow fm hi dp D T Sc Sm) (hd : 0 < d) : (r_lb d kk ow fm (fun i => g_ar Sc 400 i) ∧ f_X1_isLoopBegun m Sc (nI (kk (d - 1))) = some (1, Sc)) ∨ (¬ r_lb d kk ow fm (fun i => g_ar Sc 400 i) ∧ f_X1_isLoopBegun m Sc (nI (kk (d - 1))) = some (0, Sc)) := by
  obtain ⟨x1, x2, x3, x4, x5, x6, x7, x8, x9, x10, x11, x12, ⟨y1, y2, y3, y4, y5⟩⟩ := h
  have d2 : d - 1 < 2 ^ 31 := by omega
  have cd := k_in (i := d - 1) (L := 61) (by omega) (by decide)
  have hkL : kk (d - 1) ≤ L := by have := x5.e0 (show d - 1 < d by omega); have := x5.1 (d - 1) (by omega); have := y1 hd; omega
  unfold f_X1_isLoopBegun r_lb
  rw [x_l_e, x1.2.2.2.1, show nI d = nI (d - 1 + 1) by rw [show d - 1 + 1 = d by omega], nI_pred, x_gt cd, nI_clamp d2, x_l_e]
  by_cases e : d = 1
  · have z : g_ar Sc 106 (d - 1) = -1 := by subst e; exact (x6.1 hd).1
    right
    rw [z, if_pos rfl, z_g0]
    exact ⟨fun q => by omega, rfl⟩
  · obtain ⟨q1, q2, q3, q4, q5, q6, q7, q8, q9, q10⟩ := x6.2 (d - 1) (by omega) (by omega)
    have z : g_ar Sc 106 (d - 1) = nI (ow (d - 1)) := q2
    have z7 : g_ar Sc 401 (ow (d - 1)) = nI (fm (d - 1)) := q7
    have o2 : ow (d - 1) < 2 ^ 31 := by omega
    have co := k_in (i := ow (d - 1)) (L := 60) (by omega) (by decide)
    rw [z, if_neg (nI_m1 o2), x_gt co, nI_clamp o2, x_l_e, z7]
    by_cases e1 : fm (d - 1) = kk (d - 1)
    · rw [if_pos (by rw [e1]), x_gt (k_in2 (show ow (d - 1) < 60 by omega) o2), x_l_e]
      by_cases e3 : g_ar Sc 400 (ow (d - 1)) = 3
      · rw [if_pos e3, z_g1]
        exact Or.inl ⟨⟨by omega, Or.inl e3, e1⟩, rfl⟩
      · rw [if_neg e3, x_gt (k_in2 (show ow (d - 1) < 60 by omega) o2), x_l_e]
        by_cases e5 : g_ar Sc 400 (ow (d - 1)) = 5
        · rw [if_pos e5, z_g1]
          exact Or.inl ⟨⟨by omega, Or.inr e5, e1⟩, rfl⟩
        · rw [if_neg e5, z_g0]
          exact Or.inr ⟨fun q => q.2.1.elim e3 e5, rfl⟩
    · rw [if_neg (fun q => e1 ((nI_eq (by omega) (by omega)).mp q)), z_g0]
      exact Or.inr ⟨fun q => e1 q.2.2, rfl⟩
theorem j_chain (h : r_X S0 S1 ri L n d wc kk en ow fm hi dp D T Sc Sm) (hd : 0 < d) {b : Int32} (hb : b = 0 ∨ b = 1) : ∀ (c q : Nat), c < q → c < d - 1 → x_loop (fun rec z => f_X7_isBeingRead_14 m rec z.1 z.2.1 z.2.2.1 z.2.2.2) q (Sm, nI (kk (d - 1)), b, g_ar Sc 106 c) = some (b, Sm) := by
  obtain ⟨x1, x2, x3, x4, x5, x6, x7, x8, x9, x10, x11, x12, ⟨y1, y2, y3, y4, y5⟩⟩ := h
  have hkL : kk (d - 1) ≤ L := by have := x5.e0 (show d - 1 < d by omega); have := x5.1 (d - 1) (by omega); have := y1 hd; omega
  intro c
  induction c with
  | zero =>
    intro q hq hc
    obtain ⟨q, rfl⟩ : ∃ z, q = z + 1 := ⟨q - 1, by omega⟩
    rw [x_loop_s]
    generalize x_loop (fun rec z => f_X7_isBeingRead_14 m rec z.1 z.2.1 z.2.2.1 z.2.2.2) q = R
    show f_X7_isBeingRead_14 m R Sm (nI (kk (d - 1))) b (g_ar Sc 106 0) = _
    unfold f_X7_isBeingRead_14
    rw [show g_ar Sc 106 0 = -1 from (x6.1 hd).1, if_pos rfl, x_gt hb]
  | succ c ih =>
    intro q hq hc
    obtain ⟨q, rfl⟩ : ∃ z, q = z + 1 := ⟨q - 1, by omega⟩
    rw [x_loop_s]
    have ih' := ih q (by omega) (by omega)
    generalize x_loop (fun rec z => f_X7_isBeingRead_14 m rec z.1 z.2.1 z.2.2.1 z.2.2.2) q = R at ih'
    show f_X7_isBeingRead_14 m R Sm (nI (kk (d - 1))) b (g_ar Sc 106 (c + 1)) = _
    obtain ⟨q1, q2, q3, q4, q5, q6, q7, q8, q9, q10⟩ := x6.2 (c + 1) (by omega) (by omega)
    have hlt := q10 (d - 1) (by omega) (by omega)
    have z : g_ar Sc 106 (c + 1) = nI (ow (c + 1)) := q2
    have o2 : ow (c + 1) < 2 ^ 31 := by omega
    have co := k_in (i := ow (c + 1)) (L := 200) (by omega) (by decide)
    have co2 := k_in2 (show ow (c + 1) < 200 by omega) o2
    obtain ⟨m0, m1, m2, m3, m4⟩ := x3 (ow (c + 1)) q1
    have m1' : g_ar Sm 717 (ow (c + 1)) = nI (fm (c + 1)) := m1.trans q7
    have ne : ¬ nI (fm (c + 1)) = nI (kk (d - 1)) := fun w => by rw [nI_eq (by omega) (by omega)] at w; omega
    have pa : g_ar Sm 719 (ow (c + 1)) = g_ar Sc 106 c := by
      rw [m3]
      have := (x7.1 (c + 1) (by omega) (by omega)).2
      have e : g_ar Sc 403 (ow (c + 1)) = r_top (c + 1) ow := this
      rw [e]
      unfold r_top
      by_cases ec : c = 0
      · subst ec
        rw [if_pos rfl]; exact ((x6.1 hd).1).symm
      · rw [if_neg (by omega), Nat.add_sub_cancel]
        exact ((x6.2 c (by omega) (by omega)).2.1).symm
    have e58 : ∀ v, f_X7_isBeingRead_58 m R Sm (nI (kk (d - 1))) (nI (ow (c + 1))) v = R (Sm, nI (kk (d - 1)), v, g_ar Sc 106 c) := by
      intro v
      unfold f_X7_isBeingRead_58
      rw [x_gt co, nI_clamp o2, x_l_e, pa]
    have e43 : f_X7_isBeingRead_43 m R Sm (nI (kk (d - 1))) (nI (ow (c + 1))) = R (Sm, nI (kk (d - 1)), 0, g_ar Sc 106 c) := by
      unfold f_X7_isBeingRead_43 f_X7_isBeingRead_57
      rw [x_gt co, nI_clamp o2, x_l_e, m1', if_neg ne, e58]
    unfold f_X7_isBeingRead_14 f_X7_isBeingRead_57 f_X7_isBeingRead_53
    rw [z, if_neg (nI_m1 o2), e58, e58, e43]
    rcases hb with rfl | rfl
    · rw [if_pos rfl, x_gt co, x_l_e, x_gt co, x_l_e, ih']
      split
      · rfl
      · split <;> rfl
    · rw [if_neg i_1n]
      exact ih'
theorem j_begun (h : r_X S0 S1 ri L n d wc kk en ow fm hi dp D T Sc Sm) (hd : 0 < d) (hm : 1000 ≤ m) : (r_lb d kk ow fm (fun i => g_ar Sc 400 i) ∧ f_X7_isBeingRead m Sm (nI (kk (d - 1))) = some (1, Sm)) ∨ (¬ r_lb d kk ow fm (fun i => g_ar Sc 400 i) ∧ f_X7_isBeingRead m Sm (nI (kk (d - 1))) = some (0, Sm)) := by
  have hch := fun {b : Int32} (hb : b = 0 ∨ b = 1) => j_chain (m := m) h hd hb
  obtain ⟨x1, x2, x3, x4, x5, x6, x7, x8, x9, x10, x11, x12, ⟨y1, y2, y3, y4, y5⟩⟩ := h
  have hkL : kk (d - 1) ≤ L := by have := x5.e0 (show d - 1 < d by omega); have := x5.1 (d - 1) (by omega); have := y1 hd; omega
  have hunle : ∀ c, r_un (fun i => g_ar Sc 400 i) ow (fun c => g_ar Sc 107 c) c ≤ c := by
    intro c
    induction c with
    | zero => exact Nat.le_refl _
    | succ c ih =>
      show r_un _ _ _ c + (if r_wt (fun i => g_ar Sc 400 i) ow (fun c => g_ar Sc 107 c) c then 1 else 0) ≤ _
      split <;> omega
  have hu := hunle d
  have p2 : d - 1 + r_un (fun i => g_ar Sc 400 i) ow (fun c => g_ar Sc 107 c) d < 2 ^ 31 := by omega
  have cp := k_in (i := d - 1 + r_un (fun i => g_ar Sc 400 i) ow (fun c => g_ar Sc 107 c) d) (L := 200) (by omega) (by decide)
  have hI : g_ar Sm 729 (d - 1 + r_un (fun i => g_ar Sc 400 i) ow (fun c => g_ar Sc 107 c) d) = g_ar Sc 106 (d - 1) := by
    have := (x4 (d - 1) (by omega)).2.2.2.2.2.1
    rw [show d - 1 + 1 = d by omega] at this
    exact this
  obtain ⟨q, rfl⟩ : ∃ z, m = z + 1 := ⟨m - 1, by omega⟩
  unfold f_X7_isBeingRead
  rw [x_l_e, x2.2.2, show d + r_un (fun i => g_ar Sc 400 i) ow (fun c => g_ar Sc 107 c) d = (d - 1 + r_un (fun i => g_ar Sc 400 i) ow (fun c => g_ar Sc 107 c) d) + 1 by omega, nI_pred, x_gt cp, nI_clamp p2, x_l_e, hI, x_loop_s]
  unfold r_lb
  by_cases e : d = 1
  · have z : g_ar Sc 106 (d - 1) = -1 := by subst e; exact (x6.1 hd).1
    right
    refine ⟨fun q => by omega, ?_⟩
    generalize x_loop (fun rec z => f_X7_isBeingRead_14 (q + 1) rec z.1 z.2.1 z.2.2.1 z.2.2.2) q = R
    show f_X7_isBeingRead_14 (q + 1) R Sm (nI (kk (d - 1))) 0 (g_ar Sc 106 (d - 1)) = _
    unfold f_X7_isBeingRead_14
    rw [z, if_pos rfl, z_g0]
  · obtain ⟨q1, q2, q3, q4, q5, q6, q7, q8, q9, q10⟩ := x6.2 (d - 1) (by omega) (by omega)
    have c0 := hch (b := 0) (Or.inl rfl) (d - 2) q (by omega) (by omega)
    have c1 := hch (b := 1) (Or.inr rfl) (d - 2) q (by omega) (by omega)
    generalize x_loop (fun rec z => f_X7_isBeingRead_14 (q + 1) rec z.1 z.2.1 z.2.2.1 z.2.2.2) q = R at c0 c1
    have z : g_ar Sc 106 (d - 1) = nI (ow (d - 1)) := q2
    have o2 : ow (d - 1) < 2 ^ 31 := by omega
    have co := k_in (i := ow (d - 1)) (L := 200) (by omega) (by decide)
    obtain ⟨m0, m1, m2, m3, m4⟩ := x3 (ow (d - 1)) q1
    have m1' : g_ar Sm 717 (ow (d - 1)) = nI (fm (d - 1)) := m1.trans q7
    have pa : g_ar Sm 719 (ow (d - 1)) = g_ar Sc 106 (d - 2) := by
      rw [m3]
      have := (x7.1 (d - 1) (by omega) (by omega)).2
      have e : g_ar Sc 403 (ow (d - 1)) = r_top (d - 1) ow := this
      rw [e]
      unfold r_top
      by_cases ec : d - 1 = 1
      · rw [if_pos ec, show d - 2 = 0 by omega]; exact ((x6.1 hd).1).symm
      · rw [if_neg ec, show d - 1 - 1 = d - 2 by omega]
        exact ((x6.2 (d - 2) (by omega) (by omega)).2.1).symm
    have e58 : ∀ v, f_X7_isBeingRead_58 (q + 1) R Sm (nI (kk (d - 1))) (nI (ow (d - 1))) v = R (Sm, nI (kk (d - 1)), v, g_ar Sc 106 (d - 2)) := by
      intro v
      unfold f_X7_isBeingRead_58
      rw [x_gt co, nI_clamp o2, x_l_e, pa]
    have e43 : f_X7_isBeingRead_43 (q + 1) R Sm (nI (kk (d - 1))) (nI (ow (d - 1))) = if fm (d - 1) = kk (d - 1) then some (1, Sm) else some (0, Sm) := by
      unfold f_X7_isBeingRead_43 f_X7_isBeingRead_57 f_X7_isBeingRead_53
      rw [x_gt co, nI_clamp o2, x_l_e, m1', e58, e58, c0, c1]
      by_cases e1 : fm (d - 1) = kk (d - 1)
      · rw [if_pos e1, if_pos (by rw [e1])]
      · rw [if_neg e1, if_neg (fun q => e1 ((nI_eq (by omega) (by omega)).mp q))]
    have m0' : g_ar Sm 716 (ow (d - 1)) = g_ar Sc 400 (ow (d - 1)) := m0
    show (_ ∧ f_X7_isBeingRead_14 (q + 1) R Sm (nI (kk (d - 1))) 0 (g_ar Sc 106 (d - 1)) = _) ∨ (_ ∧ f_X7_isBeingRead_14 (q + 1) R Sm (nI (kk (d - 1))) 0 (g_ar Sc 106 (d - 1)) = _)
    unfold f_X7_isBeingRead_14 f_X7_isBeingRead_57
    rw [z, if_neg (nI_m1 o2), if_pos rfl, x_gt co, nI_clamp o2, x_l_e, m0', e43, e58, c0]
    by_cases e3 : g_ar Sc 400 (ow (d - 1)) = 3
    · rw [if_pos e3]
      by_cases e1 : fm (d - 1) = kk (d - 1)
      · rw [if_pos e1]; exact Or.inl ⟨⟨by omega, Or.inl e3, e1⟩, rfl⟩
      · rw [if_neg e1]; exact Or.inr ⟨fun q => e1 q.2.2, rfl⟩
    · rw [if_neg e3, x_gt (k_in2 (show ow (d - 1) < 200 by omega) o2), x_l_e]
      by_cases e5 : g_ar Sc 400 (ow (d - 1)) = 5
      · rw [if_pos e5]
        by_cases e1 : fm (d - 1) = kk (d - 1)
        · rw [if_pos e1]; exact Or.inl ⟨⟨by omega, Or.inr e5, e1⟩, rfl⟩
        · rw [if_neg e1]; exact Or.inr ⟨fun q => e1 q.2.2, rfl⟩
      · rw [if_neg e5]
        exact Or.inr ⟨fun q => q.2.1.elim e3 e5, rfl⟩
end
