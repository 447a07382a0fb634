/-! of: who calls; all of it -/
def oc_P (r : Nat) (K A : Nat → Int32) (j : Nat) : Prop := K j = 5 ∧ A j = nI r
theorem oc_c (n : Nat) {r q L : Nat} {Sc Sm : x_S} (hq : q + 1 < g_np Sc) (h : iv_one L q Sc Sm) : ∀ (d i k : Nat), i ≤ L → L - i = d → d < k → ∃ b, (b = 0 ∨ b = 1) ∧ (b = 1 ↔ ∃ j, i ≤ j ∧ j < L ∧ oc_P r (fun j => g_ar Sm 702 (60 * q + j)) (fun j => g_ar Sm 703 (60 * q + j)) j) ∧ x_loop (fun rec z => f_X2_hasCallOf_2 n rec z.1 z.2.1 z.2.2.1 z.2.2.2) k (Sc, q + 1, nI r, nI i) = some (b, Sc) := by
  have L60 := h.1
  intro d
  induction d with
  | zero =>
    intro i k hi hd hk
    obtain ⟨k, rfl⟩ : ∃ z, k = z + 1 := ⟨k - 1, by omega⟩
    rw [x_loop_s]
    generalize x_loop (fun rec z => f_X2_hasCallOf_2 n rec z.1 z.2.1 z.2.2.1 z.2.2.2) k = R
    refine ⟨0, Or.inl rfl, ⟨fun z => absurd z (by decide), fun ⟨j, j1, j2, _⟩ => by omega⟩, ?_⟩
    show f_X2_hasCallOf_2 n R Sc (q + 1) (nI r) (nI i) = _
    unfold f_X2_hasCallOf_2
    rw [x_gt hq, x_l_e, h.2.2.1, if_pos (nI_le (by omega) (by omega)), z_g0]
  | succ d ih =>
    intro i k hi hd hk
    obtain ⟨k, rfl⟩ : ∃ z, k = z + 1 := ⟨k - 1, by omega⟩
    rw [x_loop_s]
    obtain ⟨b, b1, b2, b3⟩ := ih (i + 1) k (by omega) (by omega) (by omega)
    generalize x_loop (fun rec z => f_X2_hasCallOf_2 n rec z.1 z.2.1 z.2.2.1 z.2.2.2) k = R at b3
    show ∃ b, _ ∧ _ ∧ f_X2_hasCallOf_2 n R Sc (q + 1) (nI r) (nI i) = some (b, Sc)
    obtain ⟨a1, a2, -⟩ := h.2.2.2.1 i (by omega)
    have i2 : i < 2 ^ 31 := by omega
    have ci := k_in (i := i) (L := 60) (by omega) (by decide)
    have skip : ¬ oc_P r (fun j => g_ar Sm 702 (60 * q + j)) (fun j => g_ar Sm 703 (60 * q + j)) i → ((∃ j, i + 1 ≤ j ∧ j < L ∧ oc_P r (fun j => g_ar Sm 702 (60 * q + j)) (fun j => g_ar Sm 703 (60 * q + j)) j) ↔ ∃ j, i ≤ j ∧ j < L ∧ oc_P r (fun j => g_ar Sm 702 (60 * q + j)) (fun j => g_ar Sm 703 (60 * q + j)) j) := by
      intro np
      constructor
      · rintro ⟨j, j1, j2, j3⟩
        exact ⟨j, by omega, j2, j3⟩
      · rintro ⟨j, j1, j2, j3⟩
        by_cases e : j = i
        · rw [e] at j3; exact absurd j3 np
        · exact ⟨j, by omega, j2, j3⟩
    unfold f_X2_hasCallOf_2 f_X2_hasCallOf_32
    rw [x_gt hq, x_l_e, h.2.2.1, if_neg (nI_ge (by omega) (by omega)), x_gt hq, x_gt hq, x_gt ci, nI_clamp i2, x_l_e, x_gt hq, x_gt hq, x_gt (k_in2 (show i < 60 by omega) i2), x_l_e, a1, a2, z_g1, nI_1, b3]
    by_cases e1 : g_ar Sm 702 (60 * q + i) = 5
    · rw [if_pos e1]
      by_cases e2 : g_ar Sm 703 (60 * q + i) = nI r
      · rw [if_pos e2]
        exact ⟨1, Or.inr rfl, ⟨fun _ => ⟨i, Nat.le_refl _, by omega, e1, e2⟩, fun _ => rfl⟩, rfl⟩
      · rw [if_neg e2]
        exact ⟨b, b1, b2.trans (skip (fun z => e2 z.2)), rfl⟩
    · rw [if_neg e1]
      exact ⟨b, b1, b2.trans (skip (fun z => e1 z.1)), rfl⟩
theorem oc_m (n : Nat) {r q L : Nat} {Sm : x_S} (hq : q < 12) (L60 : L ≤ 60) (h701 : g_ar Sm 701 q = nI L) : ∀ (d i k : Nat) (a : Int32), i ≤ L → L - i = d → d < k → (a = 0 ∨ a = 1) → ∃ b, (b = 0 ∨ b = 1) ∧ (b = 1 ↔ (a = 1 ∨ ∃ j, i ≤ j ∧ j < L ∧ oc_P r (fun j => g_ar Sm 702 (60 * q + j)) (fun j => g_ar Sm 703 (60 * q + j)) j)) ∧ x_loop (fun rec z => f_X7_doesCall_8 n rec z.1 z.2.1 z.2.2.1 z.2.2.2.1 z.2.2.2.2) k (Sm, nI q, nI r, a, nI (60 * q + i)) = some (b, Sm) := by
  have cq := k_in (i := q) (L := 12) hq (by decide)
  have q2 : q < 2 ^ 31 := by omega
  have e60 : ((60 : Int32) * nI q) + nI L = nI (60 * q + L) := by rw [e_60 hq, nI_add]
  intro d
  induction d with
  | zero =>
    intro i k a hi hd hk ha
    obtain ⟨k, rfl⟩ : ∃ z, k = z + 1 := ⟨k - 1, by omega⟩
    rw [x_loop_s]
    generalize x_loop (fun rec z => f_X7_doesCall_8 n rec z.1 z.2.1 z.2.2.1 z.2.2.2.1 z.2.2.2.2) k = R
    refine ⟨a, ha, ⟨fun z => Or.inl z, fun z => z.elim id (fun ⟨j, j1, j2, _⟩ => by omega)⟩, ?_⟩
    show f_X7_doesCall_8 n R Sm (nI q) (nI r) a (nI (60 * q + i)) = _
    unfold f_X7_doesCall_8
    rw [x_gt cq, nI_clamp q2, x_l_e, h701, e60, if_pos (nI_le (by omega) (by omega)), x_gt ha]
  | succ d ih =>
    intro i k a hi hd hk ha
    obtain ⟨k, rfl⟩ : ∃ z, k = z + 1 := ⟨k - 1, by omega⟩
    rw [x_loop_s]
    have ih0 := ih (i + 1) k 0 (by omega) (by omega) (by omega) (Or.inl rfl)
    have ih1 := ih (i + 1) k 1 (by omega) (by omega) (by omega) (Or.inr rfl)
    generalize x_loop (fun rec z => f_X7_doesCall_8 n rec z.1 z.2.1 z.2.2.1 z.2.2.2.1 z.2.2.2.2) k = R at ih0 ih1
    show ∃ b, _ ∧ _ ∧ f_X7_doesCall_8 n R Sm (nI q) (nI r) a (nI (60 * q + i)) = some (b, Sm)
    have i2 : 60 * q + i < 2 ^ 31 := by omega
    have ci := k_in (i := 60 * q + i) (L := 720) (by omega) (by decide)
    have skip : ¬ oc_P r (fun j => g_ar Sm 702 (60 * q + j)) (fun j => g_ar Sm 703 (60 * q + j)) i → ((∃ j, i + 1 ≤ j ∧ j < L ∧ oc_P r (fun j => g_ar Sm 702 (60 * q + j)) (fun j => g_ar Sm 703 (60 * q + j)) j) ↔ ∃ j, i ≤ j ∧ j < L ∧ oc_P r (fun j => g_ar Sm 702 (60 * q + j)) (fun j => g_ar Sm 703 (60 * q + j)) j) := by
      intro np
      constructor
      · rintro ⟨j, j1, j2, j3⟩
        exact ⟨j, by omega, j2, j3⟩
      · rintro ⟨j, j1, j2, j3⟩
        by_cases e : j = i
        · rw [e] at j3; exact absurd j3 np
        · exact ⟨j, by omega, j2, j3⟩
    unfold f_X7_doesCall_8 f_X7_doesCall_50 f_X7_doesCall_54 f_X7_doesCall_55
    rw [x_gt cq, nI_clamp q2, x_l_e, h701, e60, if_neg (nI_ge (by omega) (by omega)), nI_1, show 60 * q + i + 1 = 60 * q + (i + 1) by omega]
    rcases ha with rfl | rfl
    · rw [if_pos rfl, x_gt ci, nI_clamp i2, x_l_e, x_gt (k_in2 (show 60 * q + i < 720 by omega) i2), x_l_e]
      have no : ¬ oc_P r (fun j => g_ar Sm 702 (60 * q + j)) (fun j => g_ar Sm 703 (60 * q + j)) i → ∃ b, (b = 0 ∨ b = 1) ∧ (b = 1 ↔ ((0 : Int32) = 1 ∨ ∃ j, i ≤ j ∧ j < L ∧ oc_P r (fun j => g_ar Sm 702 (60 * q + j)) (fun j => g_ar Sm 703 (60 * q + j)) j)) ∧ R (Sm, nI q, nI r, 0, nI (60 * q + (i + 1))) = some (b, Sm) := by
        intro np
        obtain ⟨b, b1, b2, b3⟩ := ih0
        refine ⟨b, b1, ?_, b3⟩
        rw [b2, skip np]
      by_cases e1 : g_ar Sm 702 (60 * q + i) = 5
      · rw [if_pos e1]
        by_cases e2 : g_ar Sm 703 (60 * q + i) = nI r
        · rw [if_pos e2]
          obtain ⟨b, b1, b2, b3⟩ := ih1
          exact ⟨b, b1, ⟨fun _ => Or.inr ⟨i, Nat.le_refl _, by omega, e1, e2⟩, fun _ => b2.mpr (Or.inl rfl)⟩, b3⟩
        · rw [if_neg e2]
          exact no (fun z => e2 z.2)
      · rw [if_neg e1]
        exact no (fun z => e1 z.1)
    · rw [if_neg i_1n]
      obtain ⟨b, b1, b2, b3⟩ := ih1
      exact ⟨b, b1, ⟨fun _ => Or.inl rfl, fun _ => b2.mpr (Or.inl rfl)⟩, b3⟩
theorem e_calls (n : Nat) (hn : 1000 ≤ n) {N r q : Nat} {Sc Sm : x_S} (h : iv_rt N Sc Sm) (hq : q < N) : ∃ b, (b = 0 ∨ b = 1) ∧ f_X2_hasCallOf n Sc (q + 1) (nI r) = some (b, Sc) ∧ f_X7_doesCall n Sm (nI q) (nI r) = some (b, Sm) := by
  obtain ⟨L, hL⟩ := h.2.2.2.2.2.2 q hq
  have hN := h.1
  have hnp := h.2.2.2.1
  have L60 := hL.1
  obtain ⟨b, b1, b2, b3⟩ := oc_c n (r := r) (show q + 1 < g_np Sc by omega) hL L 0 n (Nat.zero_le _) rfl (by omega)
  obtain ⟨c, c1, c2, c3⟩ := oc_m n (r := r) (show q < 12 by omega) L60 hL.2.1 L 0 n 0 (Nat.zero_le _) rfl (by omega) (Or.inl rfl)
  have e : b = c := by
    rcases b1 with b1 | b1
    · rcases c1 with c1 | c1
      · rw [b1, c1]
      · rcases c2.mp c1 with z | z
        · exact absurd z (by decide)
        · rw [b2.mpr z] at b1; exact absurd b1 (by decide)
    · rw [b1, c2.mpr (Or.inr (b2.mp b1))]
  subst e
  refine ⟨b, b1, b3, ?_⟩
  unfold f_X7_doesCall
  rw [e_60 (show q < 12 by omega)]
  exact c3
theorem of_loop7 (n : Nat) (hn : 1000 ≤ n) {N r : Nat} {Sc Sm : x_S} (h : iv_rt N Sc Sm) : ∀ (d x q : Nat) (v : Int32), x ≤ N → N - x = d → d < q → ∃ w, x_loop (fun rec z => f_X6_callersOf_4 n rec z.1 z.2.1 z.2.2.1 z.2.2.2) q (Sc, nI r, v, nI x) = some (w, Sc) ∧ x_loop (fun rec z => f_X7_of_282 n rec z.1 z.2.1 z.2.2.1 z.2.2.2) q (Sm, nI r, v, nI x) = some (w, Sm) := by
  have hN := h.1
  have hnp := h.2.2.2.1
  intro d
  induction d with
  | zero =>
    intro x q v hx hd hq
    obtain ⟨q, rfl⟩ : ∃ z, q = z + 1 := ⟨q - 1, by omega⟩
    rw [x_loop_s, x_loop_s]
    generalize x_loop (fun rec z => f_X6_callersOf_4 n rec z.1 z.2.1 z.2.2.1 z.2.2.2) q = R
    generalize x_loop (fun rec z => f_X7_of_282 n rec z.1 z.2.1 z.2.2.1 z.2.2.2) q = R2
    refine ⟨v, ?_, ?_⟩
    · show f_X6_callersOf_4 n R Sc (nI r) v (nI x) = _
      unfold f_X6_callersOf_4
      rw [x_l_e, h.2.2.1, if_pos (nI_le (by omega) (by omega))]
    · show f_X7_of_282 n R2 Sm (nI r) v (nI x) = _
      unfold f_X7_of_282
      rw [x_l_e, h.2.1, if_pos (nI_le (by omega) (by omega))]
  | succ d ih =>
    intro x q v hx hd hq
    obtain ⟨q, rfl⟩ : ∃ z, q = z + 1 := ⟨q - 1, by omega⟩
    rw [x_loop_s, x_loop_s]
    have ih' := fun v => ih (x + 1) q v (by omega) (by omega) (by omega)
    generalize x_loop (fun rec z => f_X6_callersOf_4 n rec z.1 z.2.1 z.2.2.1 z.2.2.2) q = R at ih'
    generalize x_loop (fun rec z => f_X7_of_282 n rec z.1 z.2.1 z.2.2.1 z.2.2.2) q = R2 at ih'
    show ∃ w, f_X6_callersOf_4 n R Sc (nI r) v (nI x) = some (w, Sc) ∧ f_X7_of_282 n R2 Sm (nI r) v (nI x) = some (w, Sm)
    obtain ⟨b, b1, b2, b3⟩ := e_calls n hn (r := r) h (show x < N by omega)
    unfold f_X6_callersOf_4 f_X6_callersOf_36 f_X7_of_282 f_X7_of_307
    rw [x_l_e, h.2.2.1, if_neg (nI_ge (by omega) (by omega)), e_find n h (show x < N by omega), x_b2_s, x_o_s, x_gt (by omega), b2, x_b2_s, x_l_e, h.2.1, if_neg (nI_ge (by omega) (by omega)), b3, x_b2_s, nI_1, Int32.add_zero]
    rcases b1 with rfl | rfl
    · rw [if_pos rfl, if_pos rfl]
      exact ih' v
    · rw [if_neg i_1n, if_neg i_1n]
      exact ih' (v + 1)
theorem i_lit8 {c : Int32} {q : Nat} (hq : q < 8) (hc : c = nI q) : c = 0 ∨ c = 1 ∨ c = 2 ∨ c = 3 ∨ c = 4 ∨ c = 5 ∨ c = 6 ∨ c = 7 := by
  have : q = 0 ∨ q = 1 ∨ q = 2 ∨ q = 3 ∨ q = 4 ∨ q = 5 ∨ q = 6 ∨ q = 7 := by omega
  rcases this with z | z | z | z | z | z | z | z <;> subst z
  · exact Or.inl hc
  · exact Or.inr (Or.inl hc)
  · exact Or.inr (Or.inr (Or.inl hc))
  · exact Or.inr (Or.inr (Or.inr (Or.inl hc)))
  · exact Or.inr (Or.inr (Or.inr (Or.inr (Or.inl hc))))
  · exact Or.inr (Or.inr (Or.inr (Or.inr (Or.inr (Or.inl hc)))))
  · exact Or.inr (Or.inr (Or.inr (Or.inr (Or.inr (Or.inr (Or.inl hc))))))
  · exact Or.inr (Or.inr (Or.inr (Or.inr (Or.inr (Or.inr (Or.inr hc))))))
/-- of a ROUTINE that is WHOLE -/
theorem e_ofWhole (n : Nat) (hn : 1000 ≤ n) {N r L : Nat} {Sc Sm : x_S} {c : Int32} (hN : iv_N N Sc Sm) (hr : r < N) (hL : iv_one L r Sc Sm) (w : iv_whole L r Sm) (hc : c = 3 ∨ c = 4 ∨ c = 5 ∨ c = 6 ∨ c = 7) : ∃ v Sc1 Sm1, f_X6_of_37 n Sc (nI r) c (r + 1) = some (v, Sc1) ∧ x_b (f_X7_read n Sm (nI r)) (fun S => if c = (3 : Int32) then x_let (g_sc S 715) (fun v23 => some (v23, S)) else if c = (4 : Int32) then x_loop (fun rec z => f_X7_of_110 n rec z.1 z.2.1 z.2.2) n (S, (0 : Int32), (0 : Int32)) else if c = (5 : Int32) then x_b (f_X7_come n S (nI r)) (fun S => x_loop (fun rec z => f_X7_of_172 n rec z.1 z.2.1 z.2.2.1 z.2.2.2) n (S, nI r, (0 : Int32), (0 : Int32))) else if c = (6 : Int32) then x_loop (fun rec z => f_X7_of_220 n rec z.1 z.2.1 z.2.2) n (S, (1 : Int32), (0 : Int32)) else x_loop (fun rec z => f_X7_of_282 n rec z.1 z.2.1 z.2.2.1 z.2.2.2) n (S, nI r, (0 : Int32), (0 : Int32))) = some (v, Sm1) ∧ INV Sc1 Sm1 := by
  have h1 := hN.1
  have np1 : r + 1 < g_np Sc := by have := h1.2.2.2.1; omega
  have r12 : r < 12 := by have := h1.1; omega
  have L60 := hL.1
  obtain ⟨Sc1, Sm1, t1, t2, t3, t4, R⟩ := e_tree n hn hN hr hL w
  obtain ⟨M, D, ow, hi', dp, kk, en, wt, R1, R2, R3, R4, R5, R6, R7, R8, R9, R10⟩ := R
  unfold f_X6_of_37 f_X6_neverMet
  rw [t2, t1]
  rcases hc with rfl | rfl | rfl | rfl | rfl
  · rw [if_neg (by decide), if_neg (by decide), if_neg (by decide), if_pos rfl, x_b_s, x_l_e, x_b_s, if_pos rfl, x_l_e, R3, R1]
    exact ⟨_, Sc1, Sm1, rfl, rfl, N, t3⟩
  · rw [if_neg (by decide), if_neg (by decide), if_neg (by decide), if_neg (by decide), if_pos rfl, x_b_s, x_l_e, x_b_s, if_neg (by decide), if_pos rfl, R7]
    exact ⟨_, Sc1, Sm1, rfl, of_loop4 (m := n) R2 R3 (fun x hx => (R4 x hx).1) M 0 n (Nat.zero_le _) rfl (by omega), N, t3⟩
  · rw [if_neg (by decide), if_neg (by decide), if_neg (by decide), if_neg (by decide), if_neg (by decide), if_pos rfl, x_b2_id, x_b_s, if_neg (by decide), if_neg (by decide), if_pos rfl]
    obtain ⟨Sc2, Sm2, u1, u2, u3, u4, u5, u6⟩ := e_cm n hn hN hr hL w t4
    have np2 : r + 1 < g_np Sc2 := by rw [u3.2.2.1]; exact np1
    have ce : cm_cnt (fun i => g_ar Sc2 0 i) L = cm_cnt (fun i => g_ar Sm2 733 i) L := cm_cnt_eq L (fun i hi => by
      rcases u6 i hi with ⟨a, b⟩ | ⟨a, b⟩
      · (try simp only); rw [a, b]
      · (try simp only); rw [a, b])
    have le := cm_cnt_le (fun i => g_ar Sm2 733 i) L
    have lp := of_loop5 n (r := r) (L := L) (S := Sm2) r12 L60 ((u4.2 701 r (by decide)).trans hL.2.1) (fun j hj => (u6 j hj).elim (fun z => Or.inl z.2) (fun z => Or.inr z.2)) L 0 n (Nat.zero_le _) rfl (by omega)
    rw [u1, x_b_s, x_gt np2, x_l_e, x_l_e, u3.2.2.2.1, hL.2.2.1, u5, ce, pk_sub le, u2, x_b_s]
    exact ⟨_, Sc2, Sm2, rfl, lp, N, iv_fr hN u3 u4⟩
  · rw [if_neg (by decide), if_neg (by decide), if_neg (by decide), if_neg (by decide), if_neg (by decide), if_neg (by decide), if_pos rfl, x_b_s, x_l_e, x_b_s, if_neg (by decide), if_neg (by decide), if_neg (by decide), if_pos rfl, R6.2]
    obtain ⟨x, x1, x2, x3, x4⟩ := of_loop6 (m := n) hn R2 R3 (fun x hx => (R4 x hx).1) (fun x hx => (R4 x hx).2.2.2.1) R6.1 M 0 1 n (Nat.zero_le _) rfl (by omega) (by omega)
    have e : x = D := by
      obtain ⟨-, -, D3, -, D5, D6⟩ := R6.1
      have le : x ≤ D := by
        rcases x4 with z | ⟨s, s1, z | ⟨z, zc⟩⟩
        · omega
        · have := (D3 s s1).1; omega
        · have := (D3 s s1).2 zc; omega
      rcases D6 with z | ⟨s, s1, s2, s3⟩
      · omega
      · have := (x3 s (Nat.zero_le _) s1).2 s2; omega
    subst e
    exact ⟨_, Sc1, Sm1, rfl, x1, N, t3⟩
  · have hN2 : iv_N N Sc Sm1 := iv_fr hN (fr_c_rf Sc) t4
    obtain ⟨x, x1, x2⟩ := of_loop7 n hn (r := r) hN2.1 N 0 n 0 (Nat.zero_le _) rfl (by have := h1.1; omega)
    rw [if_neg (by decide), if_neg (by decide), if_neg (by decide), if_neg (by decide), if_neg (by decide), if_neg (by decide), if_neg (by decide), x_b_s, if_neg (by decide), if_neg (by decide), if_neg (by decide), if_neg (by decide)]
    have e : f_X6_callersOf n Sc (nI r) = some (x, Sc) := x1
    rw [e, x_b2_s]
    exact ⟨x, Sc, Sm1, rfl, x2, N, hN2⟩
theorem l2_of (n : Nat) (hn : 1000 ≤ n) : x_2_of INV n := by
  intro Sc Sm a c h
  obtain ⟨N, hN⟩ := h
  have h1 := hN.1
  have hb12 : N < 2 ^ 31 := by have := h1.1; omega
  unfold f_X6_of f_X7_of
  rcases k_arg a hb12 with ha | ⟨r, hr, rfl⟩
  · rw [e_find_no n h1 ha, x_b2_s, x_o_n, e_isR_no n h1 ha, x_b2_s, if_pos rfl]
    exact ⟨-2, Sc, Sm, rfl, rfl, N, hN⟩
  obtain ⟨L, hL⟩ := h1.2.2.2.2.2.2 r hr
  have np1 : r + 1 < g_np Sc := by have := h1.2.2.2.1; omega
  have r12 : r < 12 := by have := h1.1; omega
  have r2 : r < 2 ^ 31 := by omega
  have cr := k_in (i := r) (L := 12) r12 (by decide)
  rw [e_find n h1 hr, x_b2_s, x_o_s, e_isR n h1 hr, x_b2_s, if_neg i_1n, e_in, x_b_s]
  by_cases c0 : c < 0
  · rw [if_pos c0, if_neg (fun z : (0 : Int32) ≤ c ∧ c ≤ 7 => absurd z.1 (Int32.not_le.mpr c0)), if_pos rfl]
    exact ⟨-2, Sc, Sm, rfl, rfl, N, hN⟩
  by_cases c7 : c ≤ 7
  · rw [if_neg c0, if_pos c7, if_pos (⟨Int32.not_lt.mp c0, c7⟩ : (0 : Int32) ≤ c ∧ c ≤ 7), if_neg i_1n]
    have hc : ∃ q, q < 8 ∧ c = nI q := by
      rcases k_arg c (show 8 < 2 ^ 31 by decide) with z | z
      · rcases z with z | z
        · exact absurd z c0
        · exact absurd (Int32.le_trans z c7) (by decide)
      · exact z
    obtain ⟨q, hq, hc⟩ := hc
    have hl := i_lit8 hq hc
    by_cases k0 : c = 0
    · unfold f_X6_of_37
      rw [if_pos (show c < 3 by rw [k0]; decide), if_pos k0, if_pos k0, x_gt np1, x_l_e, hL.2.2.1, x_gt cr, nI_clamp r2, x_l_e, hL.2.1]
      exact ⟨_, Sc, Sm, rfl, rfl, N, hN⟩
    by_cases k1 : c = 1
    · unfold f_X6_of_37
      rw [if_pos (show c < 3 by rw [k1]; decide), if_neg k0, if_neg k0, if_pos k1, if_pos k1, x_gt np1, x_l_e]
      rcases e_wh2 n hn r12 hL with ⟨w, w1, w2⟩ | ⟨w, w1, w2⟩
      · rw [w1, if_neg i_1n, w2, x_b2_s, if_neg i_1n]
        exact ⟨_, Sc, Sm, rfl, rfl, N, hN⟩
      · rw [w1, if_pos rfl, w2, x_b2_s, if_pos rfl]
        exact ⟨_, Sc, Sm, rfl, rfl, N, hN⟩
    by_cases k2 : c = 2
    · obtain ⟨v, v1, v2⟩ := of_loop2 n hn h1 hr r 0 n (Nat.zero_le _) rfl (by omega)
      have e : f_X6_leastAlike n Sc (nI r) (r + 1) = some (v, Sc) := v1
      unfold f_X6_of_37
      rw [if_pos (show c < 3 by rw [k2]; decide), if_neg k0, if_neg k0, if_neg k1, if_neg k1, if_pos k2, if_pos k2, e, x_b2_s]
      exact ⟨v, Sc, Sm, rfl, v2, N, hN⟩
    · have hc5 : c = 3 ∨ c = 4 ∨ c = 5 ∨ c = 6 ∨ c = 7 := by
        rcases hl with z | z | z | z
        · exact absurd z k0
        · exact absurd z k1
        · exact absurd z k2
        · exact z
      have c3 : ¬ c < 3 := by rcases hc5 with z | z | z | z | z <;> (rw [z]; decide)
      rw [if_neg c3, if_neg k0, if_neg k1, if_neg k2, x_gt np1, x_l_e]
      rcases e_wh2 n hn r12 hL with ⟨w, w1, w2⟩ | ⟨w, w1, w2⟩
      · obtain ⟨v, Sc1, Sm1, z1, z2, z3⟩ := e_ofWhole n hn hN hr hL w hc5
        rw [w1, if_neg i_1n, z1, w2, x_b2_s, if_neg i_1n]
        exact ⟨v, Sc1, Sm1, rfl, z2, z3⟩
      · rw [w1, if_pos rfl, w2, x_b2_s, if_pos rfl]
        exact ⟨-1, Sc, Sm, rfl, rfl, N, hN⟩
  · rw [if_neg c0, if_neg c7, if_neg (fun z : (0 : Int32) ≤ c ∧ c ≤ 7 => c7 z.2), if_pos rfl]
    exact ⟨-2, Sc, Sm, rfl, rfl, N, hN⟩
