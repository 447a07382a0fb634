/-! text and copy -/
/-- the row that the reference tells, and the class's words -/
theorem e_row (n : Nat) (hn : 1000 ≤ n) {N r L : Nat} {Sc Sm : x_S} (hN : iv_N N Sc Sm) (hr : r < N) (hL : iv_one L r Sc Sm) (w : iv_whole L r Sm) : ∃ Sc1 Sm1 Sm2 len, f_X6_treeOf n Sc (nI r) (r + 1) = some Sc1 ∧ f_X7_read n Sm (nI r) = some Sm1 ∧ f_X7_tellAll n Sm1 = some Sm2 ∧ iv_N N Sc1 Sm2 ∧ len ≤ 241 ∧ g_sc Sc1 409 = nI len ∧ g_sc Sm2 732 = nI len ∧ ∀ i, i < len → g_ar Sc1 407 i = g_ar Sm2 731 i := by
  obtain ⟨Sc1, Sm1, t1, t2, t3, t4, R⟩ := e_tree n hn hN hr hL w
  obtain ⟨M, D, ow, hi', dp, kk, en, wt, R1, R2, R3, R4, R5, R6, R7, R8, ⟨l1, l2, l3⟩, R10⟩ := R
  obtain ⟨Y1, Y2, Y3, Y4⟩ := R10
  obtain ⟨Sm2, q', st', z1, z2⟩ := e_tell (m := n) (M := M) (S1 := Sm1) (t0 := fun z => g_ar Sc1 400 z) (t3 := fun z => g_ar Sc1 403 z) (t4 := fun z => g_ar Sc1 404 z) rfl rfl rfl hn R2 R3 (fun y hy => (R4 y hy).1) (fun y hy => (R4 y hy).2.2.2.1) (fun y hy => (R4 y hy).2.2.2.2) R5.2.2.2.1 Y2 Y3 (fun e he s2 c0 => by
    obtain ⟨c, c1, c2, -⟩ := Y1 e he s2 c0
    exact absurd c2 (Nat.not_lt_zero _)) (fun x hx => (Y4 x hx).2)
  refine ⟨Sc1, Sm1, Sm2, _, t1, t2, z1, iv_fr t3 (fr_c_rf Sc1) ⟨fun x hx => z2.2.1 x (by omega) (by omega), fun x y hx => z2.1 x y (by omega) (by omega)⟩, l1, l2, z2.2.2.1, fun i hi => ?_⟩
  have e := List.getElem?_eq_getElem hi
  exact (l3 i _ e).trans (z2.2.2.2.1 i _ e).symm
theorem l2_text (n : Nat) (hn : 1000 ≤ n) : x_2_text INV n := by
  intro Sc Sm a b h
  obtain ⟨N, hN⟩ := h
  have h1 := hN.1
  have hb12 : N < 2 ^ 31 := by have := h1.1; omega
  unfold f_X6_text f_X7_text
  rcases k_arg a hb12 with ha | ⟨r, hr, rfl⟩
  · rw [e_find_no n h1 ha, x_b2_s, x_o_n, e_isR_no n h1 ha, x_b2_s, if_pos rfl]
    exact ⟨-2, Sc, Sm, rfl, rfl, N, hN⟩
  obtain ⟨L, hL⟩ := h1.2.2.2.2.2.2 r hr
  have np1 : r + 1 < g_np Sc := by have := h1.2.2.2.1; omega
  have r12 : r < 12 := by have := h1.1; omega
  rw [e_find n h1 hr, x_b2_s, x_o_s, e_isR n h1 hr, x_b2_s, if_neg i_1n]
  by_cases b0 : (-1 : Int32) ≤ b
  · rw [if_pos b0, if_pos b0, x_gt np1, x_l_e]
    rcases e_wh2 n hn r12 hL with ⟨w, w1, w2⟩ | ⟨w, w1, w2⟩
    · obtain ⟨Sc1, Sm1, Sm2, len, t1, t2, t3, t4, l1, l2, l3, l4⟩ := e_row n hn hN hr hL w
      rw [w1, if_neg i_1n, t1, x_b_s, w2, x_b2_s, if_neg i_1n, t2, x_b_s, t3, x_b_s]
      by_cases b1 : b = -1
      · rw [if_pos b1, if_pos b1, x_l_e, x_l_e, l2, l3]
        exact ⟨_, Sc1, Sm2, rfl, rfl, N, t4⟩
      · rw [if_neg b1, if_neg b1, x_l_e, x_l_e, l2, l3]
        rcases k_arg b (show len < 2 ^ 31 by omega) with hb | ⟨i, hi, rfl⟩
        · have hb2 : nI len ≤ b := by
            rcases hb with z | z
            · exfalso
              apply b1
              rw [Int32.le_iff_toInt_le] at b0
              rw [Int32.lt_iff_toInt_lt] at z
              rw [← Int32.toInt_inj]
              have e1 : (-1 : Int32).toInt = -1 := rfl
              have e2 : (0 : Int32).toInt = 0 := rfl
              omega
            · exact z
          rw [if_pos hb2, x_l_e, e_in_no n hb (by omega), x_b_s, if_pos rfl]
          exact ⟨-2, Sc1, Sm2, rfl, rfl, N, t4⟩
        · have i2 : i < 2 ^ 31 := by omega
          have ci := k_in (i := i) (L := 241) (by omega) (by decide)
          rw [if_neg (nI_ge hi (by omega)), x_gt ci, nI_clamp i2, x_l_e, e_in_yes n hi (by omega), x_b_s, if_neg i_1n, x_gt (k_in2 (show i < 1000 by omega) i2), x_l_e, l4 i hi]
          exact ⟨_, Sc1, Sm2, rfl, rfl, N, t4⟩
    · rw [w1, if_pos rfl, w2, x_b2_s, if_pos rfl]
      exact ⟨-3, Sc, Sm, rfl, rfl, N, hN⟩
  · rw [if_neg b0, if_neg b0]
    exact ⟨-2, Sc, Sm, rfl, rfl, N, hN⟩
/-- the reference writes the row behind THE TAPE -/
def cp_S (S0 : x_S) (t i : Nat) (S : x_S) : Prop := (∀ x, g_sc S x = g_sc S0 x) ∧ (∀ x y, x ≠ 707 → g_ar S x y = g_ar S0 x y) ∧ ∀ j, g_ar S 707 j = if t ≤ j ∧ j < t + i then g_ar S0 731 (j - t) else g_ar S0 707 j
theorem cp_loop {n t len : Nat} {S0 : x_S} (h708 : g_sc S0 708 = nI t) (h732 : g_sc S0 732 = nI len) (hl : len ≤ 241) (ht : t + len ≤ 300) : ∀ (d i k : Nat) (S : x_S), i ≤ len → len - i = d → d < k → cp_S S0 t i S → ∃ S', x_loop (fun rec z => f_X7_copy_51 n rec z.1 z.2) k (S, nI i) = some (nI (t + len), S') ∧ (∀ x, x ≠ 708 → g_sc S' x = g_sc S0 x) ∧ g_sc S' 708 = nI (t + len) ∧ (∀ x y, x ≠ 707 → g_ar S' x y = g_ar S0 x y) ∧ ∀ j, g_ar S' 707 j = if t ≤ j ∧ j < t + len then g_ar S0 731 (j - t) else g_ar S0 707 j := by
  intro d
  induction d with
  | zero =>
    intro i k S hi hd hk h
    obtain ⟨k, rfl⟩ : ∃ z, k = z + 1 := ⟨k - 1, by omega⟩
    have e : i = len := by omega
    subst e
    rw [x_loop_s]
    generalize x_loop (fun rec z => f_X7_copy_51 n rec z.1 z.2) k = R
    refine ⟨s_sc S 708 (nI (t + i)), ?_, fun x hx => (y_sn _ _ _ _ hx).trans (h.1 x), y_sc _ _ _, fun x y hx => h.2.1 x y hx, fun j => h.2.2 j⟩
    show f_X7_copy_51 n R S (nI i) = _
    unfold f_X7_copy_51
    rw [x_l_e, h.1 732, h732, if_pos (Int32.le_refl _), x_l_e, x_l_e, x_l_e, x_l_e, h.1 708, h708, nI_add, y_sc]
  | succ d ih =>
    intro i k S hi hd hk h
    obtain ⟨k, rfl⟩ : ∃ z, k = z + 1 := ⟨k - 1, by omega⟩
    have i2 : i < 2 ^ 31 := by omega
    have ci := k_in (i := i) (L := 1000) (by omega) (by decide)
    have ct := k_in (i := t + i) (L := 300) (by omega) (by decide)
    obtain ⟨S', z1, z2⟩ := ih (i + 1) k (s_ar S 707 (t + i) (g_ar S0 731 i)) (by omega) (by omega) (by omega) ⟨fun x => h.1 x, fun x y hx => by rw [q_ar_ar, if_neg (fun z => hx z.1)]; exact h.2.1 x y hx, fun j => by
      rw [q_ar_ar, h.2.2 j]
      by_cases e : j = t + i
      · rw [if_pos ⟨rfl, e⟩, if_pos (by omega), show j - t = i by omega]
      · rw [if_neg (fun z => e z.2)]
        by_cases e2 : t ≤ j ∧ j < t + i
        · rw [if_pos e2, if_pos (by omega)]
        · rw [if_neg e2, if_neg (by omega)]⟩
    refine ⟨S', ?_, z2⟩
    rw [x_loop_s]
    generalize x_loop (fun rec z => f_X7_copy_51 n rec z.1 z.2) k = R at z1
    show f_X7_copy_51 n R S (nI i) = _
    unfold f_X7_copy_51
    rw [x_l_e, h.1 732, h732, if_neg (nI_ge (by omega) (by omega)), x_l_e, h.1 708, h708, x_gt ci, nI_clamp i2, x_l_e, h.2.1 731 i (by decide), nI_add, x_gt ct, nI_clamp (by omega), x_l_e, nI_1]
    exact z1
theorem l2_copy (n : Nat) (hn : 1000 ≤ n) : x_2_copy INV n := by
  intro Sc Sm a h
  obtain ⟨N, hN⟩ := h
  have h1 := hN.1
  have hb12 : N < 2 ^ 31 := by have := h1.1; omega
  unfold f_X6_copy f_X7_copy
  rcases k_arg a hb12 with ha | ⟨r, hr, rfl⟩
  · rw [e_find_no n h1 ha, x_b2_s, x_o_n, e_isR_no n h1 ha, x_b2_s, if_pos rfl]
    exact ⟨-2, Sc, Sm, rfl, rfl, N, hN⟩
  obtain ⟨L, hL⟩ := h1.2.2.2.2.2.2 r hr
  have np1 : r + 1 < g_np Sc := by have := h1.2.2.2.1; omega
  have r12 : r < 12 := by have := h1.1; omega
  rw [e_find n h1 hr, x_b2_s, x_o_s, e_isR n h1 hr, x_b2_s, if_neg i_1n, x_gt np1, x_l_e]
  rcases e_wh2 n hn r12 hL with ⟨w, w1, w2⟩ | ⟨w, w1, w2⟩
  · obtain ⟨Sc1, Sm1, Sm2, len, t1, t2, t3, t4, l1, l2, l3, l4⟩ := e_row n hn hN hr hL w
    rw [w1, if_neg i_1n, t1, x_b_s, w2, x_b2_s, if_neg i_1n, t2, x_b_s, t3, x_b_s]
    obtain ⟨k1, ⟨k2, k2b⟩, ⟨t, a1, a2, a3, a4⟩, k4, ⟨r1, r2, ⟨o, o1, o2, o3, o4⟩, r4⟩, k6, k7⟩ := id t4
    have ts : (300 : Int32) - nI t = nI (300 - t) := pk_sub (a := 300) (by omega)
    rw [x_l_e, x_l_e, l2, a2, ts, x_l_e, x_l_e, a3, l3]
    by_cases c : t + len ≤ 300
    · have g0 : ¬ (0 : Int32) < 0 ∧ ¬ nI t < 0 ∧ ¬ nI len < 0 ∧ ((0 : Int32)).toNatClampNeg + (nI len).toNatClampNeg ≤ 241 ∧ (nI t).toNatClampNeg + (nI len).toNatClampNeg ≤ 300 := by
        rw [nI_clamp (show len < 2 ^ 31 by omega), nI_clamp (show t < 2 ^ 31 by omega)]
        refine ⟨by decide, nI_pos (by omega), nI_pos (by omega), ?_, c⟩
        have : ((0 : Int32)).toNatClampNeg = 0 := by decide
        omega
      obtain ⟨Sm3, z1, z2, z3, z4, z5⟩ := cp_loop (n := n) (S0 := Sm2) a3 l3 l1 c len 0 n Sm2 (Nat.zero_le _) rfl (by omega) ⟨fun _ => rfl, fun _ _ _ => rfl, fun j => by rw [if_neg (by omega)]⟩
      rw [if_pos (nI_le (show len ≤ 300 - t by omega) (by omega)), x_gt g0, x_l_e, x_l_e, x_l_e, x_l_e, x_l_e, q_sc_cp, q_sc_cp, a2, l2, nI_add, y_sc, x_l_e, x_l_e, nI_add, if_pos (show nI (t + len) ≤ 300 from nI_le (b := 300) c (by decide))]
      refine ⟨nI (t + len), _, Sm3, rfl, z1, N, ?_⟩
      have sn : ∀ x, x ≠ 606 → g_sc (s_sc (s_cp Sc1 407 605 0 (nI t) (nI len)) 606 (nI (t + len))) x = g_sc Sc1 x := fun x hx => (y_sn _ _ _ _ hx)
      have an : ∀ x y, x ≠ 605 → g_ar (s_sc (s_cp Sc1 407 605 0 (nI t) (nI len)) 606 (nI (t + len))) x y = g_ar Sc1 x y := fun x y hx => by rw [q_ar_sc, q_ar_cp, if_neg hx]
      have one : ∀ {L r : Nat}, iv_one L r Sc1 Sm2 → iv_one L r (s_sc (s_cp Sc1 407 605 0 (nI t) (nI len)) 606 (nI (t + len))) Sm3 := fun h => iv_one_mono h (z4 701 _ (by decide)) (fun _ => rfl) (fun _ _ => rfl) (fun i _ => ⟨z4 702 _ (by decide), z4 703 _ (by decide), z4 704 _ (by decide), z4 705 _ (by decide)⟩)
      refine ⟨⟨k1.1, (z2 700 (by decide)).trans k1.2.1, (sn 601 (by decide)).trans k1.2.2.1, k1.2.2.2.1, k1.2.2.2.2.1, k1.2.2.2.2.2.1, fun r hr => ?_⟩, ⟨k2, k2b⟩, ⟨t + len, c, y_sc _ _ _, z3, fun i hi => ?_⟩, fun i hi => ?_, ⟨?_, ?_, ⟨o, o1, (sn 302 (by decide)).trans o2, (z2 712 (by decide)).trans o3, fun i hi => ?_⟩, fun i hi => ?_⟩, ?_, ?_⟩
      · obtain ⟨L, hL⟩ := k1.2.2.2.2.2.2 r hr
        exact ⟨L, one hL⟩
      · rw [q_ar_sc, q_ar_cp, if_pos rfl, z5 i]
        unfold va_cpy
        rw [nI_clamp (show len < 2 ^ 31 by omega), nI_clamp (show t < 2 ^ 31 by omega), show ((0 : Int32)).toNatClampNeg = 0 from by decide]
        by_cases e : t ≤ i ∧ i < t + len
        · rw [if_pos e, if_pos e, Nat.zero_add]
          exact l4 (i - t) (by omega)
        · rw [if_neg e, if_neg e]
          exact a4 i (by omega)
      · rw [an 609 i (by decide), z4 706 i (by decide)]; exact k4 i hi
      · rw [sn 300 (by decide), z2 710 (by decide)]; exact r1
      · rw [sn 301 (by decide), z2 711 (by decide)]; exact r2
      · rw [an 303 i (by decide), z4 713 i (by decide)]; exact o4 i hi
      · rw [an 304 i (by decide), z4 714 i (by decide)]; exact r4 i hi
      · rw [sn 608 (by decide), z2 709 (by decide)]; exact k6
      · rcases k7 with k7 | ⟨r', L', q1, q2, q3, q4, q5⟩
        · exact Or.inl ((sn 603 (by decide)).trans k7)
        · exact Or.inr ⟨r', L', q1, (sn 603 (by decide)).trans q2, one q3, iv_whole_mono q3.1 q4 (fun i _ => z4 705 _ (by decide)), iv_tree_mono q3.1 q5 (fun i _ => ⟨z4 702 _ (by decide), z4 703 _ (by decide), z4 704 _ (by decide), z4 705 _ (by decide)⟩) (fun k h1 h2 => sn k (by omega)) (fun k z h1 h2 => an k z (by omega))⟩
    · rw [if_neg (nI_ge (show 300 - t < len by omega) (by omega)), x_l_e, x_l_e, nI_add, if_neg (show ¬ nI (t + len) ≤ 300 from nI_ge (a := 300) (by omega) (by omega))]
      exact ⟨-4, Sc1, Sm2, rfl, rfl, N, t4⟩
  · rw [w1, if_pos rfl, w2, x_b2_s, if_pos rfl]
    exact ⟨-3, Sc, Sm, rfl, rfl, N, hN⟩
