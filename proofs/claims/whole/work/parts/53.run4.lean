theorem run_regs (n : Nat) {r st : Int32} : ∀ (d i k : Nat) (S : x_S), i + d = 4 → d < k → (∀ j, j < i → g_ar S 714 j = g_ar S 706 j) → ∃ S1, (∀ j, j < 4 → g_ar S1 714 j = g_ar S1 706 j) ∧ (∀ x, g_sc S1 x = g_sc S x) ∧ (∀ x y, x ≠ 714 → g_ar S1 x y = g_ar S x y) ∧ x_loop (fun rec z => f_X7_run_35 n rec z.1 z.2.1 z.2.2.1 z.2.2.2) k (S, r, st, nI i) = x_let (s_ar (s_ar (s_sc (s_sc (s_sc S1 710 0) 711 1) 712 0) 752 0 r) 753 0 0) (fun S => lp_m n n (S, st, 1)) := by
  intro d
  induction d with
  | zero =>
    intro i k S hi hk hS
    obtain ⟨k, rfl⟩ : ∃ z, k = z + 1 := ⟨k - 1, by omega⟩
    have e4 : i = 4 := by omega
    subst e4
    refine ⟨S, hS, fun _ => rfl, fun _ _ _ => rfl, ?_⟩
    rw [x_loop_s]
    have g0 : ¬ ((0 : Int32) < 0 ∨ 8 ≤ ((0 : Int32)).toNatClampNeg) := by decide
    simp only [f_X7_run_35, if_pos (show (4 : Int32) ≤ nI 4 by decide), x_l_e, x_gt g0]
    rfl
  | succ d ih =>
    intro i k S hi hk hS
    obtain ⟨k, rfl⟩ : ∃ z, k = z + 1 := ⟨k - 1, by omega⟩
    have i4 : i < 4 := by omega
    have i2 : i < 2 ^ 31 := by omega
    have c1 : ¬ (4 : Int32) ≤ nI i := nI_ge (a := i) (b := 4) i4 (by decide)
    have c3 := k_in2 i4 i2
    have c4 := nI_clamp i2
    obtain ⟨S1, z1, z2, z3, z4⟩ := ih (i + 1) k (s_ar S 714 i (g_ar S 706 i)) (by omega) (by omega) (fun j hj => by
      simp only [q_ar_ar, true_and, Nat.reduceEqDiff, false_and, if_false]
      by_cases e : j = i
      · simp [e]
      · simp only [if_neg e]; exact hS j (by omega))
    refine ⟨S1, z1, fun x => (z2 x).trans rfl, fun x y hx => (z3 x y hx).trans (by simp [q_ar_ar, hx]), ?_⟩
    rw [x_loop_s]
    simp only [f_X7_run_35, if_neg c1, c4, x_gt c3, x_l_e, nI_1]
    exact z4
theorem iv_swap {N : Nat} {Sc Sm Sm1 : x_S} (h : iv_N N Sc Sm) (e1 : ∀ x, g_sc Sm1 x = g_sc Sm x) (e2 : ∀ x y, x ≠ 714 → g_ar Sm1 x y = g_ar Sm x y) (e3 : ∀ i, i < 4 → g_ar (s_cp Sc 609 304 0 0 4) 304 i = g_ar Sm1 714 i) : iv_N N (s_cp Sc 609 304 0 0 4) Sm1 := by
  obtain ⟨⟨h1, h2, h3, h4, h5, h6, h7⟩, k2, ⟨t, t1, t2, t3, t4⟩, k4, ⟨r1, r2, ⟨o, o1, o2, o3, o4⟩, r4⟩, k6, k7⟩ := h
  have e4 : ∀ r i : Nat, g_ar Sm1 702 (60 * r + i) = g_ar Sm 702 (60 * r + i) ∧ g_ar Sm1 703 (60 * r + i) = g_ar Sm 703 (60 * r + i) ∧ g_ar Sm1 704 (60 * r + i) = g_ar Sm 704 (60 * r + i) ∧ g_ar Sm1 705 (60 * r + i) = g_ar Sm 705 (60 * r + i) := fun r i => ⟨e2 702 _ (by decide), e2 703 _ (by decide), e2 704 _ (by decide), e2 705 _ (by decide)⟩
  refine ⟨⟨h1, (e1 700).trans h2, h3, h4, h5, h6, fun r hr => ?_⟩, k2, ⟨t, t1, t2, (e1 708).trans t3, fun i hi => (t4 i hi).trans (e2 707 i (by decide)).symm⟩, fun i hi => (k4 i hi).trans (e2 706 i (by decide)).symm, ⟨r1.trans (e1 710).symm, r2.trans (e1 711).symm, ⟨o, o1, o2, (e1 712).trans o3, fun i hi => (o4 i hi).trans (e2 713 i (by decide)).symm⟩, e3⟩, k6.trans (e1 709).symm, ?_⟩
  · obtain ⟨L, hL⟩ := h7 r hr
    exact ⟨L, iv_one_mono hL (e2 701 r (by decide)) (fun _ => rfl) (fun _ _ => rfl) (fun i _ => e4 r i)⟩
  · rcases k7 with k7 | ⟨r, L, q1, q2, q3, q4, q5⟩
    · exact Or.inl k7
    · exact Or.inr ⟨r, L, q1, q2, iv_one_mono q3 (e2 701 r (by decide)) (fun _ => rfl) (fun _ _ => rfl) (fun i _ => e4 r i), iv_whole_mono q3.1 q4 (fun i _ => (e4 r i).2.2.2), iv_tree_mono q3.1 q5 (fun i _ => e4 r i) (fun _ _ _ => rfl) (fun k z h1 h2 => by simp [q_ar_cp, show ¬ k = 304 by omega])⟩
theorem l2_run (n : Nat) (hn : 30000 ≤ n) : x_2_run INV n := by
  intro Sc Sm a b h
  obtain ⟨N, hN⟩ := h
  have h1 := hN.1
  have hN12 := h1.1
  have hb12 : N < 2 ^ 31 := by omega
  rcases k_arg a hb12 with ha | ⟨r, hr, rfl⟩
  · refine ⟨-2, Sc, Sm, ?_, ?_, N, hN⟩
    · simp only [f_X6_run, e_find_no n h1 ha, x_b2_s, x_o_n]
    · simp only [f_X7_run, e_isR_no n h1 ha, x_b2_s, if_true]
  · rcases k_arg b (N := 10001) (by decide) with hb | ⟨lim, hlim, rfl⟩
    · refine ⟨-2, Sc, Sm, ?_, ?_, N, hN⟩
      · simp only [f_X6_run, e_find n h1 hr, x_b2_s, x_o_s]
        by_cases c1 : b < 0
        · rw [if_pos c1]
        · have c2 : ¬ b ≤ (10000 : Int32) := by
            rcases hb with hb | hb
            · exact absurd hb c1
            · rw [k_le (by decide)] at hb
              rw [Int32.le_iff_toInt_le]
              have : (10000 : Int32).toInt = 10000 := rfl
              omega
          rw [if_neg c1, if_neg c2]
      · have e : f_X7_in n b 0 10000 = some 0 := by
          rw [e_in, if_neg]
          rintro ⟨q1, q2⟩
          rcases hb with hb | hb
          · exact absurd hb (Int32.not_lt.mpr q1)
          · rw [k_le (by decide)] at hb
            rw [Int32.le_iff_toInt_le] at q2
            have : (10000 : Int32).toInt = 10000 := rfl
            omega
        simp only [f_X7_run, e_isR n h1 hr, x_b2_s, if_neg i_10, e, x_b_s, if_true]
    · obtain ⟨L, hL⟩ := h1.2.2.2.2.2.2 r hr
      have np1 : r + 1 < g_np Sc := by have := h1.2.2.2.1; omega
      have l2 : lim < 2 ^ 31 := by omega
      have c1 := nI_pos l2
      have c2 : nI lim ≤ (10000 : Int32) := nI_le (b := 10000) (by omega) (by decide)
      have e : f_X7_in n (nI lim) 0 10000 = some 1 := by
        rw [e_in, if_pos ⟨nI_pos' l2, c2⟩]
      rcases e_wh2 n (by omega) (show r < 12 by omega) hL with ⟨w1, w2, w3⟩ | ⟨w1, w2, w3⟩
      · obtain ⟨S1, z1, z2, z3, z4⟩ := run_regs n (r := nI r) (st := nI lim) 4 0 n Sm rfl (by omega) (fun j hj => absurd hj (by omega))
        have hm : f_X7_run n Sm (nI r) (nI lim) = lp_m n n (s_ar (s_ar (s_sc (s_sc (s_sc S1 710 0) 711 1) 712 0) 752 0 (nI r)) 753 0 0, nI lim, 1) := by
          simp only [f_X7_run, e_isR n h1 hr, x_b2_s, if_neg i_10, e, x_b_s, w3]
          exact z4
        have hc : f_X6_run n Sc (nI r) (nI lim) = lp_c n n (s_sc (s_sc (s_ar (s_ra (s_sc (s_cp (s_sc (s_sc (s_sc Sc 300 0) 301 0) 302 0) 609 304 0 0 4) 305 0) 306 0 (some (r + 1))) 307 0 0) 305 (nI 1)) 301 (nI 1), nI lim, -1, nI 0) := by
          have g0 : ¬ ((0 : Int32) < 0 ∨ 8 ≤ ((0 : Int32)).toNatClampNeg) := by decide
          have g1 : ¬ (0 : Int32) < 0 ∧ ¬ (0 : Int32) < 0 ∧ ¬ (4 : Int32) < 0 ∧ ((0 : Int32)).toNatClampNeg + ((4 : Int32)).toNatClampNeg ≤ 4 ∧ ((0 : Int32)).toNatClampNeg + ((4 : Int32)).toNatClampNeg ≤ 4 := by decide
          have n3 : r + 1 < g_np (s_sc (s_cp (s_sc (s_sc (s_sc Sc 300 0) 301 0) 302 0) 609 304 0 0 4) 305 0) := np1
          rw [f_X6_run, e_find n h1 hr, x_b2_s, x_o_s, if_neg c1, if_pos c2, x_gt np1, x_l_e, w2, if_neg i_10]
          rw [f_X3_start, x_l_e, x_l_e, x_l_e, x_gt g1, x_l_e, x_l_e, f_X3_enter, x_l_e, x_gt n3]
          rw [show g_sc (s_sc (s_cp (s_sc (s_sc (s_sc Sc 300 0) 301 0) 302 0) 609 304 0 0 4) 305 0) 305 = 0 from rfl, x_gt g0, x_l_e, x_l_e, x_b2_id]
          rfl
        obtain ⟨⟨j1, j2, j3, j4, j5, j6, j7⟩, k2, k3, k4, ⟨r1, r2, r3, r4⟩, k6, k7⟩ := id hN
        have hcp : ∀ i, i < 4 → g_ar (s_cp Sc 609 304 0 0 4) 304 i = g_ar S1 714 i := by
          intro i hi
          have e9 : g_ar (s_cp Sc 609 304 0 0 4) 304 i = va_cpy (fun z => g_ar Sc 609 z) (fun z => g_ar Sc 304 z) 0 0 4 i := rfl
          rw [e9, pk_cpy_in (by omega) (by omega), z1 i hi, z3 706 i (by decide)]
          have e8 : 0 + (i - 0) = i := by omega
          show g_ar Sc 609 (0 + (i - 0)) = _
          rw [e8]
          exact k4 i hi
        obtain ⟨m1, m2, m3, m4, ⟨-, -, -, m5⟩, m6, m7⟩ := iv_swap hN z2 z3 hcp
        obtain ⟨t', t1, t2, t3, t4⟩ := m3
        have hL1 : iv_one L r (s_cp Sc 609 304 0 0 4) S1 := iv_one_mono hL (z3 701 r (by decide)) (fun _ => rfl) (fun _ _ => rfl) (fun i _ => ⟨z3 702 _ (by decide), z3 703 _ (by decide), z3 704 _ (by decide), z3 705 _ (by decide)⟩)
        have hw1 : iv_whole L r S1 := iv_whole_mono hL.1 w1 (fun i _ => z3 705 _ (by decide))
        rw [hm, hc]
        refine run_sim n (by omega) N lim 20004 0 1 0 1 n n _ _ (by omega) (by omega) (by omega) ⟨⟨m1, ⟨m2.1, fun x j i hi => ?_⟩, ⟨t', t1, t2, t3, t4⟩, m4, ⟨rfl, rfl, ⟨0, by decide, rfl, rfl, fun i hi => absurd hi (by omega)⟩, m5⟩, m6, m7⟩, by decide, by omega, rfl, rfl, rfl, by omega, by omega, by omega, ?_⟩
        · simp only [q_ra_sc, q_ra_ar, q_ra_ra] at hi
          by_cases e9 : x = 306 ∧ j = 0
          · rw [if_pos e9] at hi
            have := Option.some.inj hi
            show i < g_np Sc
            omega
          · rw [if_neg e9] at hi
            exact m2.2 x j i hi
        · intro j hj
          have e0 : j = 0 := by omega
          subst e0
          exact ⟨r, L, 0, hr, hL1, hw1, Nat.zero_le _, rfl, rfl, rfl, rfl⟩
      · refine ⟨-3, Sc, Sm, ?_, ?_, N, hN⟩
        · simp only [f_X6_run, e_find n h1 hr, x_b2_s, x_o_s, if_neg c1, if_pos c2, x_gt np1, x_l_e, w2, if_true]
        · simp only [f_X7_run, e_isR n h1 hr, x_b2_s, if_neg i_10, e, x_b_s, w3, if_true]
