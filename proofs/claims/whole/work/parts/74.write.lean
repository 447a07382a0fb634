/-! write -/
/-- behind a FAULT -/
theorem iv_wf {N : Nat} {Sc Sm X Um : x_S} {w p : Int32} (h : iv_N N Sc Sm) (f1 : frw Sc X) (f2 : fr_m Sm Um) : iv_N N (s_sc (s_sc (s_ps X 4 0 w) 606 0) 608 p) (s_sc (s_sc Um 708 0) 709 p) := by
  obtain ⟨⟨a1, a2, a3, a4, a5, a6, a7⟩, ⟨k2, k2b⟩, -, k4, ⟨r1, r2, ⟨o, o1, o2, o3, o4⟩, r4⟩, k6, k7⟩ := h
  obtain ⟨c1, c2, c3, c4, c5, c6, c7⟩ := f1
  have sc : ∀ j, j < 500 ∨ 600 ≤ j → j ≠ 606 → j ≠ 608 → g_sc (s_sc (s_sc (s_ps X 4 0 w) 606 0) 608 p) j = g_sc Sc j := fun j h1 h2 h3 => by rw [y_sn _ _ _ _ h3, y_sn _ _ _ _ h2, q_sc_ps, c1 j h1]
  have ms : ∀ j, j ≤ 714 → j ≠ 708 → j ≠ 709 → g_sc (s_sc (s_sc Um 708 0) 709 p) j = g_sc Sm j := fun j h1 h2 h3 => by rw [y_sn _ _ _ _ h3, y_sn _ _ _ _ h2, f2.1 j h1]
  have ps : ∀ k r, g_ps (s_sc (s_sc (s_ps X 4 0 w) 606 0) 608 p) k (r + 1) = g_ps Sc k (r + 1) := fun k r => by rw [q_ps_sc, q_ps_sc, q_ps_ps, if_neg (by omega), c4]
  have one : ∀ {L r}, iv_one L r Sc Sm → iv_one L r (s_sc (s_sc (s_ps X 4 0 w) 606 0) 608 p) (s_sc (s_sc Um 708 0) 709 p) := fun {L r} hL => iv_one_mono hL (f2.2 701 r (by decide)) (fun k => ps k r) (fun k i => c5 k (r + 1) i (by omega)) (fun i _ => ⟨f2.2 702 _ (by decide), f2.2 703 _ (by decide), f2.2 704 _ (by decide), f2.2 705 _ (by decide)⟩)
  refine ⟨⟨a1, ?_, ?_, ?_, fun r hr => ?_, fun r hr => ?_, fun r hr => ?_⟩, ⟨fun x i hi => ?_, fun x y i hi => ?_⟩, ⟨0, by decide, ?_, ?_, fun i hi => absurd hi (by omega)⟩, fun i hi => ?_, ⟨?_, ?_, ⟨o, o1, ?_, ?_, fun i hi => ?_⟩, fun i hi => ?_⟩, ?_, ?_⟩
  · rw [ms 700 (by decide) (by decide) (by decide)]; exact a2
  · rw [sc 601 (by decide) (by decide) (by decide)]; exact a3
  · show g_np X = N + 1
    rw [c3]; exact a4
  · show g_ra X 600 r = _
    rw [c7]; exact a5 r hr
  · show g_ra X 600 r = _
    rw [c7]; exact a6 r hr
  · obtain ⟨L, hL⟩ := a7 r hr
    exact ⟨L, one hL⟩
  · show i < g_np X
    have hi' : g_rf X x = some i := hi
    rw [c3]
    rcases c6 x with e | ⟨-, e⟩
    · rw [e] at hi'; exact k2 x i hi'
    · rw [e] at hi'
      have := Option.some.inj hi'
      omega
  · show i < g_np X
    have hi' : g_ra X x y = some i := hi
    rw [c7] at hi'
    rw [c3]
    exact k2b x y i hi'
  · rw [y_sn _ _ _ _ (by decide), y_sc]; rfl
  · rw [y_sn _ _ _ _ (by decide), y_sc]; rfl
  · show g_ar X 609 i = g_ar Um 706 i
    rw [c2 609 i (by decide), f2.2 706 i (by decide)]; exact k4 i hi
  · rw [sc 300 (by decide) (by decide) (by decide), ms 710 (by decide) (by decide) (by decide)]; exact r1
  · rw [sc 301 (by decide) (by decide) (by decide), ms 711 (by decide) (by decide) (by decide)]; exact r2
  · rw [sc 302 (by decide) (by decide) (by decide)]; exact o2
  · rw [ms 712 (by decide) (by decide) (by decide)]; exact o3
  · show g_ar X 303 i = g_ar Um 713 i
    rw [c2 303 i (by decide), f2.2 713 i (by decide)]; exact o4 i hi
  · show g_ar X 304 i = g_ar Um 714 i
    rw [c2 304 i (by decide), f2.2 714 i (by decide)]; exact r4 i hi
  · rw [y_sc, y_sc]
  · rcases k7 with k7 | ⟨r, L, q1, q2, q3, q4, q5⟩
    · exact Or.inl ((sc 603 (by decide) (by decide) (by decide)).trans k7)
    · exact Or.inr ⟨r, L, q1, (sc 603 (by decide) (by decide) (by decide)).trans q2, one q3, iv_whole_mono q3.1 q4 (fun i _ => f2.2 705 _ (by decide)), iv_tree_mono q3.1 q5 (fun i _ => ⟨f2.2 702 _ (by decide), f2.2 703 _ (by decide), f2.2 704 _ (by decide), f2.2 705 _ (by decide)⟩) (fun k h1 h2 => sc k (by omega) (by omega) (by omega)) (fun k z h1 h2 => c2 k z (by omega))⟩
/-- takeOver -/
def o_fl (lo a j : Nat) (S T : x_S) : Prop := (∀ x, g_sc T x = g_sc S x) ∧ (∀ x y, g_ar T x y = g_ar S x y) ∧ g_np T = g_np S ∧ (∀ x y, g_ps T x y = g_ps S x y) ∧ (∀ x, g_rf T x = g_rf S x) ∧ (∀ x y, g_ra T x y = g_ra S x y) ∧ (∀ x y z, ¬ (y = j ∧ lo ≤ z) → g_pa T x y z = g_pa S x y z) ∧ ∀ i, lo ≤ i → i < a → g_pa T 0 j i = g_pa S 0 0 i ∧ g_pa T 1 j i = n_a (g_pa S 0 0 i) (g_pa S 1 0 i) ∧ g_pa T 2 j i = n_b (g_pa S 0 0 i) (g_pa S 2 0 i) ∧ g_pa T 3 j i = n_c (g_pa S 0 0 i) (g_pa S 3 0 i)
theorem c_over {n a j : Nat} (ha : a ≤ 60) (hj : 0 < j) : ∀ k i : Nat, i + k = a → ∀ m, k < m → ∀ S : x_S, j < g_np S → g_ps S 4 j = nI a → ∃ T, x_loop (fun rec z => f_X2_takeOver_10 n rec z.1 z.2.1 z.2.2.1 z.2.2.2) m (S, j, 0, nI i) = x_b (f_X2_judgeWhole n T j) (fun S => some S) ∧ o_fl i a j S T := by
  intro k
  induction k with
  | zero =>
    intro i hi m hm S h1 h4
    obtain ⟨m, rfl⟩ : ∃ q, m = q + 1 := ⟨m - 1, by omega⟩
    refine ⟨S, ?_, fun _ => rfl, fun _ _ => rfl, rfl, fun _ _ => rfl, fun _ => rfl, fun _ _ => rfl, fun _ _ _ _ => rfl, fun q h1 h2 => absurd h1 (by omega)⟩
    rw [x_loop_s]
    generalize x_loop (fun rec z => f_X2_takeOver_10 n rec z.1 z.2.1 z.2.2.1 z.2.2.2) m = R
    show f_X2_takeOver_10 n R S j 0 (nI i) = _
    unfold f_X2_takeOver_10
    rw [x_gt h1, x_l_e, h4, if_pos (nI_le (by omega) (by omega)), x_gt h1]
  | succ k ih =>
    intro i hi m hm S h1 h4
    obtain ⟨m, rfl⟩ : ∃ q, m = q + 1 := ⟨m - 1, by omega⟩
    rw [x_loop_s]
    have ih' := ih (i + 1) (by omega) m (by omega)
    generalize x_loop (fun rec z => f_X2_takeOver_10 n rec z.1 z.2.1 z.2.2.1 z.2.2.2) m = R at ih'
    show ∃ T, f_X2_takeOver_10 n R S j 0 (nI i) = _ ∧ _
    have i2 : i < 2 ^ 31 := by omega
    have c1 : ¬ nI a ≤ nI i := nI_ge (by omega) (by omega)
    have c3 := k_in2 (show i < 60 by omega) i2
    have c4 := nI_clamp i2
    have h0 : 0 < g_np S := by omega
    obtain ⟨T, t1, t2⟩ := ih' (s_put S j i (g_pa S 0 0 i) (g_pa S 1 0 i) (g_pa S 2 0 i) (g_pa S 3 0 i)) h1 h4
    refine ⟨T, ?_, ?_⟩
    · unfold f_X2_takeOver_10
      simp only [x_l_e, x_gt h1, x_gt h0, h4, if_neg c1, c4, x_gt c3, e_put n S j i _ _ _ _ h1 (show i < 60 by omega), x_b_s, nI_1]
      exact t1
    · obtain ⟨q1, q2, q3, q4, q5, q6, q7, q8⟩ := t2
      have ep : ∀ x y z, ¬ (y = j ∧ z = i) → g_pa (s_put S j i (g_pa S 0 0 i) (g_pa S 1 0 i) (g_pa S 2 0 i) (g_pa S 3 0 i)) x y z = g_pa S x y z := by
        intro x y z hq
        unfold s_put
        rw [q_pa_pa, if_neg (fun z => hq z.2), q_pa_pa, if_neg (fun z => hq z.2), q_pa_pa, if_neg (fun z => hq z.2), q_pa_pa, if_neg (fun z => hq z.2)]
      refine ⟨fun x => q1 x, fun x y => q2 x y, q3, fun x y => q4 x y, fun x => q5 x, fun x y => q6 x y, fun x y z hq => ?_, fun l h1 h2 => ?_⟩
      · rw [q7 x y z (by omega), ep x y z (by omega)]
      · by_cases e : l = i
        · subst e
          rw [q7 0 j l (by omega), q7 1 j l (by omega), q7 2 j l (by omega), q7 3 j l (by omega)]
          unfold s_put
          simp only [q_pa_pa, Nat.reduceEqDiff, false_and, if_false, true_and, if_true, and_self]
        · have := q8 l (by omega) h2
          rw [ep 0 0 l (by omega), ep 1 0 l (by omega), ep 2 0 l (by omega), ep 3 0 l (by omega)] at this
          exact this
/-- the reference's ACTS of its new ROUTINE -/
def p_fl (lo a N : Nat) (S T : x_S) : Prop := (∀ x, g_sc T x = g_sc S x) ∧ (∀ x y, ¬ (702 ≤ x ∧ x ≤ 705 ∧ 60 * N ≤ y) → g_ar T x y = g_ar S x y) ∧ (∀ x y, 705 < x → g_ar T x y = g_ar S x y) ∧ (∀ x y, y < 60 * N + lo → g_ar T x y = g_ar S x y) ∧ ∀ i, lo ≤ i → i < a → g_ar T 702 (60 * N + i) = g_ar S 739 i ∧ g_ar T 703 (60 * N + i) = n_a (g_ar S 739 i) (g_ar S 740 i) ∧ g_ar T 704 (60 * N + i) = n_b (g_ar S 739 i) (g_ar S 741 i) ∧ g_ar T 705 (60 * N + i) = n_c (g_ar S 739 i) (g_ar S 742 i)
theorem m_244 {n a N : Nat} (ha : a ≤ 60) (hN : N < 12) : ∀ k i : Nat, i + k = a → ∀ m, k < m → ∀ S : x_S, g_sc S 738 = nI a → ∃ T, x_loop (fun rec z => f_X7_write_244 n rec z.1 z.2.1 z.2.2) m (S, nI N, nI i) = some (nI N, T) ∧ p_fl i a N S T := by
  intro k
  induction k with
  | zero =>
    intro i hi m hm S h4
    obtain ⟨m, rfl⟩ : ∃ q, m = q + 1 := ⟨m - 1, by omega⟩
    refine ⟨S, ?_, fun _ => rfl, fun _ _ _ => rfl, fun _ _ _ => rfl, fun _ _ _ => rfl, fun q h1 h2 => absurd h1 (by omega)⟩
    rw [x_loop_s]
    generalize x_loop (fun rec z => f_X7_write_244 n rec z.1 z.2.1 z.2.2) m = R
    show f_X7_write_244 n R S (nI N) (nI i) = _
    unfold f_X7_write_244
    rw [x_l_e, h4, if_pos (nI_le (by omega) (by omega))]
  | succ k ih =>
    intro i hi m hm S h4
    obtain ⟨m, rfl⟩ : ∃ q, m = q + 1 := ⟨m - 1, by omega⟩
    rw [x_loop_s]
    have ih' := ih (i + 1) (by omega) m (by omega)
    generalize x_loop (fun rec z => f_X7_write_244 n rec z.1 z.2.1 z.2.2) m = R at ih'
    show ∃ T, f_X7_write_244 n R S (nI N) (nI i) = _ ∧ _
    have i2 : i < 2 ^ 31 := by omega
    have c1 : ¬ nI a ≤ nI i := nI_ge (by omega) (by omega)
    have c3 := k_in (i := i) (L := 400) (by omega) (by omega)
    have c5 := k_in2 (show i < 400 by omega) i2
    have c4 := nI_clamp i2
    obtain ⟨T, t1, t2⟩ := ih' (s_pum S (60 * N + i) (g_ar S 739 i) (g_ar S 740 i) (g_ar S 741 i) (g_ar S 742 i)) h4
    refine ⟨T, ?_, ?_⟩
    · unfold f_X7_write_244
      simp only [x_l_e]
      rw [h4, if_neg c1, x_gt c3, x_gt c3, x_gt c3, x_gt c3, c4, e_pum n S N i _ _ _ _ hN (by omega), x_b_s, nI_1]
      exact t1
    · obtain ⟨q1, q2, q3, q4, q5⟩ := t2
      have ep : ∀ x y, (x < 702 ∨ 705 < x ∨ ¬ y = 60 * N + i) → g_ar (s_pum S (60 * N + i) (g_ar S 739 i) (g_ar S 740 i) (g_ar S 741 i) (g_ar S 742 i)) x y = g_ar S x y := by
        intro x y hq
        unfold s_pum
        rw [q_ar_ar, if_neg (by omega), q_ar_ar, if_neg (by omega), q_ar_ar, if_neg (by omega), q_ar_ar, if_neg (by omega)]
      refine ⟨fun x => q1 x, fun x y hq => ?_, fun x y hx => ?_, fun x y hy => ?_, fun l h1 h2 => ?_⟩
      · rw [q2 x y hq, ep x y (by omega)]
      · rw [q3 x y hx, ep x y (by omega)]
      · rw [q4 x y (by omega), ep x y (by omega)]
      · by_cases e : l = i
        · subst e
          rw [q4 702 _ (by omega), q4 703 _ (by omega), q4 704 _ (by omega), q4 705 _ (by omega)]
          unfold s_pum
          simp only [q_ar_ar, Nat.reduceEqDiff, false_and, if_false, true_and, if_true, and_self]
        · have := q5 l (by omega) h2
          rw [ep 739 l (by omega), ep 740 l (by omega), ep 741 l (by omega), ep 742 l (by omega)] at this
          exact this
