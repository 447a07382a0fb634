/-! READING: treeOf, and the reference's read beside it -/
theorem rd_new {S0 Tc : x_S} {ri L m : Nat} {K A B C : Nat → Int32} (hL : L ≤ 60) (hri : ri < g_np S0) (hps : g_ps S0 4 ri = nI L) (hK : ∀ i, i < L → g_pa S0 0 ri i = K i ∧ g_pa S0 1 ri i = A i ∧ g_pa S0 2 ri i = B i ∧ g_pa S0 3 ri i = C i ∧ ((K i = 2 ∨ K i = 3) → ∃ t, t ≤ L ∧ C i = nI t)) (hm : 1000 ≤ m) (hT : f_X1_readWhole m S0 ri = some Tc) : rd_P L K A B C (g_sc Tc 408) (g_sc Tc 409) (g_sc Tc 410) (g_sc Tc 411) (fun z => g_ar Tc 400 z) (fun z => g_ar Tc 401 z) (fun z => g_ar Tc 402 z) (fun z => g_ar Tc 403 z) (fun z => g_ar Tc 404 z) (fun z => g_ar Tc 405 z) (fun z => g_ar Tc 406 z) (fun z => g_ar Tc 407 z) := by
  intro m2 r S hm2 hr h701 hS
  have hA : r_A S0 S ri r L := ⟨hr, hL, fun i hi => by
    obtain ⟨a1, a2, a3, a4⟩ := hS i hi
    rw [a1, a2, a3, a4]
    exact hK i hi⟩
  obtain ⟨n, wc, kk, en, ow, fm, hi, dp, D, T, Uc, Tm, z1, z2, z3⟩ := t_read (m := m) (m2 := m2) hA hri hps h701 hm hm2
  rw [hT] at z1
  have e := Option.some.inj z1
  subst e
  obtain ⟨x1, x2, x3, x4, x5, x6, x7, x8, x9, x10, ⟨t1, t2, t3⟩, x12, ⟨y1, y2, y3, y4, y5⟩⟩ := z3
  have t1' : T = tx_L (fun i => g_ar Tc 400 i) (fun i => g_ar Tm 721 i) (fun i => g_ar Tm 722 i) (fun i => g_ar Tm 723 i) (fun i => g_ar Tc 403 i) (fun i => g_ar Tc 404 i) n := by
    rw [t1]
    unfold tx_pend
    rw [if_neg (fun q => absurd q.1 (by decide)), List.append_nil]
  refine ⟨Tm, z2, x2.1, n, D, ow, hi, dp, kk, en, _, x1.2.2.2.2.1, by omega, x2.2.1, x3, x7, x8, x9, x10, ⟨?_, ?_, ?_⟩, x12.2⟩
  · rw [← t1', ← t2]; omega
  · rw [← t1', ← t2]; exact x1.2.2.2.2.2
  · rw [← t1']; exact t3.1
theorem iv_jump {L r i : Nat} {Sc Sm : x_S} (h : iv_one L r Sc Sm) (hw : iv_whole L r Sm) (hi : i < L) (hj : g_ar Sm 702 (60 * r + i) = 2 ∨ g_ar Sm 702 (60 * r + i) = 3) : ∃ t, t ≤ L ∧ g_ar Sm 705 (60 * r + i) = nI t := by
  obtain ⟨-, -, -, -, ok⟩ := h.2.2.2.1 i hi
  have hc : 0 ≤ g_ar Sm 705 (60 * r + i) := by
    rcases ok with ⟨a, b, c⟩ | ⟨a, b, c, d⟩ | ⟨a, b, c, d, e⟩ | ⟨a, b, c, d, e, f, g⟩ | ⟨a, b, c, d⟩ | ⟨a, b, c, d, e⟩
    · rw [c]; decide
    · rw [d]; decide
    · exact d
    · exact f
    · rw [d]; decide
    · rw [e]; decide
  have hl := hw i hi
  have := h.1
  rw [Int32.le_iff_toInt_le, nI_toInt (by omega)] at hl
  rw [Int32.le_iff_toInt_le] at hc
  have z : (0 : Int32).toInt = 0 := rfl
  rw [z] at hc
  refine ⟨(g_ar Sm 705 (60 * r + i)).toInt.toNat, by omega, ?_⟩
  symm
  rw [k_eq (by omega)]
  omega
theorem e_tree (m : Nat) (hm : 1000 ≤ m) {N r L : Nat} {Sc Sm : x_S} (h : iv_N N Sc Sm) (hr : r < N) (h1 : iv_one L r Sc Sm) (hw : iv_whole L r Sm) : ∃ Sc1 Sm1, f_X6_treeOf m Sc (nI r) (r + 1) = some Sc1 ∧ f_X7_read m Sm (nI r) = some Sm1 ∧ iv_N N Sc1 Sm1 ∧ fr_m Sm Sm1 ∧ rd_R L (g_sc Sc1 408) (g_sc Sc1 409) (g_sc Sc1 410) (g_sc Sc1 411) (fun z => g_ar Sc1 400 z) (fun z => g_ar Sc1 401 z) (fun z => g_ar Sc1 402 z) (fun z => g_ar Sc1 403 z) (fun z => g_ar Sc1 404 z) (fun z => g_ar Sc1 405 z) (fun z => g_ar Sc1 406 z) (fun z => g_ar Sc1 407 z) Sm1 := by
  have hrt := h.1
  have hN := hrt.1
  have hnp := hrt.2.2.2.1
  have hr12 : r < 12 := by omega
  by_cases hc : g_sc Sc 603 = nI r
  · rcases h.2.2.2.2.2.2 with q | ⟨r', L', q1, q2, q3, q4, q5⟩
    · rw [hc] at q; exact absurd q (nI_m1 (by omega))
    · have e : r' = r := by rw [hc] at q2; exact ((nI_eq (by omega) (by omega)).mp q2).symm
      subst e
      have eL : L' = L := by
        have z := q3.2.1
        rw [h1.2.1] at z
        have := h1.1
        have := q3.1
        exact ((nI_eq (by omega) (by omega)).mp z).symm
      subst eL
      obtain ⟨Sm1, z1, z2, z3⟩ := q5 m r' Sm hm hr12 h1.2.1 (fun i hi => ⟨(if_pos hi).symm, (if_pos hi).symm, (if_pos hi).symm, (if_pos hi).symm⟩)
      refine ⟨Sc, Sm1, ?_, z1, iv_fr h (fr_c_rf Sc) z2, z2, z3⟩
      unfold f_X6_treeOf
      rw [x_l_e, if_pos hc]
  · have hA : r_A Sc Sm (r + 1) r L := ⟨hr12, h1.1, fun i hi => by
      obtain ⟨a1, a2, a3, a4, -⟩ := h1.2.2.2.1 i hi
      exact ⟨a1, a2, a3, a4, fun q => iv_jump h1 hw hi q⟩⟩
    obtain ⟨n, wc, kk, en, ow, fm, hi, dp, D, T, Tc, Tm, z1, z2, z3⟩ := t_read (m := m) (m2 := m) hA (by omega) h1.2.2.1 h1.2.1 hm hm
    have f1 := z3.1.1
    have f2 := z3.2.1.1
    obtain ⟨c1, c2, c3, c4, c5, c6, c7⟩ := f1
    have one1 : iv_one L r (s_sc Tc 603 (nI r)) Tm := iv_one_fr h1 (fun x y => c4 x y) (fun x y z => c5 x y z) f2
    have hrd : rd_P L (fun i => if i < L then g_ar Tm 702 (60 * r + i) else 0) (fun i => if i < L then g_ar Tm 703 (60 * r + i) else 0) (fun i => if i < L then g_ar Tm 704 (60 * r + i) else 0) (fun i => if i < L then g_ar Tm 705 (60 * r + i) else 0) (g_sc Tc 408) (g_sc Tc 409) (g_sc Tc 410) (g_sc Tc 411) (fun z => g_ar Tc 400 z) (fun z => g_ar Tc 401 z) (fun z => g_ar Tc 402 z) (fun z => g_ar Tc 403 z) (fun z => g_ar Tc 404 z) (fun z => g_ar Tc 405 z) (fun z => g_ar Tc 406 z) (fun z => g_ar Tc 407 z) := rd_new (m := m) h1.1 (show r + 1 < g_np Sc by omega) h1.2.2.1 (fun i hi => by
      obtain ⟨a1, a2, a3, a4, -⟩ := h1.2.2.2.1 i hi
      simp only [if_pos hi]
      rw [f2.2 702 _ (by decide), f2.2 703 _ (by decide), f2.2 704 _ (by decide), f2.2 705 _ (by decide)]
      exact ⟨a1, a2, a3, a4, fun q => iv_jump h1 hw hi q⟩) hm z1
    obtain ⟨Sm1, w1, w2, w3⟩ := hrd m r Sm hm hr12 h1.2.1 (fun i hi => by
      simp only [if_pos hi]
      rw [f2.2 702 _ (by decide), f2.2 703 _ (by decide), f2.2 704 _ (by decide), f2.2 705 _ (by decide)]
      exact ⟨rfl, rfl, rfl, rfl⟩)
    rw [z2] at w1
    have e := Option.some.inj w1
    subst e
    have sn : ∀ x, x ≠ 603 → g_sc (s_sc Tc 603 (nI r)) x = g_sc Tc x := fun x hx => y_sn _ _ _ _ hx
    refine ⟨s_sc Tc 603 (nI r), Tm, ?_, z2, ?_, f2, ?_⟩
    · unfold f_X6_treeOf
      rw [x_l_e, if_neg hc, z1, x_b_s, x_l_e]
    · obtain ⟨h1', ⟨k2, k2b⟩, ⟨t, t1, t2, t3, t4⟩, k4, ⟨r1, r2, ⟨o, o1, o2, o3, o4⟩, r4⟩, k6, k7⟩ := h
      refine ⟨iv_rt_fr h1' ((sn 601 (by decide)).trans (c1 601 (by omega))) c3 (fun y => c7 600 y) c4 c5 f2, ⟨fun x i hi => ?_, fun x y i hi => ?_⟩, ⟨t, t1, ((sn 606 (by decide)).trans (c1 606 (by omega))).trans t2, (f2.1 708 (by decide)).trans t3, fun i hi => ?_⟩, fun i hi => ?_, ⟨?_, ?_, ⟨o, o1, ((sn 302 (by decide)).trans (c1 302 (by omega))).trans o2, (f2.1 712 (by decide)).trans o3, fun i hi => ?_⟩, fun i hi => ?_⟩, ?_, Or.inr ⟨r, L, hr, y_sc _ _ _, one1, iv_whole_mono h1.1 hw (fun i _ => f2.2 705 _ (by decide)), ?_⟩⟩
      · show i < g_np Tc
        rw [c3]
        have hi' : g_rf Tc x = some i := hi
        by_cases e : x = 101
        · subst e
          rw [z3.1.2.1] at hi'
          have := Option.some.inj hi'
          omega
        · rw [c6 x e] at hi'; exact k2 x i hi'
      · show i < g_np Tc
        rw [c3]
        have hi' : g_ra Tc x y = some i := hi
        rw [c7] at hi'; exact k2b x y i hi'
      · show g_ar Tc 605 i = _
        rw [c2 605 i (by omega), f2.2 707 i (by decide)]; exact t4 i hi
      · show g_ar Tc 609 i = _
        rw [c2 609 i (by omega), f2.2 706 i (by decide)]; exact k4 i hi
      · rw [sn 300 (by decide), c1 300 (by omega), f2.1 710 (by decide)]; exact r1
      · rw [sn 301 (by decide), c1 301 (by omega), f2.1 711 (by decide)]; exact r2
      · show g_ar Tc 303 i = _
        rw [c2 303 i (by omega), f2.2 713 i (by decide)]; exact o4 i hi
      · show g_ar Tc 304 i = _
        rw [c2 304 i (by omega), f2.2 714 i (by decide)]; exact r4 i hi
      · rw [sn 608 (by decide), c1 608 (by omega), f2.1 709 (by decide)]; exact k6
      · unfold iv_tree
        rw [sn 408 (by decide), sn 409 (by decide), sn 410 (by decide), sn 411 (by decide)]
        exact hrd
    · rw [sn 408 (by decide), sn 409 (by decide), sn 410 (by decide), sn 411 (by decide)]
      exact w3
