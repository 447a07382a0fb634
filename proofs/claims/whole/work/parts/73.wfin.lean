/-! write: the late FAULTS -/
section
variable {n tl : Nat} {S0 S1 : x_S}
/-- isFar -/
theorem m_far {a pl : Nat} {S : x_S} (ha : a ≤ 390) (hn : 1000 ≤ n) (h8 : g_sc S 738 = nI a) (h6 : g_sc S 736 = nI pl) (h9 : g_sc S 708 = nI tl) : ∀ k i : Nat, i + k = a → ∀ m, k < m → ∀ f : Int32, (f = 0 ∧ ∀ j, j < i → g_ar S 742 j ≤ nI a) ∨ (f = 1 ∧ ∃ j, j < a ∧ ¬ g_ar S 742 j ≤ nI a) → ∃ f' : Int32, ((f' = 0 ∧ ∀ j, j < a → g_ar S 742 j ≤ nI a) ∨ (f' = 1 ∧ ∃ j, j < a ∧ ¬ g_ar S 742 j ≤ nI a)) ∧ x_loop (fun rec z => f_X7_write_108 n rec z.1 z.2.1 z.2.2) m (S, f, nI i) = if nI tl ≤ nI pl then (if nI a ≤ 60 then (if f' = 0 then f_X7_write_186 n S 0 else f_X7_write_186 n S 9) else f_X7_write_186 n S 8) else f_X7_write_186 n S 7 := by
  intro k
  induction k with
  | zero =>
    intro i hi m hm f hf
    obtain ⟨m, rfl⟩ : ∃ q, m = q + 1 := ⟨m - 1, by omega⟩
    have e : i = a := by omega
    subst e
    refine ⟨f, hf, ?_⟩
    rw [x_loop_s]
    generalize x_loop (fun rec z => f_X7_write_108 n rec z.1 z.2.1 z.2.2) m = R
    show f_X7_write_108 n R S f (nI i) = _
    unfold f_X7_write_108
    simp only [x_l_e]
    rw [h8, if_pos (Int32.le_refl _), h9, h6]
  | succ k ih =>
    intro i hi m hm f hf
    obtain ⟨m, rfl⟩ : ∃ q, m = q + 1 := ⟨m - 1, by omega⟩
    rw [x_loop_s]
    have ih' := ih (i + 1) (by omega) m (by omega)
    generalize x_loop (fun rec z => f_X7_write_108 n rec z.1 z.2.1 z.2.2) m = R at ih'
    show ∃ f', _ ∧ f_X7_write_108 n R S f (nI i) = _
    have i2 : i < 2 ^ 31 := by omega
    have c1 : ¬ nI a ≤ nI i := nI_ge (by omega) (by omega)
    have c3 := k_in (i := i) (L := 400) (by omega) (by omega)
    have c4 := nI_clamp i2
    have step : ∃ g, f_X7_write_108 n R S f (nI i) = R (S, g, nI (i + 1)) ∧ ((g = 0 ∧ ∀ j, j < i + 1 → g_ar S 742 j ≤ nI a) ∨ (g = 1 ∧ ∃ j, j < a ∧ ¬ g_ar S 742 j ≤ nI a)) := by
      unfold f_X7_write_108 f_X7_write_133 f_X7_write_138
      rw [x_l_e, h8, if_neg c1, nI_1]
      rcases hf with ⟨rfl, hf⟩ | ⟨rfl, hf⟩
      · rw [if_pos rfl, x_gt c3, c4, x_l_e, x_l_e]
        by_cases q : g_ar S 742 i ≤ nI a
        · rw [if_pos q]
          refine ⟨0, rfl, Or.inl ⟨rfl, fun j hj => ?_⟩⟩
          by_cases e : j = i
          · subst e; exact q
          · exact hf j (by omega)
        · rw [if_neg q]
          exact ⟨1, rfl, Or.inr ⟨rfl, i, by omega, q⟩⟩
      · rw [if_neg i_1n]
        exact ⟨1, rfl, Or.inr ⟨rfl, hf⟩⟩
    obtain ⟨g, s1, s2⟩ := step
    rw [s1]
    exact ih' g s2
theorem w_judge {pl a : Nat} {sk be : Nat → Nat} {Tc Tm : x_S} (hW : w_W S0 S1 tl pl a 0 sk be Tc Tm) (hn : 1000 ≤ n) : (∃ c, ¬ c = 0 ∧ f_X5_judgeAll n Tc = some (s_sc Tc 504 c) ∧ f_X7_write_97 n Tm = f_X7_write_186 n Tm c) ∨ (a ≤ 60 ∧ (∀ j, j < a → g_ar Tm 742 j ≤ nI a) ∧ f_X5_judgeAll n Tc = some Tc ∧ f_X7_write_97 n Tm = f_X7_write_186 n Tm 0) := by
  obtain ⟨hc, hm, hR, hb⟩ := hW
  have hpl := hc.2.2.2.2.2.2.2.2.1
  have htl := hc.2.2.2.2.2.2.2.2.2.1
  obtain ⟨f, f1, f2⟩ := m_far (n := n) (tl := tl) (pl := pl) (by omega) hn hm.2.2.2.2.1 hm.2.2.1 hm.2.2.2.1 a 0 (by omega) n (by omega) 0 (Or.inl ⟨rfl, fun j hj => absurd hj (by omega)⟩)
  have e97 : f_X7_write_97 n Tm = if nI tl ≤ nI pl then (if nI a ≤ 60 then (if f = 0 then f_X7_write_186 n Tm 0 else f_X7_write_186 n Tm 9) else f_X7_write_186 n Tm 8) else f_X7_write_186 n Tm 7 := by
    unfold f_X7_write_97
    rw [x_l_e, hm.2.1, if_pos rfl]
    exact f2
  rw [e97]
  unfold f_X5_judgeAll
  simp only [x_l_e]
  rw [hc.2.1, if_pos rfl, hc.2.2.1, hc.2.2.2.1, hc.2.2.2.2.2.1]
  obtain ⟨w1, w2, w3⟩ := hR.2.2.2.2.2.1
  by_cases q1 : nI tl ≤ nI pl
  · rw [if_pos q1, if_pos q1]
    by_cases q2 : nI a ≤ 60
    · rw [if_pos q2, if_pos q2]
      have a60 : a ≤ 60 := by rw [k_le (by omega)] at q2; have : (60 : Int32).toInt = 60 := rfl; omega
      rcases f1 with ⟨rfl, f1⟩ | ⟨rfl, j, j1, j2⟩
      · right
        have h : g_sc Tc 506 ≤ nI a := by
          rcases w3 with w3 | ⟨i, i1, i2⟩
          · rw [w3]; exact nI_pos' (by omega)
          · rw [← i2]; exact f1 i i1
        rw [if_pos h, if_pos rfl]
        exact ⟨a60, f1, rfl, rfl⟩
      · left
        have h : ¬ g_sc Tc 506 ≤ nI a := by
          intro q
          rcases w2 j j1 with w | w
          · exact j2 w
          · exact j2 (Int32.le_trans w q)
        rw [if_neg h, if_neg i_1n]
        exact ⟨9, by decide, rfl, rfl⟩
    · rw [if_neg q2, if_neg q2]
      exact Or.inl ⟨8, by decide, rfl, rfl⟩
  · rw [if_neg q1, if_neg q1]
    exact Or.inl ⟨7, by decide, rfl, rfl⟩
/-- what parse and the reference's turns come to -/
theorem w_out {Tc Tm : x_S} (h : w_E S0 S1 tl Tc Tm) (hn : 1000 ≤ n) : (∃ c p Uc Um, ¬ c = 0 ∧ f_X5_parse_117 n Tc = some (c, Uc) ∧ f_X7_write_97 n Tm = some (-10 - c, s_sc (s_sc Um 708 0) 709 p) ∧ g_sc Uc 501 = p ∧ (∃ X w, Uc = s_ps X 4 0 w ∧ frw S0 X) ∧ fr_m S1 Um) ∨ (∃ pl a sk be Uc, a ≤ 60 ∧ w_W S0 S1 tl pl a 0 sk be Tc Tm ∧ (∀ j, j < a → g_ar Tm 742 j ≤ nI a) ∧ f_X5_parse_117 n Tc = some (0, Uc) ∧ Uc = s_ps Tc 4 0 (nI a) ∧ f_X7_write_97 n Tm = f_X7_write_186 n Tm 0) := by
  have fc : ∀ {X : x_S} {c : Int32}, 0 < g_np X → g_sc X 504 = c → x_let (g_sc X 505) (fun v3 => x_let (if (60 : Int32) < v3 then (60 : Int32) else v3) (fun v4 => x_g (0 < g_np X) (x_let (s_ps X 4 0 v4) (fun S => x_let (g_sc S 504) (fun v5 => some (v5, S)))))) = some (c, s_ps X 4 0 (if (60 : Int32) < g_sc X 505 then 60 else g_sc X 505)) := by
    intro X c h1 h2
    simp only [x_l_e]
    rw [x_gt h1, q_sc_ps, h2]
  have fm : ∀ {X : x_S} {c p : Int32}, ¬ c = 0 → g_sc X 737 = c → g_sc X 736 = p → f_X7_write_189 n X = some (-10 - c, s_sc (s_sc X 708 0) 709 p) := by
    intro X c p h1 h2 h3
    unfold f_X7_write_189
    rw [x_l_e, x_l_e, y_sn _ _ _ _ (by decide), h2, if_neg h1, x_l_e, y_sn _ _ _ _ (by decide), h3, x_l_e, x_l_e, y_sn _ _ _ _ (by decide), y_sn _ _ _ _ (by decide), h2]
  rcases h with ⟨pl, a, sk, be, hW⟩ | ⟨v, p, M, g1, g2, g3⟩
  · have hnp : 0 < g_np Tc := hW.1.2.2.2.2.2.2.2.1
    rcases w_judge (n := n) hW hn with ⟨c, c1, c2, c3⟩ | ⟨a60, c1, c2, c3⟩
    · left
      refine ⟨c, nI pl, _, s_sc Tm 737 c, c1, ?_, ?_, ?_, ⟨s_sc Tc 504 c, if (60 : Int32) < g_sc (s_sc Tc 504 c) 505 then 60 else g_sc (s_sc Tc 504 c) 505, rfl, hW.1.1.tr (frw_sc _ 504 _ (by decide) (by decide))⟩, hW.2.1.1.tr (fr_m_sc _ 737 _ (by decide))⟩
      · unfold f_X5_parse_117
        rw [c2, x_b_s]
        exact fc hnp (y_sc _ _ _)
      · rw [c3]
        unfold f_X7_write_186
        rw [x_l_e]
        exact fm c1 (y_sc _ _ _) ((y_sn _ _ _ _ (by decide)).trans hW.2.1.2.2.1)
      · rw [q_sc_ps, y_sn _ _ _ _ (by decide)]
        exact hW.1.2.2.1
    · right
      refine ⟨pl, a, sk, be, _, a60, hW, c1, ?_, rfl, c3⟩
      unfold f_X5_parse_117
      rw [c2, x_b_s, fc hnp hW.1.2.1, hW.1.2.2.2.2.2.1, if_neg (show ¬ (60 : Int32) < nI a from nI_nlt (a := 60) (b := a) a60 (by decide))]
  · left
    refine ⟨v, p, _, Tm, g1.2.1, ?_, ?_, ?_, ⟨Tc, if (60 : Int32) < g_sc Tc 505 then 60 else g_sc Tc 505, rfl, g1.1⟩, g3.1⟩
    · unfold f_X5_parse_117 f_X5_judgeAll
      rw [x_l_e, g1.2.2.1, if_neg g1.2.1, x_b_s]
      exact fc g1.2.2.2.2.2.2 g1.2.2.1
    · unfold f_X7_write_97
      rw [x_l_e, g3.2.2.1, if_neg g3.2.1]
      exact fm g3.2.1 g3.2.2.1 g3.2.2.2.1
    · rw [q_sc_ps]
      exact g1.2.2.2.1
end
