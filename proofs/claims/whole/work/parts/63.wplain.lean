/-! write: a PLAIN STATEMENT -/
def w_ok (k x y z : Int32) : Prop := (k = 0 ∧ y = 0 ∧ z = 0) ∨ (k = 1 ∧ (0 ≤ x ∧ x ≤ 3) ∧ z = 0) ∨ (k = 2 ∧ x = 0 ∧ y = 0 ∧ 0 ≤ z) ∨ (k = 3 ∧ (0 ≤ x ∧ x ≤ 3) ∧ (0 ≤ y ∧ y ≤ 5) ∧ 0 ≤ z) ∨ (k = 4 ∧ x = 0 ∧ y = 0 ∧ z = 0) ∨ (k = 5 ∧ (0 ≤ x ∧ x ≤ 11) ∧ y = 0 ∧ z = 0)
theorem w_ok_n {k x y z : Int32} (h : w_ok k x y z) : n_a k x = x ∧ n_b k y = y ∧ n_c k z = z := by
  rcases h with ⟨rfl, rfl, rfl⟩ | ⟨rfl, -, rfl⟩ | ⟨rfl, rfl, rfl, -⟩ | ⟨rfl, -, -, -⟩ | ⟨rfl, rfl, rfl, rfl⟩ | ⟨rfl, -, rfl, rfl⟩ <;> exact ⟨rfl, rfl, rfl⟩
def w_okx (k x : Int32) : Prop := k = 0 ∨ (k = 1 ∧ (0 ≤ x ∧ x ≤ 3)) ∨ (k = 4 ∧ x = 0) ∨ (k = 5 ∧ (0 ≤ x ∧ x ≤ 11))
theorem w_okx_d (n : Nat) {k : Int32} (hk : k = 0 ∨ k = 1 ∨ k = 4 ∨ k = 5) (x : Int32) : (w_okx k x ∧ f_X6_mayHaveA n k x = some 1 ∧ ((k = 4 ∧ x = 0) ∨ (¬ k = 4 ∧ f_X7_isAct n k x 0 0 = some 1))) ∨ (f_X6_mayHaveA n k x = some 0 ∧ ((k = 4 ∧ ¬ x = 0) ∨ (¬ k = 4 ∧ f_X7_isAct n k x 0 0 = some 0))) := by
  rcases hk with rfl | rfl | rfl | rfl
  · exact Or.inl ⟨Or.inl rfl, rfl, Or.inr ⟨by decide, rfl⟩⟩
  · have e1 : f_X6_mayHaveA n 1 x = f_X6_mayHaveA_42 n x := rfl
    have e2 : f_X7_isAct n 1 x 0 0 = x_b (f_X7_in n x 0 3) (fun v2 => x_g (v2 = 0 ∨ v2 = 1) (some v2)) := rfl
    rw [e1, e2, e_mA42, e_in, x_b_s]
    by_cases h : 0 ≤ x ∧ x ≤ 3
    · rw [if_pos h]
      exact Or.inl ⟨Or.inr (Or.inl ⟨rfl, h⟩), rfl, Or.inr ⟨by decide, rfl⟩⟩
    · rw [if_neg h]
      exact Or.inr ⟨rfl, Or.inr ⟨by decide, rfl⟩⟩
  · have e1 : f_X6_mayHaveA n 4 x = f_X6_mayHaveA_73 n x := rfl
    rw [e1]
    unfold f_X6_mayHaveA_73
    rw [z_g0, z_g1]
    by_cases h : x = 0
    · rw [if_pos h]
      exact Or.inl ⟨Or.inr (Or.inr (Or.inl ⟨rfl, h⟩)), rfl, Or.inl ⟨rfl, h⟩⟩
    · rw [if_neg h]
      exact Or.inr ⟨rfl, Or.inl ⟨rfl, h⟩⟩
  · have e2 : f_X7_isAct n 5 x 0 0 = x_b (f_X7_in n x 0 11) (fun v12 => if v12 = 0 then some 0 else some 1) := rfl
    rw [e_mA5, e2, e_in, x_b_s]
    by_cases h : 0 ≤ x ∧ x ≤ 11
    · rw [if_pos h]
      exact Or.inl ⟨Or.inr (Or.inr (Or.inr ⟨rfl, h⟩)), rfl, Or.inr ⟨by decide, rfl⟩⟩
    · rw [if_neg h]
      exact Or.inr ⟨rfl, Or.inr ⟨by decide, rfl⟩⟩
theorem w_oky_d (n : Nat) {k : Int32} (hk : k = 0 ∨ k = 1 ∨ k = 4 ∨ k = 5) (y : Int32) : f_X6_mayHaveB n k y = some (if k = 1 ∨ y = 0 then 1 else 0) := by
  have e : ∀ q : Int32, ¬ q = 1 → ¬ q = 3 → f_X6_mayHaveB n q y = some (if q = 1 ∨ y = 0 then 1 else 0) := by
    intro q h1 h3
    unfold f_X6_mayHaveB
    rw [if_neg h1, if_neg h3, z_g0, z_g1]
    by_cases h : y = 0
    · rw [if_pos h, if_pos (Or.inr h)]
    · rw [if_neg h, if_neg (fun z => z.elim h1 h)]
  rcases hk with rfl | rfl | rfl | rfl
  · exact e 0 (by decide) (by decide)
  · rw [if_pos (Or.inl rfl)]; rfl
  · exact e 4 (by decide) (by decide)
  · exact e 5 (by decide) (by decide)
section
variable {n tl pl a d : Nat} {S0 S1 Sc Sm : x_S}
theorem w_pA (hc : c_b S0 tl pl a d Sc) (hm : m_b S1 tl pl a d Sm) (ht : ∀ i, i < tl → g_ar S0 605 i = g_ar S1 707 i) {k : Int32} (hk : k = 0 ∨ k = 1 ∨ k = 4 ∨ k = 5) : (∃ u Sc1 u' Sm1, f_X5_takeA n Sc k = some (u, Sc1) ∧ f_X7_writeAct_36 n Sm k = f_X7_writeAct_75 n Sm1 k u' ∧ w_F S0 S1 Sc1 Sm1) ∨ (pl < tl ∧ ∃ u, w_okx k u ∧ f_X5_takeA n Sc k = some (u, s_sc Sc 501 (nI (pl + 1))) ∧ f_X7_writeAct_36 n Sm k = f_X7_writeAct_75 n (s_sc Sm 736 (nI (pl + 1))) k u ∧ c_b S0 tl (pl + 1) a d (s_sc Sc 501 (nI (pl + 1))) ∧ m_b S1 tl (pl + 1) a d (s_sc Sm 736 (nI (pl + 1)))) := by
  unfold f_X5_takeA f_X7_writeAct_36
  by_cases hp : pl < tl
  · obtain ⟨e1, g1⟩ := c_take (n := n) hc hp
    obtain ⟨e2, g2⟩ := m_take (n := n) hm hp
    rw [e1, e2, x_b2_s, x_b2_s, x_l_e, g2.2.1, if_pos (show (0 : Int32) = 0 from rfl), ← ht pl hp]
    rcases w_okx_d n hk (g_ar S0 605 pl) with ⟨q1, q2, q3⟩ | ⟨q2, q3⟩
    · right
      rw [q2, x_b_s, c_good, x_b_s]
      refine ⟨hp, _, q1, rfl, ?_, g1, g2⟩
      rcases q3 with ⟨q3, q4⟩ | ⟨q3, q4⟩
      · rw [if_pos q3, if_pos q4]
      · rw [if_neg q3, q4, x_b_s, if_neg i_1n]
    · left
      obtain ⟨b1, b2⟩ := c_bad (n := n) g1 (f := 4) (by decide)
      obtain ⟨b3, b4⟩ := m_bad (n := n) g2 (f := 4) (by decide)
      rw [q2, x_b_s, b1, x_b_s]
      unfold f_X7_writeAct_70
      rw [b3, x_b_s]
      refine ⟨_, _, g_ar S0 605 pl, _, rfl, ?_, _, _, _, b2, by omega, b4⟩
      rcases q3 with ⟨q3, q4⟩ | ⟨q3, q4⟩
      · rw [if_pos q3, if_neg q4]
      · rw [if_neg q3, q4, x_b_s, if_pos rfl]
  · left
    obtain ⟨e1, b2⟩ := c_end (n := n) hc hp
    obtain ⟨e2, b4⟩ := m_end (n := n) hm hp
    obtain ⟨u, -, hu⟩ := e_mA01 n k 0
    rw [e1, e2, x_b2_s, x_b2_s, hu, x_b_s, f_req b2, x_b_s, x_l_e, b4.2.2.1, if_neg b4.2.1]
    exact ⟨_, _, _, _, rfl, rfl, _, _, _, b2, by omega, b4⟩
theorem w_pB (hc : c_b S0 tl pl a d Sc) (hm : m_b S1 tl pl a d Sm) (ht : ∀ i, i < tl → g_ar S0 605 i = g_ar S1 707 i) {k : Int32} (hk : k = 0 ∨ k = 1 ∨ k = 4 ∨ k = 5) (x : Int32) : (∃ u Sc1 u' Sm1, f_X5_takeB n Sc k = some (u, Sc1) ∧ f_X7_writeAct_75 n Sm k x = f_X7_writeAct_101 n Sm1 k x u' ∧ w_F S0 S1 Sc1 Sm1) ∨ (pl < tl ∧ ∃ u, (k = 1 ∨ u = 0) ∧ f_X5_takeB n Sc k = some (u, s_sc Sc 501 (nI (pl + 1))) ∧ f_X7_writeAct_75 n Sm k x = f_X7_writeAct_101 n (s_sc Sm 736 (nI (pl + 1))) k x u ∧ c_b S0 tl (pl + 1) a d (s_sc Sc 501 (nI (pl + 1))) ∧ m_b S1 tl (pl + 1) a d (s_sc Sm 736 (nI (pl + 1)))) := by
  unfold f_X5_takeB f_X7_writeAct_75
  by_cases hp : pl < tl
  · obtain ⟨e1, g1⟩ := c_take (n := n) hc hp
    obtain ⟨e2, g2⟩ := m_take (n := n) hm hp
    rw [e1, e2, x_b2_s, x_b2_s, x_l_e, g2.2.1, if_pos (show (0 : Int32) = 0 from rfl), ← ht pl hp, w_oky_d n hk, x_b_s]
    by_cases q : k = 1 ∨ g_ar S0 605 pl = 0
    · right
      rw [if_pos q, c_good, x_b_s]
      refine ⟨hp, _, q, rfl, ?_, g1, g2⟩
      by_cases q1 : k = 1
      · rw [if_pos q1]
      · rw [if_neg q1, if_pos (q.resolve_left q1)]
    · left
      obtain ⟨b1, b2⟩ := c_bad (n := n) g1 (f := 4) (by decide)
      obtain ⟨b3, b4⟩ := m_bad (n := n) g2 (f := 4) (by decide)
      rw [if_neg q, b1, x_b_s, if_neg (fun z => q (Or.inl z)), if_neg (fun z => q (Or.inr z)), b3, x_b_s]
      exact ⟨_, _, _, _, rfl, rfl, _, _, _, b2, by omega, b4⟩
  · left
    obtain ⟨e1, b2⟩ := c_end (n := n) hc hp
    obtain ⟨e2, b4⟩ := m_end (n := n) hm hp
    obtain ⟨u, -, hu⟩ := e_mB01 n k 0
    rw [e1, e2, x_b2_s, x_b2_s, hu, x_b_s, f_req b2, x_b_s, x_l_e, b4.2.2.1, if_neg b4.2.1]
    exact ⟨_, _, _, _, rfl, rfl, _, _, _, b2, by omega, b4⟩
theorem w_p27 (hc : c_b S0 tl pl a d Sc) (hm : m_b S1 tl pl a d Sm) (ht : ∀ i, i < tl → g_ar S0 605 i = g_ar S1 707 i) (ha : a < 390) {k : Int32} (hk : k = 0 ∨ k = 1 ∨ k = 4 ∨ k = 5) : (∃ Sc1 Sm1, f_X5_takeAct_27 n Sc k 1 = some Sc1 ∧ f_X7_writeAct_36 n Sm k = some Sm1 ∧ w_G S0 S1 Sc1 Sm1) ∨ (pl + 2 ≤ tl ∧ ∃ x y, w_ok k x y 0 ∧ f_X5_takeAct_27 n Sc k 1 = some (w_e (s_sc (s_sc Sc 501 (nI (pl + 1))) 501 (nI (pl + 2))) a k x y 0) ∧ f_X7_writeAct_36 n Sm k = some (w_m (s_sc (s_sc Sm 736 (nI (pl + 1))) 736 (nI (pl + 2))) a k x y 0) ∧ c_b S0 tl (pl + 2) (a + 1) d (w_e (s_sc (s_sc Sc 501 (nI (pl + 1))) 501 (nI (pl + 2))) a k x y 0) ∧ m_b S1 tl (pl + 2) (a + 1) d (w_m (s_sc (s_sc Sm 736 (nI (pl + 1))) 736 (nI (pl + 2))) a k x y 0)) := by
  unfold f_X5_takeAct_27
  rw [c_good, x_b_s]
  rcases w_pA (n := n) hc hm ht hk with ⟨u, Sc1, u', Sm1, e1, e2, v, p, M, b1, b2, b3⟩ | ⟨hp, u, q, e1, e2, g1, g2⟩
  · left
    rw [e1, x_b2_s, f_takeB b1, x_b2_s, e2]
    obtain ⟨Sc2, z1, z2, -⟩ := f_emit (n := n) b1 (by omega) k u 0 0
    obtain ⟨Sm2, z3, z4⟩ := m_wa75 (n := n) b3 k u'
    rw [z1, x_b_s, z3]
    exact ⟨_, _, rfl, rfl, v, p, M + 1, z2, by omega, z4⟩
  · rw [e1, x_b2_s, e2]
    rcases w_pB (n := n) g1 g2 ht hk u with ⟨w, Sc1, w', Sm1, e1, e2, v, p, M, b1, b2, b3⟩ | ⟨hp2, w, q2, e1, e2, g3, g4⟩
    · left
      rw [e1, x_b2_s, e2]
      obtain ⟨Sc2, z1, z2, -⟩ := f_emit (n := n) b1 (by omega) k u w 0
      obtain ⟨Sm2, z3, z4⟩ := m_wa101 (n := n) b3 k u w'
      rw [z1, x_b_s, z3]
      exact ⟨_, _, rfl, rfl, v, p, M + 1, z2, by omega, z4⟩
    · right
      obtain ⟨z1, z2⟩ := c_emit (n := n) g3 ha k u w 0
      obtain ⟨z3, z4⟩ := c_make (n := n) g4 ha k u w 0
      rw [e1, x_b2_s, z1, x_b_s, e2]
      unfold f_X7_writeAct_101
      rw [z3, x_b_s]
      refine ⟨by omega, u, w, ?_, rfl, rfl, z2, z4⟩
      rcases q with rfl | ⟨rfl, q⟩ | ⟨rfl, q⟩ | ⟨rfl, q⟩
      · exact Or.inl ⟨rfl, q2.resolve_left (by decide), rfl⟩
      · exact Or.inr (Or.inl ⟨rfl, q, rfl⟩)
      · exact Or.inr (Or.inr (Or.inr (Or.inr (Or.inl ⟨rfl, q, q2.resolve_left (by decide), rfl⟩))))
      · exact Or.inr (Or.inr (Or.inr (Or.inr (Or.inr ⟨rfl, q, q2.resolve_left (by decide), rfl⟩))))
/-- takeAct and writeAct -/
theorem w_plain (hc : c_b S0 tl pl a d Sc) (hm : m_b S1 tl pl a d Sm) (ht : ∀ i, i < tl → g_ar S0 605 i = g_ar S1 707 i) (ha : a < 390) : (∃ Sc1 Sm1, f_X5_takeAct n Sc = some Sc1 ∧ f_X7_writeAct n Sm = some Sm1 ∧ w_G S0 S1 Sc1 Sm1) ∨ (pl + 3 ≤ tl ∧ ∃ Tc Tm k x y, w_ok k x y 0 ∧ Tc = s_sc (s_sc (s_sc Sc 501 (nI (pl + 1))) 501 (nI (pl + 2))) 501 (nI (pl + 3)) ∧ Tm = s_sc (s_sc (s_sc Sm 736 (nI (pl + 1))) 736 (nI (pl + 2))) 736 (nI (pl + 3)) ∧ f_X5_takeAct n Sc = some (w_e Tc a k x y 0) ∧ f_X7_writeAct n Sm = some (w_m Tm a k x y 0) ∧ c_b S0 tl (pl + 3) (a + 1) d (w_e Tc a k x y 0) ∧ m_b S1 tl (pl + 3) (a + 1) d (w_m Tm a k x y 0)) := by
  unfold f_X5_takeAct f_X7_writeAct f_X5_takeAct_26
  by_cases hp : pl < tl
  · obtain ⟨e1, g1⟩ := c_take (n := n) hc hp
    obtain ⟨e2, g2⟩ := m_take (n := n) hm hp
    rw [e1, e2, x_b2_s, x_b2_s, x_l_e, g2.2.1, if_pos (show (0 : Int32) = 0 from rfl), ← ht pl hp]
    generalize g_ar S0 605 pl = k
    by_cases hk : k = 0 ∨ k = 1 ∨ k = 4 ∨ k = 5
    · have h1 : ¬ k < 0 := by rcases hk with rfl | rfl | rfl | rfl <;> decide
      have h2 : ¬ (5 : Int32) < k := by rcases hk with rfl | rfl | rfl | rfl <;> decide
      have h3 : ¬ (k = 2 ∨ k = 3) := by rcases hk with rfl | rfl | rfl | rfl <;> decide
      have h4 : ∀ T : Option x_S, (if k = 0 then f_X7_writeAct_36 n (s_sc Sm 736 (nI (pl + 1))) k else if k = 1 then f_X7_writeAct_36 n (s_sc Sm 736 (nI (pl + 1))) k else if k = 4 then f_X7_writeAct_36 n (s_sc Sm 736 (nI (pl + 1))) k else if k = 5 then f_X7_writeAct_36 n (s_sc Sm 736 (nI (pl + 1))) k else T) = f_X7_writeAct_36 n (s_sc Sm 736 (nI (pl + 1))) k := by
        intro T
        rcases hk with rfl | rfl | rfl | rfl <;> rfl
      rw [if_neg h1, if_neg h2, e_isJump, if_neg h3, x_b_s, if_pos rfl, h4]
      rcases w_p27 (n := n) g1 g2 ht ha hk with ⟨Sc1, Sm1, z1, z2, z3⟩ | ⟨hq, x, y, q1, z1, z2, z3, z4⟩
      · exact Or.inl ⟨Sc1, Sm1, z1, z2, z3⟩
      · exact Or.inr ⟨by omega, _, _, k, x, y, q1, rfl, rfl, z1, z2, z3, z4⟩
    · left
      obtain ⟨b1, b2⟩ := c_bad (n := n) g1 (f := 4) (by decide)
      obtain ⟨b3, b4⟩ := m_bad (n := n) g2 (f := 4) (by decide)
      have h4 : f_X5_takeAct_27 n (s_sc Sc 501 (nI (pl + 1))) k 0 = f_X5_takeAct_27 n (s_sc (s_sc (s_sc Sc 501 (nI (pl + 1))) 504 4) 501 (nI pl)) k 1 := by
        unfold f_X5_takeAct_27
        rw [b1, x_b_s, c_good, x_b_s]
      obtain ⟨Sc2, z1, z2⟩ := f_act27 (n := n) b2 (by omega) k 1
      obtain ⟨Sm2, z3, z4⟩ := m_wa36 (n := n) b4 k
      rw [if_neg (fun q => hk (Or.inl q)), if_neg (fun q => hk (Or.inr (Or.inl q))), if_neg (fun q => hk (Or.inr (Or.inr (Or.inl q)))), if_neg (fun q => hk (Or.inr (Or.inr (Or.inr q)))), b3, x_b_s, z3, h4, z1, e_isJump, x_b_s]
      refine ⟨Sc2, Sm2, ?_, rfl, 4, nI pl, 1001, z2, by omega, z4⟩
      by_cases h1 : k < 0
      · rw [if_pos h1]
      · rw [if_neg h1]
        by_cases h2 : (5 : Int32) < k
        · rw [if_pos h2]
        · rw [if_neg h2]
          have h3 : k = 2 ∨ k = 3 := by
            rcases k_arg k (N := 6) (by decide) with h | ⟨j, hj, rfl⟩
            · rcases h with h | h
              · exact absurd h h1
              · refine absurd ?_ h2
                rw [Int32.le_iff_toInt_le] at h
                rw [Int32.lt_iff_toInt_lt]
                have : (nI 6).toInt = 6 := rfl
                have : (5 : Int32).toInt = 5 := rfl
                omega
            · rcases (show j = 0 ∨ j = 1 ∨ j = 2 ∨ j = 3 ∨ j = 4 ∨ j = 5 by omega) with rfl | rfl | rfl | rfl | rfl | rfl
              · exact absurd (Or.inl rfl) hk
              · exact absurd (Or.inr (Or.inl rfl)) hk
              · exact Or.inl rfl
              · exact Or.inr rfl
              · exact absurd (Or.inr (Or.inr (Or.inl rfl))) hk
              · exact absurd (Or.inr (Or.inr (Or.inr rfl))) hk
          rw [if_pos h3, if_neg i_1n]
  · left
    obtain ⟨e1, b2⟩ := c_end (n := n) hc hp
    obtain ⟨e2, b4⟩ := m_end (n := n) hm hp
    obtain ⟨Sc2, z1, z2⟩ := f_act27 (n := n) b2 (by omega) 0 1
    obtain ⟨Sm2, z3, z4⟩ := m_wa36 (n := n) b4 0
    rw [e1, e2, x_b2_s, x_b2_s, x_l_e, b4.2.2.1, if_neg b4.2.1, if_neg (by decide), if_neg (by decide), e_isJump, if_neg (by decide), x_b_s, if_pos rfl, z1, z3]
    exact ⟨_, _, rfl, rfl, _, _, _, z2, by omega, z4⟩
end
