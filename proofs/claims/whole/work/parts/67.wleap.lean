/-! write: BREAK, AGAIN, JUMP and the same three, if -/
section
variable {n tl pl a d : Nat} {sk be : Nat → Nat} {S0 S1 Sc Sm : x_S}
theorem w_okj {b x y z : Int32} (hb : (b = 0 ∧ x = 0 ∧ y = 0) ∨ (b = 1 ∧ (0 ≤ x ∧ x ≤ 3) ∧ (0 ≤ y ∧ y ≤ 5))) (hz : 0 ≤ z) : w_ok (if b = 0 then 2 else 3) x y z := by
  rcases hb with ⟨rfl, rfl, rfl⟩ | ⟨rfl, hx, hy⟩
  · exact Or.inr (Or.inr (Or.inl ⟨rfl, rfl, rfl, hz⟩))
  · exact Or.inr (Or.inr (Or.inr (Or.inl ⟨rfl, hx, hy, hz⟩)))
/-- JUMP, behind its TEST -/
theorem w_jmp (hc : c_b S0 tl pl a d Sc) (hm : m_b S1 tl pl a d Sm) (hR : w_R a d sk be Sc Sm) (ht : ∀ i, i < tl → g_ar S0 605 i = g_ar S1 707 i) (hb : a + d + 1 ≤ pl) {b x y : Int32} (hx : (b = 0 ∧ x = 0 ∧ y = 0) ∨ (b = 1 ∧ (0 ≤ x ∧ x ≤ 3) ∧ (0 ≤ y ∧ y ≤ 5))) : ∃ Sc1 Sm1, f_X5_takeLeap_79 n Sc b 8 x y = some Sc1 ∧ f_X7_writeStatement_195 n Sm b x y = some Sm1 ∧ w_U S0 S1 tl pl d Sc1 Sm1 := by
  have ha : a < 390 := by have := hc.2.2.2.2.2.2.2.2.1; have := hc.2.2.2.2.2.2.2.2.2.1; omega
  have e95 : ∀ (T : x_S) (z : Int32), f_X5_takeLeap_95 n T b 8 x y z = f_X5_takeLeap_107 n T 8 x y z (if b = 0 then 2 else 3) := by
    intro T z
    unfold f_X5_takeLeap_95
    split <;> rfl
  have e212 : ∀ (T : x_S) (z : Int32), f_X7_writeStatement_212 n T b x y z = f_X7_writeStatement_222 n T x y z (if b = 0 then 2 else 3) := by
    intro T z
    unfold f_X7_writeStatement_212
    split <;> rfl
  unfold f_X5_takeLeap_79 f_X7_writeStatement_195 f_X5_takePlace
  rw [if_pos rfl]
  by_cases hp : pl < tl
  · obtain ⟨e1, g1⟩ := c_take (n := n) hc hp
    obtain ⟨e2, g2⟩ := m_take (n := n) hm hp
    rw [e1, e2, x_b2_s, x_b2_s, ← ht pl hp]
    generalize g_ar S0 605 pl = z
    unfold f_X5_takePlace_15
    by_cases hz : z < 0
    · obtain ⟨b1, b2⟩ := c_bad (n := n) g1 (f := 6) (by decide)
      obtain ⟨b3, b4⟩ := m_bad (n := n) g2 (f := 6) (by decide)
      rw [if_pos hz, if_neg (Int32.not_le.mpr hz), b1, x_b_s, x_l_e, x_l_e, x_l_e, x_b2_s, b3, x_b_s]
      obtain ⟨T1, w1, w2⟩ := f_l95 (n := n) (S := s_sc (s_sc (s_sc (s_sc Sc 501 (nI (pl + 1))) 504 6) 501 (nI pl)) 506 (if g_sc (s_sc (s_sc (s_sc Sc 501 (nI (pl + 1))) 504 6) 501 (nI pl)) 506 < z then z else g_sc (s_sc (s_sc (s_sc Sc 501 (nI (pl + 1))) 504 6) 501 (nI pl)) 506)) ⟨b2.1.tr (frw_sc _ 506 _ (by decide) (by decide)), b2.2.1, (y_sn _ _ _ _ (by decide)).trans b2.2.2.1, (y_sn _ _ _ _ (by decide)).trans b2.2.2.2.1, by obtain ⟨a, a1, a2, a3⟩ := b2.2.2.2.2.1; exact ⟨a, a1, a2, (y_sn _ _ _ _ (by decide)).trans a3⟩, by obtain ⟨d, d1, d2⟩ := b2.2.2.2.2.2.1; exact ⟨d, d1, (y_sn _ _ _ _ (by decide)).trans d2⟩, b2.2.2.2.2.2.2⟩ (by omega) b 8 x y z
      obtain ⟨T2, w3, w4⟩ := m_ws212 (n := n) b4 b x y z
      exact ⟨T1, T2, w1, w3, Or.inr ⟨_, _, _, w2, by omega, w4⟩⟩
    · have hz1 : 0 ≤ z := Int32.not_lt.mp hz
      rw [if_neg hz, if_pos hz1, c_good, x_b_s, x_l_e, x_l_e, x_l_e, x_b2_s, e95, e212]
      rw [y_sn _ _ _ _ (by decide)]
      have g3 := g1.s7 506 (Or.inl rfl) (if g_sc Sc 506 < z then z else g_sc Sc 506)
      obtain ⟨w1, w2⟩ := c_emit (n := n) g3 ha (if b = 0 then 2 else 3) x y z
      obtain ⟨w3, w4⟩ := c_make (n := n) g2 ha (if b = 0 then 2 else 3) x y z
      unfold f_X5_takeLeap_107 f_X7_writeStatement_222
      rw [w1, x_b_s, if_pos rfl, w3, x_b_s]
      refine ⟨_, _, rfl, rfl, Or.inl ⟨pl + 1, a + 1, d, sk, be, ⟨w2, w4, ?_, by omega⟩, by omega⟩⟩
      refine hR.emit0 (by omega) (fun _ _ => rfl) (fun _ _ => rfl) (fun _ _ => rfl) (by rw [y_sn _ _ _ _ (by decide), y_sn _ _ _ _ (by decide)]) (w_okj hx hz1) ?_ ?_
      · right
        rw [y_sc]
        split
        · exact Int32.le_refl _
        · rename_i q
          exact Int32.not_lt.mp q
      · rw [y_sc]
        split
        · rename_i q
          exact Or.inr ⟨Int32.le_of_lt q, rfl⟩
        · exact Or.inl rfl
  · obtain ⟨e1, b2⟩ := c_end (n := n) hc hp
    obtain ⟨e2, b4⟩ := m_end (n := n) hm hp
    have e1' : f_X5_takePlace n Sc = x_b2 (some ((0 : Int32), s_sc Sc 504 1)) (fun v2 S => if v2 < 0 then f_X5_takePlace_15 n S v2 0 else f_X5_takePlace_15 n S v2 1) := by
      unfold f_X5_takePlace
      rw [e1]
    rw [e1, x_b2_s, e2, x_b2_s, if_pos (show (0 : Int32) ≤ 0 by decide), if_neg (show ¬ (0 : Int32) < 0 by decide)]
    unfold f_X5_takePlace_15
    rw [c_good, x_b_s, x_l_e, x_l_e, x_l_e, x_b2_s]
    generalize (if g_sc (s_sc Sc 504 1) 506 < 0 then 0 else g_sc (s_sc Sc 504 1) 506) = H
    obtain ⟨T1, w1, w2⟩ := f_l95 (n := n) (S := s_sc (s_sc Sc 504 1) 506 H) ⟨b2.1.tr (frw_sc _ 506 _ (by decide) (by decide)), b2.2.1, (y_sn _ _ _ _ (by decide)).trans b2.2.2.1, (y_sn _ _ _ _ (by decide)).trans b2.2.2.2.1, by obtain ⟨a, a1, a2, a3⟩ := b2.2.2.2.2.1; exact ⟨a, a1, a2, (y_sn _ _ _ _ (by decide)).trans a3⟩, by obtain ⟨d, d1, d2⟩ := b2.2.2.2.2.2.1; exact ⟨d, d1, (y_sn _ _ _ _ (by decide)).trans d2⟩, b2.2.2.2.2.2.2⟩ (by omega) b 8 x y 0
    obtain ⟨T2, w3, w4⟩ := m_ws212 (n := n) b4 b x y 0
    exact ⟨T1, T2, w1, w3, Or.inr ⟨_, _, _, w2, by omega, w4⟩⟩
/-- BREAK and AGAIN, behind their TEST -/
theorem w_lv (hc : c_b S0 tl pl a d Sc) (hm : m_b S1 tl pl a d Sm) (hR : w_R a d sk be Sc Sm) (hb : a + d + 1 ≤ pl) (hn : 1000 ≤ n) {b x y l f : Int32} (hx : (b = 0 ∧ x = 0 ∧ y = 0) ∨ (b = 1 ∧ (0 ≤ x ∧ x ≤ 3) ∧ (0 ≤ y ∧ y ≤ 5))) (hl : (l = 6 ∧ f = 1) ∨ (l = 7 ∧ f = 2)) (hi : 0 < w_lc (fun i => g_ar Sm 747 i) d) : ∃ Sc1 Sm1, f_X5_takeLeap_79 n Sc b l x y = some Sc1 ∧ f_X7_leave n Sm f b x y = some Sm1 ∧ w_U S0 S1 tl pl d Sc1 Sm1 := by
  have ha : a < 390 := by have := hc.2.2.2.2.2.2.2.2.1; have := hc.2.2.2.2.2.2.2.2.2.1; omega
  have hd : d ≤ 61 := hc.2.2.2.2.2.2.2.2.2.2.2
  have hl8 : ¬ l = 8 := by rcases hl with ⟨rfl, -⟩ | ⟨rfl, -⟩ <;> decide
  have e95 : f_X5_takeLeap_79 n Sc b l x y = f_X5_takeLeap_107 n Sc l x y 0 (if b = 0 then 2 else 3) := by
    unfold f_X5_takeLeap_79 f_X5_takeLeap_95
    rw [if_neg hl8]
    split <;> rfl
  have e10 : f_X7_leave n Sm f b x y = f_X7_leave_10 n Sm f x y (if b = 0 then 2 else 3) := by
    unfold f_X7_leave
    split <;> rfl
  have ok := w_okj (z := 0) hx (by decide)
  have hk : (if b = 0 then (2 : Int32) else 3) = 2 ∨ (if b = 0 then (2 : Int32) else 3) = 3 := by split <;> simp
  rw [e95, e10]
  generalize (if b = 0 then (2 : Int32) else 3) = k at ok hk
  obtain ⟨w1, w2⟩ := c_emit (n := n) hc ha k x y 0
  obtain ⟨w3, w4⟩ := c_make (n := n) hm ha k x y 0
  rcases w_inm_d (fun i => g_ar Sm 747 i) d hd with ⟨q1, -⟩ | ⟨-, w, v1, v2, v3, v4⟩
  · omega
  have a22 : a < 2 ^ 31 := by omega
  have c3 := k_in (i := a) (L := 400) (by omega) (by omega)
  have c4 := nI_clamp a22
  have e7 : ∀ v : Int32, (fun b => g_ar (s_ar (w_m Sm a k x y 0) 743 a v) 747 b) = (fun i => g_ar Sm 747 i) := fun v => funext (fun i => by rw [q_ar_ar, if_neg (by omega), wm_ar _ _ _ _ _ _ 747 i (by omega)])
  have e8 : ∀ v : Int32, g_sc (s_ar (w_m Sm a k x y 0) 743 a v) 745 = nI d := fun v => w4.2.2.2.2.2.1
  have m1 : f_X7_leave_10 n Sm f x y k = some (s_ar (s_ar (w_m Sm a k x y 0) 743 a f) 744 a (nI w)) := by
    unfold f_X7_leave_10
    rw [w3, x_b_s, x_l_e, w4.2.2.2.2.1, nI_pred, x_gt c3, c4, x_l_e, x_l_e, q_sc_ar, w4.2.2.2.2.1, nI_pred, e_inm hd (e8 _) hn, e7, v2, x_b2_s, x_gt c3, c4, x_l_e]
  have c1 : ∃ T, f_X5_takeLeap_107 n Sc l x y 0 k = some T ∧ (∀ i, i < 60 → ∀ j, g_pa T j 0 i = g_pa (w_e Sc a k x y 0) j 0 i) ∧ (∀ i, i < 60 → ¬ i = a → g_ar T 508 i = g_ar (w_e Sc a k x y 0) 508 i) ∧ (a < 60 → g_ar T 508 a = l) ∧ (∀ j i, ¬ j = 508 → g_ar T j i = g_ar (w_e Sc a k x y 0) j i) ∧ (∀ j, g_sc T j = g_sc (w_e Sc a k x y 0) j) ∧ c_b S0 tl pl (a + 1) d T := by
    unfold f_X5_takeLeap_107
    rw [w1, x_b_s, if_neg hl8, x_l_e, w2.2.2.2.2.2.1]
    by_cases e2 : a < 60
    · have c1 : ¬ (60 : Int32) < nI (a + 1) := nI_nlt (a := 60) (b := a + 1) (by omega) (by decide)
      have c3 := k_in (i := a) (L := 60) e2 (by omega)
      rw [if_neg c1, x_l_e, nI_pred, x_gt c3, c4, x_l_e]
      refine ⟨_, rfl, fun i hi j => rfl, fun i hi e => ?_, fun _ => ?_, fun j i hj => ?_, fun j => rfl, ?_⟩
      · rw [q_ar_ar, if_neg (by omega)]
      · rw [q_ar_ar, if_pos ⟨rfl, rfl⟩]
      · rw [q_ar_ar, if_neg (by omega)]
      · obtain ⟨h1, h2⟩ := w2
        exact ⟨h1.tr (frw_ar _ 508 a _ (by decide) (by decide)), h2⟩
    · have c1 : (60 : Int32) < nI (a + 1) := nI_lt (a := 60) (b := a + 1) (by omega) (by omega)
      rw [if_pos c1]
      exact ⟨_, rfl, fun i hi j => rfl, fun i hi e => rfl, fun q => absurd q e2, fun j i hj => rfl, fun j => rfl, w2⟩
  obtain ⟨T, t1, t2, t3, t4, t5, t6, t7⟩ := c1
  rw [t1, m1]
  refine ⟨_, _, rfl, rfl, Or.inl ⟨pl, a + 1, d, sk, be, ⟨t7, ?_, ?_, by omega⟩, by omega⟩⟩
  · obtain ⟨h1, h2⟩ := w4
    exact ⟨(h1.tr (fr_m_ar _ 743 a _ (by decide))).tr (fr_m_ar _ 744 a _ (by decide)), h2⟩
  · obtain ⟨n1, n2, n3⟩ := w_ok_n ok
    refine hR.emit (k := k) (x := x) (y := y) (z := 0) (f := f) (by omega) (fun i hi => ?_) (fun i hi e => ?_) (fun a6 => ?_) (fun j i hj hj2 => ?_) (fun i => ?_) (fun i hi => ?_) (fun j i hj => ?_) ?_ ok ?_ (fun _ => ⟨rfl, hk, w, v1, ?_, v3, hR.2.2.2.2.1 w v1 v3, fun b b1 b2 b3 => absurd b3 (v4 b b1 b2)⟩) (Or.inl (nI_pos' (by omega))) (Or.inl ?_)
    · have := we_pa Sc a k x y 0 i hi
      rw [n1, n2, n3] at this
      rw [t2 i hi, t2 i hi, t2 i hi, t2 i hi]
      exact this
    · rw [t3 i hi e, we_aw _ _ _ _ _ _ i hi, if_neg e]
    · rw [t4 a6]
      rcases hl with ⟨rfl, rfl⟩ | ⟨rfl, rfl⟩
      · exact Or.inr (Or.inl ⟨rfl, rfl⟩)
      · exact Or.inr (Or.inr ⟨rfl, rfl⟩)
    · rw [t5 j i (by omega), we_ar _ _ _ _ _ _ j i (by omega)]
    · have := wm_ac Sm a k x y 0 i
      simp only [q_ar_ar, Nat.reduceEqDiff, false_and, if_false, true_and]
      refine ⟨this.1, this.2.1, this.2.2.1, this.2.2.2.1, ?_⟩
      split
      · rfl
      · rename_i q
        rw [this.2.2.2.2, if_neg q]
    · rw [q_ar_ar, if_neg (by omega), q_ar_ar, if_neg (by omega), wm_ar _ _ _ _ _ _ 744 i (by omega)]
    · rw [q_ar_ar, if_neg (by omega), q_ar_ar, if_neg (by omega), wm_ar _ _ _ _ _ _ j i (by omega)]
    · rw [t6, we_sc _ _ _ _ _ _ _ (by decide)]
    · rcases hl with ⟨rfl, rfl⟩ | ⟨rfl, rfl⟩
      · exact Or.inr (Or.inl rfl)
      · exact Or.inr (Or.inr rfl)
    · rw [q_ar_ar, if_pos ⟨rfl, rfl⟩]
    · rw [t6, we_sc _ _ _ _ _ _ _ (by decide)]
/-- the TEST of a leap -/
theorem w_pre (hc : c_b S0 tl pl a d Sc) (hm : m_b S1 tl pl a d Sm) (hR : w_R a d sk be Sc Sm) (ht : ∀ i, i < tl → g_ar S0 605 i = g_ar S1 707 i) (hn : 1000 ≤ n) (l k a2 : Int32) : (∃ Sc1 Sm1, f_X5_takeLeap_47 n Sc 1 l 1 = some Sc1 ∧ f_X7_writeStatement_119 n Sm k a2 1 = some Sm1 ∧ w_G S0 S1 Sc1 Sm1) ∨ (∃ A B x y, (0 ≤ x ∧ x ≤ 3) ∧ (0 ≤ y ∧ y ≤ 5) ∧ f_X5_takeLeap_47 n Sc 1 l 1 = f_X5_takeLeap_79 n A 1 l x y ∧ f_X7_writeStatement_119 n Sm k a2 1 = f_X7_writeStatement_148 n B k a2 1 x y ∧ c_b S0 tl (pl + 2) a d A ∧ m_b S1 tl (pl + 2) a d B ∧ w_R a d sk be A B ∧ (∀ i, g_ar B 747 i = g_ar Sm 747 i)) := by
  unfold f_X5_takeLeap_47 f_X7_writeStatement_119
  rw [if_neg i_1n, c_good, x_b_s]
  rcases w_tA (n := n) hc hm ht with ⟨u, Sc1, u', Sm1, e1, e2, v, p, M, b1, b2, b3⟩ | ⟨hp, x, x1, x2, e1, e2, g1, g2⟩
  · left
    rw [e1, x_b2_s, e2, x_b2_s]
    obtain ⟨T1, w1, w2⟩ := f_l64 (n := n) b1 (by omega) 1 l u
    obtain ⟨T2, w3, w4⟩ := m_ws133 (n := n) b3 hn k a2 1 u'
    rw [if_neg i_1n, w1, w3]
    exact ⟨_, _, rfl, rfl, ⟨v, p, M + 1, w2, by omega, w4⟩⟩
  · rw [if_neg i_1n, e1, x_b2_s, e2, x_b2_s]
    unfold f_X7_writeStatement_133 f_X5_takeLeap_64
    rw [if_neg i_1n, if_neg i_1n]
    rcases w_tB (n := n) g1 g2 ht with ⟨u, Sc1, u', Sm1, e1, e2, v, p, M, b1, b2, b3⟩ | ⟨hp2, y, y1, y2, e1, e2, g3, g4⟩
    · left
      rw [e1, x_b2_s, e2, x_b2_s]
      obtain ⟨T1, w1, w2⟩ := f_l79 (n := n) b1 (by omega) 1 l x u
      obtain ⟨T2, w3, w4⟩ := m_ws148 (n := n) b3 hn k a2 1 x u'
      rw [w1, w3]
      exact ⟨_, _, rfl, rfl, ⟨v, p, M + 1, w2, by omega, w4⟩⟩
    · right
      rw [e1, x_b2_s, e2, x_b2_s]
      have R2 : w_R a d sk be (s_sc (s_sc Sc 501 (nI (pl + 1))) 501 (nI (pl + 1 + 1))) (s_sc (s_sc Sm 736 (nI (pl + 1))) 736 (nI (pl + 1 + 1))) := hR.same (fun _ _ => ⟨rfl, rfl, rfl, rfl, rfl⟩) (fun _ _ _ _ => rfl) (fun _ _ _ => rfl) (by rw [y_sn _ _ _ _ (by decide), y_sn _ _ _ _ (by decide)]) (by rw [y_sn _ _ _ _ (by decide), y_sn _ _ _ _ (by decide)])
      exact ⟨_, _, x, y, ⟨x1, x2⟩, ⟨y1, y2⟩, rfl, rfl, g3, g4, R2, fun _ => rfl⟩
end
