/-! write: which STATEMENT it is -/
section
variable {n tl pl a d : Nat} {sk be : Nat → Nat} {S0 S1 Sc Sm : x_S}
theorem w_m27 {B : x_S} (h : g_sc B 737 = 0) {k : Int32} (hk : ¬ k = 6 ∧ ¬ k = 7 ∧ ¬ k = 9 ∧ ¬ k = 10) : f_X7_writeStatement_27 n B k = f_X7_writeStatement_81 n B k 0 := by
  unfold f_X7_writeStatement_27 f_X7_writeStatement_56
  rw [if_neg hk.1, if_neg hk.2.1, if_neg hk.2.2.1, if_neg hk.2.2.2, x_l_e, h, if_pos rfl, if_pos rfl]
theorem w_m51 {B : x_S} {k : Int32} (hk : k = 6 ∨ k = 7 ∨ k = 9 ∨ k = 10) : f_X7_writeStatement_27 n B k = f_X7_writeStatement_56 n B k 1 := by
  rcases hk with rfl | rfl | rfl | rfl <;> rfl
theorem w_m81 {B : x_S} (h : g_sc B 737 = 0) (k a2 : Int32) (hk0 : ¬ k = 0) (hk : (k = 3 ∨ k = 6 ∨ k = 7 ∨ k = 8)) : f_X7_writeStatement_81 n B k a2 = f_X7_writeStatement_148 n B k a2 0 0 0 := by
  have e : f_X7_writeStatement_118 n B k a2 = f_X7_writeStatement_148 n B k a2 0 0 0 := rfl
  unfold f_X7_writeStatement_81
  rw [x_l_e, h, if_pos rfl, if_neg hk0, e, e_in]
  by_cases h3 : k = 3
  · rw [if_pos h3]
  · rw [if_neg h3, x_b_s]
    have q : (6 : Int32) ≤ k ∧ k ≤ 8 := by rcases hk with rfl | rfl | rfl | rfl <;> first | exact absurd rfl h3 | decide
    rw [if_pos q, if_neg i_1n]
theorem w_m81t {B : x_S} (h : g_sc B 737 = 0) (k a2 : Int32) (hk : k = 1 ∨ k = 2 ∨ k = 4 ∨ k = 5 ∨ k = 9 ∨ k = 10 ∨ k = 11) : f_X7_writeStatement_81 n B k a2 = f_X7_writeStatement_119 n B k a2 1 := by
  unfold f_X7_writeStatement_81
  have h0 : ¬ k = 0 := by rcases hk with rfl | rfl | rfl | rfl | rfl | rfl | rfl <;> decide
  have h3 : ¬ k = 3 := by rcases hk with rfl | rfl | rfl | rfl | rfl | rfl | rfl <;> decide
  have q : ¬ ((6 : Int32) ≤ k ∧ k ≤ 8) := by rcases hk with rfl | rfl | rfl | rfl | rfl | rfl | rfl <;> decide
  rw [x_l_e, h, if_pos rfl, if_neg h0, if_neg h3, e_in, x_b_s, if_neg q, if_pos rfl]
theorem w_m148 {B : x_S} {k b x y f : Int32} (hk : (k = 6 ∧ f = 1) ∨ (k = 9 ∧ f = 1) ∨ (k = 7 ∧ f = 2) ∨ (k = 10 ∧ f = 2)) : f_X7_writeStatement_148 n B k 1 b x y = x_b (f_X7_leave n B f b x y) (fun S => some S) := by
  rcases hk with ⟨rfl, rfl⟩ | ⟨rfl, rfl⟩ | ⟨rfl, rfl⟩ | ⟨rfl, rfl⟩ <;> rfl
theorem w_c47 (A : x_S) (l : Int32) : f_X5_takeLeap_47 n A 0 l 1 = f_X5_takeLeap_79 n A 0 l 0 0 := by
  unfold f_X5_takeLeap_47 f_X5_takeLeap_64
  rw [c_good, x_b_s, if_pos rfl, if_pos rfl]
/-- BREAK, AGAIN, BREAK IF, AGAIN IF -/
theorem w_sL (hc : c_b S0 tl (pl + 1) a d Sc) (hm : m_b S1 tl (pl + 1) a d Sm) (hR : w_R a d sk be Sc Sm) (ht : ∀ i, i < tl → g_ar S0 605 i = g_ar S1 707 i) (hb : a + d ≤ pl) (hn : 1000 ≤ n) {k b l f : Int32} (hk : (k = 6 ∧ b = 0 ∧ l = 6 ∧ f = 1) ∨ (k = 9 ∧ b = 1 ∧ l = 6 ∧ f = 1) ∨ (k = 7 ∧ b = 0 ∧ l = 7 ∧ f = 2) ∨ (k = 10 ∧ b = 1 ∧ l = 7 ∧ f = 2)) : ∃ Sc1 Sm1, f_X5_takeLeap n Sc k = some Sc1 ∧ f_X7_writeStatement_27 n Sm k = some Sm1 ∧ w_U S0 S1 tl (pl + 1) d Sc1 Sm1 := by
  have hd : d ≤ 61 := hc.2.2.2.2.2.2.2.2.2.2.2
  have e1 : f_X5_takeLeap n Sc k = f_X5_takeLeap_27 n Sc b l := by
    rcases hk with ⟨rfl, rfl, rfl, rfl⟩ | ⟨rfl, rfl, rfl, rfl⟩ | ⟨rfl, rfl, rfl, rfl⟩ | ⟨rfl, rfl, rfl, rfl⟩ <;> rfl
  have hl8 : ¬ l = 8 := by rcases hk with ⟨-, -, rfl, -⟩ | ⟨-, -, rfl, -⟩ | ⟨-, -, rfl, -⟩ | ⟨-, -, rfl, -⟩ <;> decide
  have hlf : (l = 6 ∧ f = 1) ∨ (l = 7 ∧ f = 2) := by rcases hk with ⟨-, -, h⟩ | ⟨-, -, h⟩ | ⟨-, -, h⟩ | ⟨-, -, h⟩ <;> simp [h]
  rw [e1, w_m51 (by rcases hk with h | h | h | h <;> simp [h.1])]
  unfold f_X5_takeLeap_27 f_X7_writeStatement_56 f_X5_takeLeap_42
  rw [if_neg hl8, x_l_e, hR.2.2.2.2.2.2, x_l_e, hm.2.1, if_pos (show (0 : Int32) = 0 from rfl), if_neg i_1n, e_inm hd hm.2.2.2.2.2.1 hn, x_b2_s]
  have hlc := w_lc_le (fun i => g_ar Sm 747 i) d
  rcases w_inm_d (fun i => g_ar Sm 747 i) d hd with ⟨q1, q2⟩ | ⟨q1, w, v1, v2, -, -⟩
  · obtain ⟨b1, b2⟩ := c_bad (n := n) hc (f := 5) (by decide)
    obtain ⟨b3, b4⟩ := m_bad (n := n) hm (f := 5) (by decide)
    have e47 : f_X5_takeLeap_47 n Sc b l 0 = f_X5_takeLeap_47 n (s_sc (s_sc Sc 504 5) 501 (nI pl)) b l 1 := by
      unfold f_X5_takeLeap_47
      rw [b1, x_b_s, c_good, x_b_s]
    obtain ⟨T1, w1, w2⟩ := f_l47 (n := n) b2 (by omega) b l 1
    rw [q1, q2, if_pos (show nI 0 ≤ 0 by decide), if_pos rfl, e47, w1, b3, x_b_s, m_ws81 b4]
    exact ⟨_, _, rfl, rfl, Or.inr ⟨_, _, _, w2, by omega, b4⟩⟩
  · have c1 : ¬ nI (w_lc (fun i => g_ar Sm 747 i) d) ≤ 0 := nI_nle q1 (by omega)
    have c2 : ¬ nI w = -1 := fun q => by rw [k_eq (by omega)] at q; have : (-1 : Int32).toInt = -1 := rfl; omega
    rw [if_neg c1, v2, if_neg c2]
    rcases hk with ⟨rfl, rfl, rfl, rfl⟩ | ⟨rfl, rfl, rfl, rfl⟩ | ⟨rfl, rfl, rfl, rfl⟩ | ⟨rfl, rfl, rfl, rfl⟩
    · obtain ⟨T1, T2, t1, t2, t3⟩ := w_lv (n := n) hc hm hR (by omega) hn (b := 0) (x := 0) (y := 0) (Or.inl ⟨rfl, rfl, rfl⟩) hlf q1
      rw [w_c47, t1, w_m81 hm.2.1 6 1 (by decide) (by decide), w_m148 (Or.inl ⟨rfl, rfl⟩), t2, x_b_s]
      exact ⟨_, _, rfl, rfl, t3⟩
    · rw [w_m81t hm.2.1 9 1 (by decide)]
      rcases w_pre (n := n) hc hm hR ht hn 6 9 1 with ⟨T1, T2, t1, t2, t3⟩ | ⟨A, B, x, y, hx, hy, t1, t2, t3, t4, t5, t6⟩
      · exact ⟨_, _, t1, t2, Or.inr t3⟩
      · obtain ⟨T1, T2, u1, u2, u3⟩ := w_lv (n := n) t3 t4 t5 (by omega) hn (b := 1) (x := x) (y := y) (Or.inr ⟨rfl, hx, hy⟩) hlf (by rw [show (fun i => g_ar B 747 i) = (fun i => g_ar Sm 747 i) from funext t6]; exact q1)
        rw [t1, t2, u1, w_m148 (Or.inr (Or.inl ⟨rfl, rfl⟩)), u2, x_b_s]
        refine ⟨_, _, rfl, rfl, ?_⟩
        rcases u3 with ⟨pl', a', d', sk', be', h1, h2⟩ | h
        · exact Or.inl ⟨pl', a', d', sk', be', h1, by omega⟩
        · exact Or.inr h
    · obtain ⟨T1, T2, t1, t2, t3⟩ := w_lv (n := n) hc hm hR (by omega) hn (b := 0) (x := 0) (y := 0) (Or.inl ⟨rfl, rfl, rfl⟩) hlf q1
      rw [w_c47, t1, w_m81 hm.2.1 7 1 (by decide) (by decide), w_m148 (Or.inr (Or.inr (Or.inl ⟨rfl, rfl⟩))), t2, x_b_s]
      exact ⟨_, _, rfl, rfl, t3⟩
    · rw [w_m81t hm.2.1 10 1 (by decide)]
      rcases w_pre (n := n) hc hm hR ht hn 7 10 1 with ⟨T1, T2, t1, t2, t3⟩ | ⟨A, B, x, y, hx, hy, t1, t2, t3, t4, t5, t6⟩
      · exact ⟨_, _, t1, t2, Or.inr t3⟩
      · obtain ⟨T1, T2, u1, u2, u3⟩ := w_lv (n := n) t3 t4 t5 (by omega) hn (b := 1) (x := x) (y := y) (Or.inr ⟨rfl, hx, hy⟩) hlf (by rw [show (fun i => g_ar B 747 i) = (fun i => g_ar Sm 747 i) from funext t6]; exact q1)
        rw [t1, t2, u1, w_m148 (Or.inr (Or.inr (Or.inr ⟨rfl, rfl⟩))), u2, x_b_s]
        refine ⟨_, _, rfl, rfl, ?_⟩
        rcases u3 with ⟨pl', a', d', sk', be', h1, h2⟩ | h
        · exact Or.inl ⟨pl', a', d', sk', be', h1, by omega⟩
        · exact Or.inr h
/-- JUMP, JUMP IF -/
theorem w_sJ (hc : c_b S0 tl (pl + 1) a d Sc) (hm : m_b S1 tl (pl + 1) a d Sm) (hR : w_R a d sk be Sc Sm) (ht : ∀ i, i < tl → g_ar S0 605 i = g_ar S1 707 i) (hb : a + d ≤ pl) (hn : 1000 ≤ n) {k : Int32} (hk : k = 8 ∨ k = 11) : ∃ Sc1 Sm1, f_X5_takeLeap n Sc k = some Sc1 ∧ f_X7_writeStatement_27 n Sm k = some Sm1 ∧ w_U S0 S1 tl (pl + 1) d Sc1 Sm1 := by
  rcases hk with rfl | rfl
  · have e1 : f_X5_takeLeap n Sc 8 = f_X5_takeLeap_47 n Sc 0 8 1 := rfl
    have e2 : f_X7_writeStatement_148 n Sm 8 0 0 0 0 = f_X7_writeStatement_195 n Sm 0 0 0 := rfl
    rw [e1, w_c47, w_m27 hm.2.1 (by decide), w_m81 hm.2.1 8 0 (by decide) (by decide), e2]
    exact w_jmp hc hm hR ht (by omega) (Or.inl ⟨rfl, rfl, rfl⟩)
  · have e1 : f_X5_takeLeap n Sc 11 = f_X5_takeLeap_47 n Sc 1 8 1 := rfl
    have e2 : ∀ (B : x_S) (x y : Int32), f_X7_writeStatement_148 n B 11 0 1 x y = f_X7_writeStatement_195 n B 1 x y := fun _ _ _ => rfl
    rw [e1, w_m27 hm.2.1 (by decide), w_m81t hm.2.1 11 0 (by decide)]
    rcases w_pre (n := n) hc hm hR ht hn 8 11 0 with ⟨T1, T2, t1, t2, t3⟩ | ⟨A, B, x, y, hx, hy, t1, t2, t3, t4, t5, t6⟩
    · exact ⟨_, _, t1, t2, Or.inr t3⟩
    · rw [t1, t2, e2]
      obtain ⟨T1, T2, u1, u2, u3⟩ := w_jmp (n := n) t3 t4 t5 ht (by omega) (Or.inr ⟨rfl, hx, hy⟩)
      refine ⟨_, _, u1, u2, ?_⟩
      rcases u3 with ⟨pl', a', d', sk', be', h1, h2⟩ | h
      · exact Or.inl ⟨pl', a', d', sk', be', h1, by omega⟩
      · exact Or.inr h
theorem w_stmt (h : w_W S0 S1 tl pl a d sk be Sc Sm) (ht : ∀ i, i < tl → g_ar S0 605 i = g_ar S1 707 i) (hn : 1000 ≤ n) : ∃ Sc1 Sm1, f_X5_takeStatement n Sc = some Sc1 ∧ f_X7_writeStatement n Sm = some Sm1 ∧ w_T S0 S1 tl pl d Sc1 Sm1 := by
  obtain ⟨hc, hm, hR, hb⟩ := h
  have up : ∀ {A B : x_S}, w_U S0 S1 tl (pl + 1) d A B → w_T S0 S1 tl pl d A B := by
    rintro A B (⟨pl', a', d', sk', be', h1, h2⟩ | h)
    · exact Or.inl ⟨pl', a', d', sk', be', h1, by omega⟩
    · exact Or.inr h
  unfold f_X5_takeStatement f_X7_writeStatement f_X5_takeStatement_20
  by_cases hp : pl < tl
  · obtain ⟨e1, g1⟩ := c_take (n := n) hc hp
    obtain ⟨e2, g2⟩ := m_take (n := n) hm hp
    have R2 : w_R a d sk be (s_sc Sc 501 (nI (pl + 1))) (s_sc Sm 736 (nI (pl + 1))) := hR.same (fun _ _ => ⟨rfl, rfl, rfl, rfl, rfl⟩) (fun _ _ _ _ => rfl) (fun _ _ _ => rfl) (by rw [y_sn _ _ _ _ (by decide)]) (by rw [y_sn _ _ _ _ (by decide)])
    rw [e1, e2, x_b2_s, x_b2_s, x_l_e, g2.2.1, if_pos (show (0 : Int32) = 0 from rfl), ← ht pl hp]
    generalize g_ar S0 605 pl = k
    generalize hA : s_sc Sc 501 (nI (pl + 1)) = A at g1 R2
    generalize hB : s_sc Sm 736 (nI (pl + 1)) = B at g2 R2
    rcases k_arg k (N := 12) (by decide) with hk | ⟨j, hj, rfl⟩
    · obtain ⟨b1, b2⟩ := c_bad (n := n) g1 (f := 2) (by decide)
      obtain ⟨b3, b4⟩ := m_bad (n := n) g2 (f := 2) (by decide)
      have hin : f_X7_in n k 0 11 = some 0 := e_in_no n (N := 12) hk (by decide)
      have e21 : f_X5_takeStatement_21 n A k 0 = some (s_sc (s_sc A 504 2) 501 (nI pl)) := by
        unfold f_X5_takeStatement_21
        rw [b1, x_b_s, x_l_e, b2.2.2.1, if_neg b2.2.1]
      rw [hin, x_b_s, if_pos rfl, b3, x_b_s, m_ws27 b4, e21]
      refine ⟨_, _, ?_, rfl, Or.inr ⟨_, _, _, b2, by omega, b4⟩⟩
      by_cases h1 : k < 0
      · rw [if_pos h1]
      · have h2 : (11 : Int32) < k := by
          rcases hk with hk | hk
          · exact absurd hk h1
          · rw [Int32.lt_iff_toInt_lt]
            rw [k_le (by decide)] at hk
            have : (11 : Int32).toInt = 11 := rfl
            omega
        rw [if_neg h1, if_pos h2]
    · have hin : f_X7_in n (nI j) 0 11 = some 1 := e_in_yes n (N := 12) hj (by decide)
      have h1 : ¬ nI j < 0 := nI_pos (by omega)
      have h2 : ¬ (11 : Int32) < nI j := nI_nlt (a := 11) (b := j) (by omega) (by decide)
      rw [if_neg h1, if_neg h2, hin, x_b_s, if_neg i_1n]
      unfold f_X5_takeStatement_21
      rw [c_good, x_b_s, x_l_e, g1.2.1, if_pos (show (0 : Int32) = 0 from rfl)]
      rcases (show j = 0 ∨ j = 1 ∨ j = 2 ∨ j = 3 ∨ j = 4 ∨ j = 5 ∨ j = 6 ∨ j = 7 ∨ j = 8 ∨ j = 9 ∨ j = 10 ∨ j = 11 by omega) with rfl | rfl | rfl | rfl | rfl | rfl | rfl | rfl | rfl | rfl | rfl | rfl
      · obtain ⟨T1, T2, t1, t2, t3⟩ := w_s0 (n := n) g1 g2 R2 ht (by omega)
        have e81 : f_X7_writeStatement_81 n B 0 0 = x_b (f_X7_writeAct n B) (fun S => some S) := by
          unfold f_X7_writeStatement_81
          rw [x_l_e, g2.2.1, if_pos rfl, if_pos rfl]
        rw [if_pos (show nI 0 = 0 from rfl), t1, x_b_s, show nI 0 = 0 from rfl, w_m27 g2.2.1 (by decide), e81, t2, x_b_s]
        exact ⟨_, _, rfl, rfl, up t3⟩
      · obtain ⟨T1, T2, t1, t2, t3⟩ := w_sT (n := n) g1 g2 R2 ht (by omega) hn (k := 1) (by decide)
        rw [show nI 1 = 1 from rfl, w_m27 g2.2.1 (by decide), w_m81t g2.2.1 1 0 (by decide), t2]
        refine ⟨T1, _, ?_, rfl, up t3⟩
        rw [if_neg (by decide), if_pos rfl]
        unfold f_X5_takeStatement_100
        rw [t1, x_b_s]
      · obtain ⟨T1, T2, t1, t2, t3⟩ := w_sT (n := n) g1 g2 R2 ht (by omega) hn (k := 2) (by decide)
        rw [show nI 2 = 2 from rfl, w_m27 g2.2.1 (by decide), w_m81t g2.2.1 2 0 (by decide), t2]
        refine ⟨T1, _, ?_, rfl, up t3⟩
        rw [if_neg (by decide), if_neg (by decide), if_pos rfl]
        unfold f_X5_takeStatement_100
        rw [t1, x_b_s]
      · obtain ⟨T1, T2, t1, t2, t3⟩ := w_s3 (n := n) g1 g2 R2 ht (by omega) (k := 3) (x := 0) (y := 0) (Or.inl rfl) (by decide) (by decide)
        have e148 : f_X7_writeStatement_148 n B 3 0 0 0 0 = f_X7_writeStatement_265 n B 3 0 0 (g_sc B 738) := rfl
        rw [show nI 3 = 3 from rfl, w_m27 g2.2.1 (by decide), w_m81 g2.2.1 3 0 (by decide) (by decide), e148, g2.2.2.2.2.1]
        refine ⟨T1, T2, ?_, ?_, up t3⟩
        · rw [if_neg (by decide), if_neg (by decide), if_neg (by decide), if_pos rfl, x_l_e, x_l_e, t1, x_b_s]
        · unfold f_X7_writeStatement_265
          rw [t2, x_b_s]
      · obtain ⟨T1, T2, t1, t2, t3⟩ := w_sT (n := n) g1 g2 R2 ht (by omega) hn (k := 4) (by decide)
        rw [show nI 4 = 4 from rfl, w_m27 g2.2.1 (by decide), w_m81t g2.2.1 4 0 (by decide), t2]
        refine ⟨T1, _, ?_, rfl, up t3⟩
        rw [if_neg (by decide), if_neg (by decide), if_neg (by decide), if_neg (by decide), if_pos rfl]
        unfold f_X5_takeStatement_100
        rw [t1, x_b_s]
      · obtain ⟨T1, T2, t1, t2, t3⟩ := w_sT (n := n) g1 g2 R2 ht (by omega) hn (k := 5) (by decide)
        rw [show nI 5 = 5 from rfl, w_m27 g2.2.1 (by decide), w_m81t g2.2.1 5 0 (by decide), t2]
        refine ⟨T1, _, ?_, rfl, up t3⟩
        rw [if_neg (by decide), if_neg (by decide), if_neg (by decide), if_neg (by decide), if_neg (by decide), if_pos rfl]
        unfold f_X5_takeStatement_100
        rw [t1, x_b_s]
      · obtain ⟨T1, T2, t1, t2, t3⟩ := w_sL (n := n) g1 g2 R2 ht hb hn (k := 6) (Or.inl ⟨rfl, rfl, rfl, rfl⟩)
        rw [show nI 6 = 6 from rfl, t2]
        refine ⟨T1, _, ?_, rfl, up t3⟩
        rw [if_neg (by decide), if_neg (by decide), if_neg (by decide), if_neg (by decide), if_neg (by decide), if_neg (by decide), t1, x_b_s]
      · obtain ⟨T1, T2, t1, t2, t3⟩ := w_sL (n := n) g1 g2 R2 ht hb hn (k := 7) (Or.inr (Or.inr (Or.inl ⟨rfl, rfl, rfl, rfl⟩)))
        rw [show nI 7 = 7 from rfl, t2]
        refine ⟨T1, _, ?_, rfl, up t3⟩
        rw [if_neg (by decide), if_neg (by decide), if_neg (by decide), if_neg (by decide), if_neg (by decide), if_neg (by decide), t1, x_b_s]
      · obtain ⟨T1, T2, t1, t2, t3⟩ := w_sJ (n := n) g1 g2 R2 ht hb hn (k := 8) (Or.inl rfl)
        rw [show nI 8 = 8 from rfl, t2]
        refine ⟨T1, _, ?_, rfl, up t3⟩
        rw [if_neg (by decide), if_neg (by decide), if_neg (by decide), if_neg (by decide), if_neg (by decide), if_neg (by decide), t1, x_b_s]
      · obtain ⟨T1, T2, t1, t2, t3⟩ := w_sL (n := n) g1 g2 R2 ht hb hn (k := 9) (Or.inr (Or.inl ⟨rfl, rfl, rfl, rfl⟩))
        rw [show nI 9 = 9 from rfl, t2]
        refine ⟨T1, _, ?_, rfl, up t3⟩
        rw [if_neg (by decide), if_neg (by decide), if_neg (by decide), if_neg (by decide), if_neg (by decide), if_neg (by decide), t1, x_b_s]
      · obtain ⟨T1, T2, t1, t2, t3⟩ := w_sL (n := n) g1 g2 R2 ht hb hn (k := 10) (Or.inr (Or.inr (Or.inr ⟨rfl, rfl, rfl, rfl⟩)))
        rw [show nI 10 = 10 from rfl, t2]
        refine ⟨T1, _, ?_, rfl, up t3⟩
        rw [if_neg (by decide), if_neg (by decide), if_neg (by decide), if_neg (by decide), if_neg (by decide), if_neg (by decide), t1, x_b_s]
      · obtain ⟨T1, T2, t1, t2, t3⟩ := w_sJ (n := n) g1 g2 R2 ht hb hn (k := 11) (Or.inr rfl)
        rw [show nI 11 = 11 from rfl, t2]
        refine ⟨T1, _, ?_, rfl, up t3⟩
        rw [if_neg (by decide), if_neg (by decide), if_neg (by decide), if_neg (by decide), if_neg (by decide), if_neg (by decide), t1, x_b_s]
  · obtain ⟨e1, b2⟩ := c_end (n := n) hc hp
    obtain ⟨e2, b4⟩ := m_end (n := n) hm hp
    rw [e1, e2, x_b2_s, x_b2_s, x_l_e, b4.2.2.1, if_neg b4.2.1, m_ws27 b4, if_neg (by decide), if_neg (by decide)]
    unfold f_X5_takeStatement_21
    rw [c_good, x_b_s, x_l_e, b2.2.2.1, if_neg b2.2.1]
    exact ⟨_, _, rfl, rfl, Or.inr ⟨_, _, _, b2, by omega, b4⟩⟩
end
