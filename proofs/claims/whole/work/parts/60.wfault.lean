/-! write: behind a FAULT nothing more is told, and nothing falls -/
def frw (S0 S : x_S) : Prop := (∀ x, (x < 500 ∨ 600 ≤ x) → g_sc S x = g_sc S0 x) ∧ (∀ x y, (x < 500 ∨ 600 ≤ x) → g_ar S x y = g_ar S0 x y) ∧ g_np S = g_np S0 ∧ (∀ x y, g_ps S x y = g_ps S0 x y) ∧ (∀ x i j, i ≠ 0 → g_pa S x i j = g_pa S0 x i j) ∧ (∀ x, g_rf S x = g_rf S0 x ∨ (x = 502 ∧ g_rf S x = some 0)) ∧ ∀ x y, g_ra S x y = g_ra S0 x y
theorem frw_rf (S : x_S) : frw S S := ⟨fun _ _ => rfl, fun _ _ _ => rfl, rfl, fun _ _ => rfl, fun _ _ _ _ => rfl, fun _ => Or.inl rfl, fun _ _ => rfl⟩
theorem frw.tr {S T U : x_S} (h : frw S T) (g : frw T U) : frw S U := ⟨fun x hx => (g.1 x hx).trans (h.1 x hx), fun x y hx => (g.2.1 x y hx).trans (h.2.1 x y hx), g.2.2.1.trans h.2.2.1, fun x y => (g.2.2.2.1 x y).trans (h.2.2.2.1 x y), fun x i j hi => (g.2.2.2.2.1 x i j hi).trans (h.2.2.2.2.1 x i j hi), fun x => (g.2.2.2.2.2.1 x).elim (fun e => (h.2.2.2.2.2.1 x).imp (fun q => e.trans q) (fun q => ⟨q.1, e.trans q.2⟩)) Or.inr, fun x y => (g.2.2.2.2.2.2 x y).trans (h.2.2.2.2.2.2 x y)⟩
theorem frw_sc (S : x_S) (k : Nat) (v : Int32) (h1 : 500 ≤ k) (h2 : k < 600) : frw S (s_sc S k v) := ⟨fun x hx => by rw [q_sc_sc, if_neg (by omega)], fun _ _ _ => rfl, rfl, fun _ _ => rfl, fun _ _ _ _ => rfl, fun _ => Or.inl rfl, fun _ _ => rfl⟩
theorem frw_ar (S : x_S) (k i : Nat) (v : Int32) (h1 : 500 ≤ k) (h2 : k < 600) : frw S (s_ar S k i v) := ⟨fun _ _ => rfl, fun x y hx => by rw [q_ar_ar, if_neg (by omega)], rfl, fun _ _ => rfl, fun _ _ _ _ => rfl, fun _ => Or.inl rfl, fun _ _ => rfl⟩
theorem frw_pa (S : x_S) (k j : Nat) (v : Int32) : frw S (s_pa S k 0 j v) := ⟨fun _ _ => rfl, fun _ _ _ => rfl, rfl, fun _ _ => rfl, fun x i y hi => by rw [q_pa_pa, if_neg (fun q => hi q.2.1)], fun _ => Or.inl rfl, fun _ _ => rfl⟩
theorem frw_put (S : x_S) (j : Nat) (k a b c : Int32) : frw S (s_put S 0 j k a b c) := (((frw_pa S 0 j _).tr (frw_pa _ 1 j _)).tr (frw_pa _ 2 j _)).tr (frw_pa _ 3 j _)
def xf_c (S0 : x_S) (v p : Int32) (M : Nat) (S : x_S) : Prop := frw S0 S ∧ ¬ v = 0 ∧ g_sc S 504 = v ∧ g_sc S 501 = p ∧ (∃ a, a < M ∧ M < 1000000 ∧ g_sc S 505 = nI a) ∧ (∃ d, d ≤ 61 ∧ g_sc S 509 = nI d) ∧ 0 < g_np S
def xf_m (S0 : x_S) (v p : Int32) (S : x_S) : Prop := fr_m S0 S ∧ ¬ v = 0 ∧ g_sc S 737 = v ∧ g_sc S 736 = p ∧ (∃ a, a ≤ 400 ∧ g_sc S 738 = nI a) ∧ ∃ b, b ≤ 61 ∧ g_sc S 745 = nI b
section
variable {n M : Nat} {S0 S : x_S} {v p : Int32}
theorem f_take (h : xf_c S0 v p M S) : f_X5_take n S = some (0, S) := by
  unfold f_X5_take
  rw [x_l_e, h.2.2.1, if_neg h.2.1]
theorem f_req (h : xf_c S0 v p M S) (c f : Int32) : f_X5_require n S c f = some S := by
  unfold f_X5_require
  by_cases e : c = 0
  · rw [if_pos e, x_l_e, h.2.2.1, if_neg h.2.1]
  · rw [if_neg e]
theorem e_mA01 (n : Nat) (k a : Int32) : ∃ u, (u = 0 ∨ u = 1) ∧ f_X6_mayHaveA n k a = some u := by
  have h42 : ∃ u, (u = 0 ∨ u = 1) ∧ f_X6_mayHaveA_42 n a = some u := by
    rw [e_mA42]
    by_cases h : 0 ≤ a ∧ a ≤ 3
    · exact ⟨1, Or.inr rfl, by rw [if_pos h]⟩
    · exact ⟨0, Or.inl rfl, by rw [if_neg h]⟩
  have h73 : ∃ u, (u = 0 ∨ u = 1) ∧ f_X6_mayHaveA_73 n a = some u := by
    unfold f_X6_mayHaveA_73
    rw [z_g0, z_g1]
    by_cases h : a = 0
    · exact ⟨1, Or.inr rfl, by rw [if_pos h]⟩
    · exact ⟨0, Or.inl rfl, by rw [if_neg h]⟩
  by_cases h5 : k = 5
  · subst h5
    rw [e_mA5]
    by_cases h : 0 ≤ a ∧ a ≤ 11
    · exact ⟨1, Or.inr rfl, by rw [if_pos h]⟩
    · exact ⟨0, Or.inl rfl, by rw [if_neg h]⟩
  · unfold f_X6_mayHaveA
    rw [if_neg h5, z_g1]
    by_cases h0 : k = 0
    · rw [if_pos h0]; exact ⟨1, Or.inr rfl, rfl⟩
    · rw [if_neg h0]
      by_cases h1 : k = 1
      · rw [if_pos h1]; exact h42
      · rw [if_neg h1]
        by_cases h2 : k = 2
        · rw [if_pos h2]; exact h73
        · rw [if_neg h2]
          by_cases h3 : k = 3
          · rw [if_pos h3]; exact h42
          · rw [if_neg h3]
            by_cases h4 : k = 4
            · rw [if_pos h4]; exact h73
            · rw [if_neg h4]; exact h73
theorem e_mB01 (n : Nat) (k b : Int32) : ∃ u, (u = 0 ∨ u = 1) ∧ f_X6_mayHaveB n k b = some u := by
  by_cases h3 : k = 3
  · subst h3
    rw [e_mB3]
    by_cases h : 0 ≤ b ∧ b ≤ 5
    · exact ⟨1, Or.inr rfl, by rw [if_pos h]⟩
    · exact ⟨0, Or.inl rfl, by rw [if_neg h]⟩
  · unfold f_X6_mayHaveB
    rw [if_neg h3, z_g0, z_g1]
    by_cases h1 : k = 1
    · rw [if_pos h1]; exact ⟨1, Or.inr rfl, rfl⟩
    · rw [if_neg h1]
      by_cases h : b = 0
      · exact ⟨1, Or.inr rfl, by rw [if_pos h]⟩
      · exact ⟨0, Or.inl rfl, by rw [if_neg h]⟩
theorem f_takeA (h : xf_c S0 v p M S) (k : Int32) : f_X5_takeA n S k = some (0, S) := by
  obtain ⟨u, -, hu⟩ := e_mA01 n k 0
  unfold f_X5_takeA
  rw [f_take h, x_b2_s, hu, x_b_s, f_req h, x_b_s]
theorem f_takeB (h : xf_c S0 v p M S) (k : Int32) : f_X5_takeB n S k = some (0, S) := by
  obtain ⟨u, -, hu⟩ := e_mB01 n k 0
  unfold f_X5_takeB
  rw [f_take h, x_b2_s, hu, x_b_s, f_req h, x_b_s]
theorem f_open (h : xf_c S0 v p M S) (a b c d : Int32) : f_X5_openBody n S a b c d = some S := by
  have h36 : ∀ t, f_X5_openBody_36 n S a b c d 0 t = some S := fun t => by
    unfold f_X5_openBody_36
    rw [f_req h, x_b_s, x_l_e, h.2.2.1, if_neg h.2.1]
  have h21 : ∀ t, f_X5_openBody_21 n S a b c d 0 t = some S := fun t => by
    unfold f_X5_openBody_21
    rw [f_req h, x_b_s, h36, h36]
    split <;> rfl
  unfold f_X5_openBody
  rw [f_take h, x_b2_s, x_l_e, h21, h21]
  split <;> rfl
theorem f_emit (h : xf_c S0 v p M S) (hM : M + 1 < 1000000) (k x y z : Int32) : ∃ S1, f_X5_emit n S k x y z = some S1 ∧ xf_c S0 v p (M + 1) S1 ∧ ∃ a, a < M ∧ g_sc S1 505 = nI (a + 1) := by
  obtain ⟨h1, h2, h3, h4, ⟨a, a1, a2, a3⟩, ⟨d, d1, d2⟩, h7⟩ := h
  have a2' : a < 2 ^ 31 := by omega
  unfold f_X5_emit
  rw [x_l_e, a3]
  by_cases e : a < 60
  · have c1 : ¬ (60 : Int32) ≤ nI a := nI_ge (a := a) (b := 60) e (by decide)
    have c3 := k_in2 e a2'
    have c4 := nI_clamp a2'
    have g5 : g_sc (s_put S 0 a k x y z) 505 = nI a := a3
    rw [if_neg c1, x_l_e, x_gt h7, e_put n S 0 a k x y z h7 e, x_b_s]
    simp only [x_l_e, g5, c4, x_gt c3, q_sc_ar, nI_1]
    exact ⟨_, rfl, ⟨((h1.tr (frw_put S a k x y z)).tr (frw_ar _ 508 a _ (by decide) (by decide))).tr (frw_sc _ 505 _ (by decide) (by decide)), h2, h3, h4, ⟨a + 1, by omega, by omega, rfl⟩, ⟨d, d1, d2⟩, h7⟩, a, a1, rfl⟩
  · have c1 : (60 : Int32) ≤ nI a := nI_le (a := 60) (by omega) a2'
    rw [if_pos c1, x_l_e, x_l_e, nI_1]
    exact ⟨_, rfl, ⟨h1.tr (frw_sc _ 505 _ (by decide) (by decide)), h2, h3, h4, ⟨a + 1, by omega, by omega, rfl⟩, ⟨d, d1, d2⟩, h7⟩, a, a1, rfl⟩
theorem f_place (h : xf_c S0 v p M S) : ∃ S1, f_X5_takePlace n S = some (0, S1) ∧ xf_c S0 v p M S1 := by
  unfold f_X5_takePlace
  rw [f_take h, x_b2_s, if_neg (by decide)]
  unfold f_X5_takePlace_15
  rw [f_req h, x_b_s, x_l_e, x_l_e, x_l_e]
  exact ⟨_, rfl, h.1.tr (frw_sc _ 506 _ (by decide) (by decide)), h.2⟩
theorem f_act27 (h : xf_c S0 v p M S) (hM : M + 1 < 1000000) (k t : Int32) : ∃ S1, f_X5_takeAct_27 n S k t = some S1 ∧ xf_c S0 v p (M + 1) S1 := by
  unfold f_X5_takeAct_27
  rw [f_req h, x_b_s, f_takeA h, x_b2_s, f_takeB h, x_b2_s]
  obtain ⟨S1, z1, z2, -⟩ := f_emit (n := n) h hM k 0 0 0
  rw [z1, x_b_s]
  exact ⟨S1, rfl, z2⟩
theorem f_t32 (h : xf_c S0 v p M S) (hM : M + 1 < 1000000) (k x y : Int32) : ∃ S1, f_X5_takeTested_32 n S k x y = some S1 ∧ xf_c S0 v p (M + 1) S1 := by
  unfold f_X5_takeTested_32
  by_cases e : k = 5
  · rw [if_pos e, f_open h, x_b_s]
    refine ⟨S, rfl, h.1, h.2.1, h.2.2.1, h.2.2.2.1, ?_, h.2.2.2.2.2⟩
    obtain ⟨a, a1, a2, a3⟩ := h.2.2.2.2.1
    exact ⟨a, by omega, by omega, a3⟩
  · rw [if_neg e, x_l_e, f_open h, x_b_s]
    obtain ⟨S1, z1, z2, -⟩ := f_emit (n := n) h hM 3 x y 0
    rw [z1, x_b_s]
    exact ⟨S1, rfl, z2⟩
theorem f_t22 (h : xf_c S0 v p M S) (hM : M + 1 < 1000000) (k x y : Int32) : ∃ S1, f_X5_takeTested_22 n S k x y = some S1 ∧ xf_c S0 v p (M + 1) S1 := by
  unfold f_X5_takeTested_22
  rw [x_l_e, x_l_e]
  exact f_t32 (S := s_sc S 507 (g_sc S 507 + 1)) ⟨h.1.tr (frw_sc _ 507 _ (by decide) (by decide)), h.2⟩ hM k x y
theorem f_l107 (h : xf_c S0 v p M S) (hM : M + 1 < 1000000) (a3 a4 a5 a6 t : Int32) : ∃ S1, f_X5_takeLeap_107 n S a3 a4 a5 a6 t = some S1 ∧ xf_c S0 v p (M + 1) S1 := by
  obtain ⟨S1, z1, z2, a, a1, z3⟩ := f_emit (n := n) h hM t a4 a5 a6
  unfold f_X5_takeLeap_107
  rw [z1, x_b_s]
  by_cases e : a3 = 8
  · rw [if_pos e]; exact ⟨S1, rfl, z2⟩
  · rw [if_neg e, x_l_e, z3]
    by_cases e2 : a < 60
    · have c1 : ¬ (60 : Int32) < nI (a + 1) := nI_nlt (a := 60) (b := a + 1) (by omega) (by decide)
      have a22 : a < 2 ^ 31 := by omega
      have c3 := k_in2 e2 a22
      have c4 := nI_clamp a22
      simp only [if_neg c1, x_l_e, nI_pred, c4, x_gt c3]
      exact ⟨_, rfl, z2.1.tr (frw_ar _ 508 a _ (by decide) (by decide)), z2.2⟩
    · have c1 : (60 : Int32) < nI (a + 1) := nI_lt (a := 60) (b := a + 1) (by omega) (by have := h.2.2.2.2.1; omega)
      rw [if_pos c1]; exact ⟨S1, rfl, z2⟩
theorem f_l95 (h : xf_c S0 v p M S) (hM : M + 1 < 1000000) (a2 a3 a4 a5 t : Int32) : ∃ S1, f_X5_takeLeap_95 n S a2 a3 a4 a5 t = some S1 ∧ xf_c S0 v p (M + 1) S1 := by
  unfold f_X5_takeLeap_95
  split
  · exact f_l107 h hM _ _ _ _ _
  · exact f_l107 h hM _ _ _ _ _
theorem f_l79 (h : xf_c S0 v p M S) (hM : M + 1 < 1000000) (a2 a3 a4 t : Int32) : ∃ S1, f_X5_takeLeap_79 n S a2 a3 a4 t = some S1 ∧ xf_c S0 v p (M + 1) S1 := by
  unfold f_X5_takeLeap_79
  split
  · obtain ⟨S1, z1, z2⟩ := f_place (n := n) h
    rw [z1, x_b2_s]
    exact f_l95 z2 hM _ _ _ _ _
  · exact f_l95 h hM _ _ _ _ _
theorem f_l64 (h : xf_c S0 v p M S) (hM : M + 1 < 1000000) (a2 a3 t : Int32) : ∃ S1, f_X5_takeLeap_64 n S a2 a3 t = some S1 ∧ xf_c S0 v p (M + 1) S1 := by
  unfold f_X5_takeLeap_64
  split
  · exact f_l79 h hM _ _ _ _
  · rw [f_takeB h, x_b2_s]
    exact f_l79 h hM _ _ _ _
theorem f_l47 (h : xf_c S0 v p M S) (hM : M + 1 < 1000000) (a2 a3 t : Int32) : ∃ S1, f_X5_takeLeap_47 n S a2 a3 t = some S1 ∧ xf_c S0 v p (M + 1) S1 := by
  unfold f_X5_takeLeap_47
  rw [f_req h, x_b_s]
  split
  · exact f_l64 h hM _ _ _
  · rw [f_takeA h, x_b2_s]
    exact f_l64 h hM _ _ _
/-! the reference -/
theorem m_next (h : xf_m S0 v p S) : f_X7_next n S = some (0, S) := by
  unfold f_X7_next
  rw [x_l_e, h.2.2.1, if_neg h.2.1]
theorem m_wrong (h : xf_m S0 v p S) (f : Int32) : f_X7_wrong n S f = some S := by
  unfold f_X7_wrong
  rw [x_l_e, h.2.2.1, if_neg h.2.1]
theorem e_400 : (400 : Int32).toInt = 400 := by decide
theorem m_make1 {a : Nat} (a2 : g_sc S 738 = nI a) (e : a < 400) (k x y z : Int32) : f_X7_make n S k x y z = some (s_sc (s_ar (s_ar (s_ar (s_ar (s_ar S 739 a k) 740 a x) 741 a y) 742 a z) 743 a 0) 738 (nI (a + 1))) := by
  have a22 : a < 2 ^ 31 := by omega
  have c1 : ¬ (400 : Int32) ≤ nI a := fun q => by rw [k_ge a22, e_400] at q; omega
  have c3 := k_in (i := a) (L := 400) e (by omega)
  have c4 := nI_clamp a22
  unfold f_X7_make
  rw [x_l_e, a2, if_neg c1, x_l_e, x_gt c3, x_l_e, x_l_e, q_sc_ar, a2, x_gt c3, x_l_e, x_l_e, q_sc_ar, q_sc_ar, a2, x_gt c3, x_l_e, x_l_e, q_sc_ar, q_sc_ar, q_sc_ar, a2, x_gt c3, x_l_e, x_l_e, q_sc_ar, q_sc_ar, q_sc_ar, q_sc_ar, a2, x_gt c3, x_l_e, x_l_e, q_sc_ar, q_sc_ar, q_sc_ar, q_sc_ar, q_sc_ar, a2, x_l_e, c4, nI_1]
theorem m_make2 {a : Nat} (a2 : g_sc S 738 = nI a) (e : a = 400) (k x y z : Int32) : f_X7_make n S k x y z = some S := by
  have a22 : a < 2 ^ 31 := by omega
  have c1 : (400 : Int32) ≤ nI a := (k_ge a22).mpr (by rw [e_400]; omega)
  unfold f_X7_make
  rw [x_l_e, a2, if_pos c1]
theorem m_make3 {a : Nat} (h1 : fr_m S0 S) (k x y z w : Int32) : fr_m S0 (s_sc (s_ar (s_ar (s_ar (s_ar (s_ar S 739 a k) 740 a x) 741 a y) 742 a z) 743 a 0) 738 w) := (((((h1.tr (fr_m_ar _ 739 a k (by decide))).tr (fr_m_ar _ 740 a x (by decide))).tr (fr_m_ar _ 741 a y (by decide))).tr (fr_m_ar _ 742 a z (by decide))).tr (fr_m_ar _ 743 a 0 (by decide))).tr (fr_m_sc _ 738 _ (by decide))
theorem m_make (h : xf_m S0 v p S) (k x y z : Int32) : ∃ S1, f_X7_make n S k x y z = some S1 ∧ xf_m S0 v p S1 ∧ ∃ a, 0 < a ∧ a ≤ 400 ∧ g_sc S1 738 = nI a := by
  obtain ⟨h1, h2, h3, h4, ⟨a, a1, a2⟩, ⟨b, b1, b2⟩⟩ := h
  by_cases e : a < 400
  · rw [m_make1 a2 e]
    have g1 : ∀ T : x_S, ∀ w : Int32, g_sc (s_sc T 738 w) 738 = w := fun T w => by rw [q_sc_sc, if_pos rfl]
    have g2 : ∀ T : x_S, ∀ w : Int32, g_sc (s_sc T 738 w) 737 = g_sc T 737 := fun T w => by rw [q_sc_sc, if_neg (by decide)]
    have g3 : ∀ T : x_S, ∀ w : Int32, g_sc (s_sc T 738 w) 736 = g_sc T 736 := fun T w => by rw [q_sc_sc, if_neg (by decide)]
    have g4 : ∀ T : x_S, ∀ w : Int32, g_sc (s_sc T 738 w) 745 = g_sc T 745 := fun T w => by rw [q_sc_sc, if_neg (by decide)]
    exact ⟨_, rfl, ⟨m_make3 h1 k x y z _, h2, (g2 _ _).trans h3, (g3 _ _).trans h4, ⟨a + 1, by omega, g1 _ _⟩, ⟨b, b1, (g4 _ _).trans b2⟩⟩, a + 1, by omega, by omega, g1 _ _⟩
  · rw [m_make2 a2 (by omega)]
    exact ⟨S, rfl, ⟨h1, h2, h3, h4, ⟨a, a1, a2⟩, ⟨b, b1, b2⟩⟩, a, by omega, a1, a2⟩
theorem m_begin (h : xf_m S0 v p S) (a b c d : Int32) : f_X7_beginBody n S a b c d = some S := by
  unfold f_X7_beginBody
  rw [m_next h, x_b2_s, x_l_e, h.2.2.1, if_neg h.2.1]
  unfold f_X7_beginBody_30
  rw [if_pos (by decide)]
  unfold f_X7_beginBody_40
  rw [x_l_e, h.2.2.1, if_neg h.2.1]
theorem m_testing (h : xf_m S0 v p S) (k : Int32) : f_X7_testing n S k = some (0, S) := by
  have h16 : ∀ t, f_X7_testing_16 n S 0 t 0 0 = some (0, S) := fun t => by
    unfold f_X7_testing_16
    rw [e_in, x_b_s, m_wrong h, x_b_s]
    split <;> rfl
  unfold f_X7_testing
  rw [m_next h, x_b2_s, h16, h16]
  split <;> rfl
theorem m_wa101 (h : xf_m S0 v p S) (k x y : Int32) : ∃ S1, f_X7_writeAct_101 n S k x y = some S1 ∧ xf_m S0 v p S1 := by
  obtain ⟨S1, z1, z2, -⟩ := m_make (n := n) h k x y 0
  unfold f_X7_writeAct_101
  rw [z1, x_b_s]
  exact ⟨S1, rfl, z2⟩
theorem m_wa75 (h : xf_m S0 v p S) (k x : Int32) : ∃ S1, f_X7_writeAct_75 n S k x = some S1 ∧ xf_m S0 v p S1 := by
  unfold f_X7_writeAct_75
  rw [m_next h, x_b2_s, x_l_e, h.2.2.1, if_neg h.2.1]
  exact m_wa101 h _ _ _
theorem m_wa36 (h : xf_m S0 v p S) (k : Int32) : ∃ S1, f_X7_writeAct_36 n S k = some S1 ∧ xf_m S0 v p S1 := by
  unfold f_X7_writeAct_36
  rw [m_next h, x_b2_s, x_l_e, h.2.2.1, if_neg h.2.1]
  exact m_wa75 h _ _
theorem m_ws81 (h : xf_m S0 v p S) (k t : Int32) : f_X7_writeStatement_81 n S k t = some S := by
  unfold f_X7_writeStatement_81
  rw [x_l_e, h.2.2.1, if_neg h.2.1]
theorem m_ws56 (h : xf_m S0 v p S) (k t : Int32) : f_X7_writeStatement_56 n S k t = some S := by
  unfold f_X7_writeStatement_56
  rw [x_l_e, h.2.2.1, if_neg h.2.1, m_ws81 h]
theorem m_ws27 (h : xf_m S0 v p S) (k : Int32) : f_X7_writeStatement_27 n S k = some S := by
  unfold f_X7_writeStatement_27 f_X7_writeStatement_51
  rw [m_ws56 h, m_ws56 h]
  split
  · rfl
  · split
    · rfl
    · split
      · rfl
      · split <;> rfl
end
