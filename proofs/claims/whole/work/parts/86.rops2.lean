/-! READING: openBody; the reference's state and range -/
def k_o6 (S : x_S) (d wc : Nat) (o s e b a : Int32) : x_S := s_ar (s_ar (s_ar (s_ar (s_ar (s_ar S 106 d o) 107 d s) 103 d e) 104 d b) 105 d a) 108 d (nI wc)
def k_op (S : x_S) (d wc : Nat) (o s e b a : Int32) : x_S := s_sc (s_sc (k_ws (k_o6 S d wc o s e b a) wc [0]) 102 (nI (d + 1))) 411 (if g_sc S 411 < nI (d + 1) then nI (d + 1) else g_sc S 411)
section
variable {m ri n d wc : Nat} {S0 S : x_S}
theorem o6_ar (o s e b a : Int32) (x y : Nat) (h : x < 103 ∨ 108 < x ∨ ¬ y = d) : g_ar (k_o6 S d wc o s e b a) x y = g_ar S x y := by
  unfold k_o6
  rw [q_ar_ar, if_neg (by omega), q_ar_ar, if_neg (by omega), q_ar_ar, if_neg (by omega), q_ar_ar, if_neg (by omega), q_ar_ar, if_neg (by omega), q_ar_ar, if_neg (by omega)]
theorem o6_at (o s e b a : Int32) : g_ar (k_o6 S d wc o s e b a) 106 d = o ∧ g_ar (k_o6 S d wc o s e b a) 107 d = s ∧ g_ar (k_o6 S d wc o s e b a) 103 d = e ∧ g_ar (k_o6 S d wc o s e b a) 104 d = b ∧ g_ar (k_o6 S d wc o s e b a) 105 d = a ∧ g_ar (k_o6 S d wc o s e b a) 108 d = nI wc := by
  unfold k_o6
  simp only [q_ar_ar, Nat.reduceEqDiff, false_and, if_false, true_and, if_true, and_self]
theorem op_ar (o s e b a : Int32) (x y : Nat) (h : x < 103 ∨ 108 < x ∨ ¬ y = d) (hx : x ≠ 407) : g_ar (k_op S d wc o s e b a) x y = g_ar S x y := by
  unfold k_op
  rw [q_ar_sc, q_ar_sc, kw_ar x y hx, o6_ar _ _ _ _ _ x y h]
theorem op_at (o s e b a : Int32) : g_ar (k_op S d wc o s e b a) 106 d = o ∧ g_ar (k_op S d wc o s e b a) 107 d = s ∧ g_ar (k_op S d wc o s e b a) 103 d = e ∧ g_ar (k_op S d wc o s e b a) 104 d = b ∧ g_ar (k_op S d wc o s e b a) 105 d = a ∧ g_ar (k_op S d wc o s e b a) 108 d = nI wc := by
  unfold k_op
  simp only [q_ar_sc]
  rw [kw_ar 106 d (by decide), kw_ar 107 d (by decide), kw_ar 103 d (by decide), kw_ar 104 d (by decide), kw_ar 105 d (by decide), kw_ar 108 d (by decide)]
  exact o6_at o s e b a
theorem op_w (o s e b a : Int32) (i : Nat) (h : i < wc) : g_ar (k_op S d wc o s e b a) 407 i = g_ar S 407 i := by
  unfold k_op
  rw [q_ar_sc, q_ar_sc, kw_lo i _ _ _ h, o6_ar _ _ _ _ _ 407 i (by omega)]
theorem op_w0 (o s e b a : Int32) : g_ar (k_op S d wc o s e b a) 407 wc = 0 := by
  unfold k_op
  rw [q_ar_sc, q_ar_sc]
  exact kw_hi [0] _ wc 0 0 rfl
theorem op_sc (o s e b a : Int32) (x : Nat) (h : x ≠ 102 ∧ x ≠ 411 ∧ x ≠ 409) : g_sc (k_op S d wc o s e b a) x = g_sc S x := by
  unfold k_op
  rw [y_sn _ _ _ _ h.2.1, y_sn _ _ _ _ h.1, kw_sc x h.2.2]
  rfl
theorem op_411 (o s e b a : Int32) : g_sc (k_op S d wc o s e b a) 411 = if g_sc S 411 < nI (d + 1) then nI (d + 1) else g_sc S 411 := by
  unfold k_op
  rw [y_sc]
theorem k_open (h : k_b S0 ri n d wc S) (hd : d < 61) (hw : wc < 241) (o s e b a : Int32) : f_X1_openBody m S o s e b a = some (k_op S d wc o s e b a) ∧ k_b S0 ri n (d + 1) (wc + 1) (k_op S d wc o s e b a) := by
  obtain ⟨h1, h2, h3, h4, h5, h6⟩ := id h
  have d2 : d < 2 ^ 31 := by omega
  have c0 : nI d < (61 : Int32) := nI_lt (b := 61) hd (by decide)
  have cd := k_in (i := d) (L := 61) hd (by decide)
  have f6 : fk S (k_o6 S d wc o s e b a) := (((((fk_ar S 106 d _ (by omega)).tr (fk_ar _ 107 d _ (by omega))).tr (fk_ar _ 103 d _ (by omega))).tr (fk_ar _ 104 d _ (by omega))).tr (fk_ar _ 105 d _ (by omega))).tr (fk_ar _ 108 d _ (by omega))
  have hb : k_b S0 ri n d wc (k_o6 S d wc o s e b a) := ⟨h1.tr f6, h2, h3, h4, h5, h6⟩
  have hb2 := k_b.ws [0] hb
  refine ⟨?_, ?_⟩
  · unfold f_X1_openBody
    rw [x_l_e, h4, if_pos c0, x_l_e, x_gt cd, x_l_e]
    rw [x_l_e, q_sc_ar, h4, x_gt cd, x_l_e]
    rw [x_l_e, q_sc_ar, q_sc_ar, h4, x_gt cd, x_l_e]
    rw [x_l_e, q_sc_ar, q_sc_ar, q_sc_ar, h4, x_gt cd, x_l_e]
    rw [x_l_e, q_sc_ar, q_sc_ar, q_sc_ar, q_sc_ar, h4, x_gt cd, x_l_e]
    rw [x_l_e, q_sc_ar, q_sc_ar, q_sc_ar, q_sc_ar, q_sc_ar, h6, x_l_e, q_sc_ar, q_sc_ar, q_sc_ar, q_sc_ar, q_sc_ar, h4, x_gt cd, x_l_e, nI_clamp d2]
    show x_b (f_X4_word m (k_o6 S d wc o s e b a) 0) _ = _
    rw [k_word hb hw, x_b_s, x_l_e, hb2.2.2.2.1, nI_1, x_l_e, x_l_e, x_l_e, y_sc, x_l_e, x_l_e, y_sn _ 102 411 _ (by decide), kw_sc 411 (by decide)]
    rfl
  · refine ⟨(hb2.1.tr (fk_sc _ 102 _ (by omega))).tr (fk_sc _ 411 _ (by omega)), hb2.2.1, hb2.2.2.1, ?_, ?_, ?_⟩
    · unfold k_op
      rw [y_sn _ _ _ _ (by decide), y_sc]
    · unfold k_op
      rw [y_sn _ _ _ _ (by decide), y_sn _ _ _ _ (by decide)]; exact hb2.2.2.2.2.1
    · unfold k_op
      rw [y_sn _ _ _ _ (by decide), y_sn _ _ _ _ (by decide)]; exact hb2.2.2.2.2.2
end
/-- the reference -/
def j_b (S1 : x_S) (n p : Nat) (S : x_S) : Prop := fr_m S1 S ∧ g_sc S 715 = nI n ∧ g_sc S 724 = nI p
def j_st (S : x_S) (n : Nat) (kd fr be pa bo ta tb go : Int32) : x_S := s_sc (s_ar (s_ar (s_ar (s_ar (s_ar (s_ar (s_ar (s_ar S 716 n kd) 717 n fr) 718 n be) 719 n pa) 720 n bo) 721 n ta) 722 n tb) 723 n go) 715 (nI (n + 1))
def j_rg (S : x_S) (p : Nat) (k j b c i y : Int32) : x_S := s_sc (s_ar (s_ar (s_ar (s_ar (s_ar (s_ar S 725 p k) 726 p j) 727 p b) 728 p c) 729 p i) 730 p y) 724 (nI (p + 1))
section
variable {m n p : Nat} {S1 S : x_S}
theorem st_ar (kd fr be pa bo ta tb go : Int32) (x y : Nat) (h : x < 716 ∨ 723 < x ∨ ¬ y = n) : g_ar (j_st S n kd fr be pa bo ta tb go) x y = g_ar S x y := by
  unfold j_st
  rw [q_ar_sc, q_ar_ar, if_neg (by omega), q_ar_ar, if_neg (by omega), q_ar_ar, if_neg (by omega), q_ar_ar, if_neg (by omega), q_ar_ar, if_neg (by omega), q_ar_ar, if_neg (by omega), q_ar_ar, if_neg (by omega), q_ar_ar, if_neg (by omega)]
theorem st_at (kd fr be pa bo ta tb go : Int32) : g_ar (j_st S n kd fr be pa bo ta tb go) 716 n = kd ∧ g_ar (j_st S n kd fr be pa bo ta tb go) 717 n = fr ∧ g_ar (j_st S n kd fr be pa bo ta tb go) 718 n = be ∧ g_ar (j_st S n kd fr be pa bo ta tb go) 719 n = pa ∧ g_ar (j_st S n kd fr be pa bo ta tb go) 720 n = bo ∧ g_ar (j_st S n kd fr be pa bo ta tb go) 721 n = ta ∧ g_ar (j_st S n kd fr be pa bo ta tb go) 722 n = tb ∧ g_ar (j_st S n kd fr be pa bo ta tb go) 723 n = go := by
  unfold j_st
  simp only [q_ar_sc, q_ar_ar, Nat.reduceEqDiff, false_and, if_false, true_and, if_true, and_self]
theorem rg_ar (k j b c i y : Int32) (x z : Nat) (h : x < 725 ∨ 730 < x ∨ ¬ z = p) : g_ar (j_rg S p k j b c i y) x z = g_ar S x z := by
  unfold j_rg
  rw [q_ar_sc, q_ar_ar, if_neg (by omega), q_ar_ar, if_neg (by omega), q_ar_ar, if_neg (by omega), q_ar_ar, if_neg (by omega), q_ar_ar, if_neg (by omega), q_ar_ar, if_neg (by omega)]
theorem rg_at (k j b c i y : Int32) : g_ar (j_rg S p k j b c i y) 725 p = k ∧ g_ar (j_rg S p k j b c i y) 726 p = j ∧ g_ar (j_rg S p k j b c i y) 727 p = b ∧ g_ar (j_rg S p k j b c i y) 728 p = c ∧ g_ar (j_rg S p k j b c i y) 729 p = i ∧ g_ar (j_rg S p k j b c i y) 730 p = y := by
  unfold j_rg
  simp only [q_ar_sc, q_ar_ar, Nat.reduceEqDiff, false_and, if_false, true_and, if_true, and_self]
theorem j_state (h : j_b S1 n (p + 1) S) (hn : n < 200) (hp : p < 200) (kd fr be ta tb go : Int32) : f_X7_state m S kd fr be ta tb go = some (nI n, j_st S n kd fr be (g_ar S 729 p) (g_ar S 730 p) ta tb go) ∧ j_b S1 (n + 1) (p + 1) (j_st S n kd fr be (g_ar S 729 p) (g_ar S 730 p) ta tb go) := by
  obtain ⟨h1, h2, h3⟩ := id h
  have n2 : n < 2 ^ 31 := by omega
  have p2 : p < 2 ^ 31 := by omega
  have cn := k_in (i := n) (L := 200) hn (by decide)
  have cp := k_in (i := p) (L := 200) hp (by decide)
  refine ⟨?_, h1.tr ?_, ?_, ?_⟩
  · have e729 : g_ar (s_ar (s_ar (s_ar S 716 n kd) 717 n fr) 718 n be) 729 p = g_ar S 729 p := by
      simp only [q_ar_ar, Nat.reduceEqDiff, false_and, if_false]
    have e730 : g_ar (s_ar (s_ar (s_ar (s_ar S 716 n kd) 717 n fr) 718 n be) 719 n (g_ar S 729 p)) 730 p = g_ar S 730 p := by
      simp only [q_ar_ar, Nat.reduceEqDiff, false_and, if_false]
    unfold f_X7_state j_st
    rw [x_l_e, h2, x_gt cn, x_l_e, x_gt cn, x_l_e, x_gt cn, x_l_e]
    rw [x_l_e, q_sc_ar, q_sc_ar, q_sc_ar, h3, nI_pred, x_gt cp, nI_clamp p2, nI_clamp n2, x_l_e, e729, x_gt (k_in2 hn n2), x_l_e]
    rw [x_l_e, q_sc_ar, q_sc_ar, q_sc_ar, q_sc_ar, h3, nI_pred, x_gt cp, nI_clamp p2, x_l_e, e730, x_gt (k_in2 hn n2), x_l_e, x_gt (k_in2 hn n2), x_l_e, x_gt (k_in2 hn n2), x_l_e, x_gt (k_in2 hn n2), x_l_e]
    rw [x_l_e, q_sc_ar, q_sc_ar, q_sc_ar, q_sc_ar, q_sc_ar, q_sc_ar, q_sc_ar, q_sc_ar, h2, nI_1, x_l_e]
  · exact ((((((((fr_m_ar S 716 n _ (by decide)).tr (fr_m_ar _ 717 n _ (by decide))).tr (fr_m_ar _ 718 n _ (by decide))).tr (fr_m_ar _ 719 n _ (by decide))).tr (fr_m_ar _ 720 n _ (by decide))).tr (fr_m_ar _ 721 n _ (by decide))).tr (fr_m_ar _ 722 n _ (by decide))).tr (fr_m_ar _ 723 n _ (by decide))).tr (fr_m_sc _ 715 _ (by decide))
  · exact y_sc _ _ _
  · exact (y_sn _ _ _ _ (by decide)).trans h3
theorem j_range (h : j_b S1 n p S) (hp : p < 200) (k j b c i y : Int32) : f_X7_range m S k j b c i y = some (j_rg S p k j b c i y) ∧ j_b S1 n (p + 1) (j_rg S p k j b c i y) := by
  obtain ⟨h1, h2, h3⟩ := id h
  have p2 : p < 2 ^ 31 := by omega
  have cp := k_in (i := p) (L := 200) hp (by decide)
  refine ⟨?_, h1.tr ?_, ?_, ?_⟩
  · unfold f_X7_range j_rg
    rw [x_l_e, h3, x_gt cp, x_l_e]
    rw [x_l_e, q_sc_ar, h3, x_gt cp, x_l_e]
    rw [x_l_e, q_sc_ar, q_sc_ar, h3, x_gt cp, x_l_e]
    rw [x_l_e, q_sc_ar, q_sc_ar, q_sc_ar, h3, x_gt cp, x_l_e]
    rw [x_l_e, q_sc_ar, q_sc_ar, q_sc_ar, q_sc_ar, h3, x_gt cp, x_l_e]
    rw [x_l_e, q_sc_ar, q_sc_ar, q_sc_ar, q_sc_ar, q_sc_ar, h3, x_gt cp, x_l_e]
    rw [x_l_e, q_sc_ar, q_sc_ar, q_sc_ar, q_sc_ar, q_sc_ar, q_sc_ar, h3, nI_1, x_l_e, nI_clamp p2]
  · exact ((((((fr_m_ar S 725 p _ (by decide)).tr (fr_m_ar _ 726 p _ (by decide))).tr (fr_m_ar _ 727 p _ (by decide))).tr (fr_m_ar _ 728 p _ (by decide))).tr (fr_m_ar _ 729 p _ (by decide))).tr (fr_m_ar _ 730 p _ (by decide))).tr (fr_m_sc _ 724 _ (by decide))
  · exact (y_sn _ _ _ _ (by decide)).trans h2
  · exact y_sc _ _ _
end
