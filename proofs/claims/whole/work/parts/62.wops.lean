/-! write: what both do side by side, without a FAULT so far -/
def c_b (S0 : x_S) (tl pl a d : Nat) (S : x_S) : Prop := frw S0 S ∧ g_sc S 504 = 0 ∧ g_sc S 501 = nI pl ∧ g_sc S 503 = nI tl ∧ g_rf S 502 = some 0 ∧ g_sc S 505 = nI a ∧ g_sc S 509 = nI d ∧ 0 < g_np S ∧ pl ≤ tl ∧ tl ≤ 300 ∧ a ≤ 390 ∧ d ≤ 61
def m_b (S0 : x_S) (tl pl a d : Nat) (S : x_S) : Prop := fr_m S0 S ∧ g_sc S 737 = 0 ∧ g_sc S 736 = nI pl ∧ g_sc S 708 = nI tl ∧ g_sc S 738 = nI a ∧ g_sc S 745 = nI d ∧ pl ≤ tl ∧ tl ≤ 300 ∧ a ≤ 390 ∧ d ≤ 61
/-- a FAULT in both, the same one -/
def w_F (S0 S1 : x_S) (Sc Sm : x_S) : Prop := ∃ v p M, xf_c S0 v p M Sc ∧ M ≤ 1000 ∧ xf_m S1 v p Sm
def w_G (S0 S1 : x_S) (Sc Sm : x_S) : Prop := ∃ v p M, xf_c S0 v p M Sc ∧ M ≤ 2000 ∧ xf_m S1 v p Sm
theorem w_F.g {S0 S1 Sc Sm : x_S} (h : w_F S0 S1 Sc Sm) : w_G S0 S1 Sc Sm := by
  obtain ⟨v, p, M, b1, b2, b3⟩ := h
  exact ⟨v, p, M, b1, by omega, b3⟩
theorem y_sc (S : x_S) (k : Nat) (v : Int32) : g_sc (s_sc S k v) k = v := by rw [q_sc_sc, if_pos rfl]
theorem y_sn (S : x_S) (k j : Nat) (v : Int32) (h : j ≠ k) : g_sc (s_sc S k v) j = g_sc S j := by rw [q_sc_sc, if_neg h]
theorem i_1n : ¬ (1 : Int32) = 0 := by decide
section
variable {n tl pl a d : Nat} {S0 S1 Sc Sm S : x_S}
theorem c_take (h : c_b S0 tl pl a d S) (hp : pl < tl) : f_X5_take n S = some (g_ar S0 605 pl, s_sc S 501 (nI (pl + 1))) ∧ c_b S0 tl (pl + 1) a d (s_sc S 501 (nI (pl + 1))) := by
  obtain ⟨h1, h2, h3, h4, h5, h6, h7, h8, h9, h10, h11, h12⟩ := h
  have p2 : pl < 2 ^ 31 := by omega
  have c1 : ¬ nI tl ≤ nI pl := nI_ge hp (by omega)
  have c2 : nI pl < (300 : Int32) := nI_lt (b := 300) (by omega) (by decide)
  have c3 := k_in (i := pl) (L := 300) (by omega) (by decide)
  have c4 := nI_clamp p2
  refine ⟨?_, h1.tr (frw_sc _ 501 _ (by decide) (by decide)), (y_sn _ _ _ _ (by decide)).trans h2, y_sc _ _ _, (y_sn _ _ _ _ (by decide)).trans h4, h5, (y_sn _ _ _ _ (by decide)).trans h6, (y_sn _ _ _ _ (by decide)).trans h7, h8, by omega, h10, h11, h12⟩
  unfold f_X5_take
  rw [x_l_e, h2, if_pos rfl, x_l_e, h3, x_l_e, h4, if_neg c1, x_l_e, if_pos c2, h5, x_o_s, x_l_e, x_gt c3, c4, x_l_e, x_l_e, x_l_e, nI_1, h1.2.1 605 pl (by omega)]
theorem c_end (h : c_b S0 tl pl a d S) (hp : ¬ pl < tl) : f_X5_take n S = some (0, s_sc S 504 1) ∧ xf_c S0 1 (nI pl) 1000 (s_sc S 504 1) := by
  obtain ⟨h1, h2, h3, h4, h5, h6, h7, h8, h9, h10, h11, h12⟩ := h
  have c1 : nI tl ≤ nI pl := nI_le (by omega) (by omega)
  refine ⟨?_, h1.tr (frw_sc _ 504 _ (by decide) (by decide)), i_1n, y_sc _ _ _, (y_sn _ _ _ _ (by decide)).trans h3, ⟨a, by omega, by decide, (y_sn _ _ _ _ (by decide)).trans h6⟩, ⟨d, h12, (y_sn _ _ _ _ (by decide)).trans h7⟩, h8⟩
  unfold f_X5_take
  rw [x_l_e, h2, if_pos rfl, x_l_e, h3, x_l_e, h4, if_pos c1, x_l_e]
theorem c_bad (h : c_b S0 tl (pl + 1) a d S) {f : Int32} (hf : ¬ f = 0) : f_X5_require n S 0 f = some (s_sc (s_sc S 504 f) 501 (nI pl)) ∧ xf_c S0 f (nI pl) 1000 (s_sc (s_sc S 504 f) 501 (nI pl)) := by
  obtain ⟨h1, h2, h3, h4, h5, h6, h7, h8, h9, h10, h11, h12⟩ := h
  refine ⟨?_, (h1.tr (frw_sc _ 504 _ (by decide) (by decide))).tr (frw_sc _ 501 _ (by decide) (by decide)), hf, (y_sn _ _ _ _ (by decide)).trans (y_sc _ _ _), y_sc _ _ _, ⟨a, by omega, by decide, (y_sn _ _ _ _ (by decide)).trans ((y_sn _ _ _ _ (by decide)).trans h6)⟩, ⟨d, h12, (y_sn _ _ _ _ (by decide)).trans ((y_sn _ _ _ _ (by decide)).trans h7)⟩, h8⟩
  unfold f_X5_require
  rw [if_pos rfl, x_l_e, h2, if_pos rfl, x_l_e, x_l_e, y_sn _ _ _ _ (by decide), h3, nI_pred, x_l_e]
theorem c_good (S : x_S) (f : Int32) : f_X5_require n S 1 f = some S := by
  unfold f_X5_require
  rw [if_neg i_1n]
theorem m_take (h : m_b S1 tl pl a d S) (hp : pl < tl) : f_X7_next n S = some (g_ar S1 707 pl, s_sc S 736 (nI (pl + 1))) ∧ m_b S1 tl (pl + 1) a d (s_sc S 736 (nI (pl + 1))) := by
  obtain ⟨h1, h2, h3, h4, h6, h7, h9, h10, h11, h12⟩ := h
  have p2 : pl < 2 ^ 31 := by omega
  have c1 : ¬ nI pl = nI tl := fun q => by rw [nI_eq p2 (by omega)] at q; omega
  have c3 := k_in (i := pl) (L := 300) (by omega) (by decide)
  have c4 := nI_clamp p2
  refine ⟨?_, h1.tr (fr_m_sc _ 736 _ (by decide)), (y_sn _ _ _ _ (by decide)).trans h2, y_sc _ _ _, (y_sn _ _ _ _ (by decide)).trans h4, (y_sn _ _ _ _ (by decide)).trans h6, (y_sn _ _ _ _ (by decide)).trans h7, by omega, h10, h11, h12⟩
  unfold f_X7_next
  rw [x_l_e, h2, if_pos rfl, x_l_e, h3, x_l_e, h4, if_neg c1, x_l_e, x_l_e, nI_1, x_l_e, y_sc, nI_pred, x_gt c3, c4, x_l_e, q_ar_sc, h1.2 707 pl (by omega)]
theorem m_end (h : m_b S1 tl pl a d S) (hp : ¬ pl < tl) : f_X7_next n S = some (0, s_sc S 737 1) ∧ xf_m S1 1 (nI pl) (s_sc S 737 1) := by
  obtain ⟨h1, h2, h3, h4, h6, h7, h9, h10, h11, h12⟩ := h
  have c1 : nI pl = nI tl := by rw [show pl = tl by omega]
  refine ⟨?_, h1.tr (fr_m_sc _ 737 _ (by decide)), i_1n, y_sc _ _ _, (y_sn _ _ _ _ (by decide)).trans h3, ⟨a, by omega, (y_sn _ _ _ _ (by decide)).trans h6⟩, ⟨d, h12, (y_sn _ _ _ _ (by decide)).trans h7⟩⟩
  unfold f_X7_next
  rw [x_l_e, h2, if_pos rfl, x_l_e, h3, x_l_e, h4, if_pos c1, x_l_e]
theorem m_bad (h : m_b S1 tl (pl + 1) a d S) {f : Int32} (hf : ¬ f = 0) : f_X7_wrong n S f = some (s_sc (s_sc S 737 f) 736 (nI pl)) ∧ xf_m S1 f (nI pl) (s_sc (s_sc S 737 f) 736 (nI pl)) := by
  obtain ⟨h1, h2, h3, h4, h6, h7, h9, h10, h11, h12⟩ := h
  refine ⟨?_, (h1.tr (fr_m_sc _ 737 _ (by decide))).tr (fr_m_sc _ 736 _ (by decide)), hf, (y_sn _ _ _ _ (by decide)).trans (y_sc _ _ _), y_sc _ _ _, ⟨a, by omega, (y_sn _ _ _ _ (by decide)).trans ((y_sn _ _ _ _ (by decide)).trans h6)⟩, ⟨d, h12, (y_sn _ _ _ _ (by decide)).trans ((y_sn _ _ _ _ (by decide)).trans h7)⟩⟩
  unfold f_X7_wrong
  rw [x_l_e, h2, if_pos rfl, x_l_e, x_l_e, y_sn _ _ _ _ (by decide), h3, nI_pred, x_l_e]
/-- an ACT more -/
def w_e (S : x_S) (a : Nat) (k x y z : Int32) : x_S := s_sc (if a < 60 then s_ar (s_put S 0 a k x y z) 508 a (-1) else S) 505 (nI (a + 1))
def w_m (S : x_S) (a : Nat) (k x y z : Int32) : x_S := s_sc (s_ar (s_ar (s_ar (s_ar (s_ar S 739 a k) 740 a x) 741 a y) 742 a z) 743 a 0) 738 (nI (a + 1))
theorem we_sc (S : x_S) (a : Nat) (k x y z : Int32) (j : Nat) (h : j ≠ 505) : g_sc (w_e S a k x y z) j = g_sc S j := by
  unfold w_e
  rw [y_sn _ _ _ _ h]
  split <;> rfl
theorem we_ar (S : x_S) (a : Nat) (k x y z : Int32) (j i : Nat) (h : j ≠ 508) : g_ar (w_e S a k x y z) j i = g_ar S j i := by
  unfold w_e
  rw [q_ar_sc]
  split
  · rw [q_ar_ar, if_neg (fun q => h q.1)]; rfl
  · rfl
theorem we_aw (S : x_S) (a : Nat) (k x y z : Int32) (i : Nat) (hi : i < 60) : g_ar (w_e S a k x y z) 508 i = if i = a then -1 else g_ar S 508 i := by
  unfold w_e
  rw [q_ar_sc]
  by_cases e : a < 60
  · rw [if_pos e, q_ar_ar]
    by_cases e2 : i = a
    · rw [if_pos ⟨rfl, e2⟩, if_pos e2]
    · rw [if_neg (fun q => e2 q.2), if_neg e2]; rfl
  · rw [if_neg e, if_neg (show ¬ i = a by omega)]
theorem we_pa (S : x_S) (a : Nat) (k x y z : Int32) (i : Nat) (hi : i < 60) : (g_pa (w_e S a k x y z) 0 0 i = if i = a then k else g_pa S 0 0 i) ∧ (g_pa (w_e S a k x y z) 1 0 i = if i = a then n_a k x else g_pa S 1 0 i) ∧ (g_pa (w_e S a k x y z) 2 0 i = if i = a then n_b k y else g_pa S 2 0 i) ∧ (g_pa (w_e S a k x y z) 3 0 i = if i = a then n_c k z else g_pa S 3 0 i) := by
  unfold w_e s_put
  simp only [q_pa_sc]
  by_cases e : a < 60
  · simp only [if_pos e, q_pa_ar, q_pa_pa]
    simp
  · simp only [if_neg e, if_neg (show ¬ i = a by omega)]
    exact ⟨trivial, trivial, trivial, trivial⟩
theorem we_frw (S : x_S) (a : Nat) (k x y z : Int32) : frw S (w_e S a k x y z) := by
  unfold w_e
  split
  · exact ((frw_put S a k x y z).tr (frw_ar _ 508 a _ (by decide) (by decide))).tr (frw_sc _ 505 _ (by decide) (by decide))
  · exact frw_sc _ 505 _ (by decide) (by decide)
theorem we_rf (S : x_S) (a : Nat) (k x y z : Int32) (j : Nat) : g_rf (w_e S a k x y z) j = g_rf S j := by
  unfold w_e
  split <;> rfl
theorem c_emit (h : c_b S0 tl pl a d S) (ha : a < 390) (k x y z : Int32) : f_X5_emit n S k x y z = some (w_e S a k x y z) ∧ c_b S0 tl pl (a + 1) d (w_e S a k x y z) := by
  obtain ⟨h1, h2, h3, h4, h5, h6, h7, h8, h9, h10, h11, h12⟩ := h
  have f := we_frw S a k x y z
  refine ⟨?_, h1.tr f, (we_sc _ _ _ _ _ _ _ (by decide)).trans h2, (we_sc _ _ _ _ _ _ _ (by decide)).trans h3, (we_sc _ _ _ _ _ _ _ (by decide)).trans h4, (we_rf _ _ _ _ _ _ _).trans h5, y_sc _ _ _, (we_sc _ _ _ _ _ _ _ (by decide)).trans h7, by rw [f.2.2.1]; exact h8, h9, h10, by omega, h12⟩
  have a2' : a < 2 ^ 31 := by omega
  unfold f_X5_emit w_e
  rw [x_l_e, h6]
  by_cases e : a < 60
  · have c1 : ¬ (60 : Int32) ≤ nI a := nI_ge (a := a) (b := 60) e (by decide)
    have c3 := k_in2 e a2'
    have c4 := nI_clamp a2'
    have g5 : g_sc (s_put S 0 a k x y z) 505 = nI a := h6
    rw [if_neg c1, x_l_e, x_gt h8, e_put n S 0 a k x y z h8 e, x_b_s]
    simp only [x_l_e, g5, c4, x_gt c3, q_sc_ar, nI_1, if_pos e]
  · have c1 : (60 : Int32) ≤ nI a := nI_le (a := 60) (by omega) a2'
    rw [if_pos c1, x_l_e, x_l_e, nI_1, if_neg e]
theorem wm_sc (S : x_S) (a : Nat) (k x y z : Int32) (j : Nat) (h : j ≠ 738) : g_sc (w_m S a k x y z) j = g_sc S j := by
  unfold w_m
  rw [y_sn _ _ _ _ h]
  rfl
theorem wm_ar (S : x_S) (a : Nat) (k x y z : Int32) (j i : Nat) (h : j < 739 ∨ 743 < j) : g_ar (w_m S a k x y z) j i = g_ar S j i := by
  unfold w_m
  rw [q_ar_sc, q_ar_ar, if_neg (by omega), q_ar_ar, if_neg (by omega), q_ar_ar, if_neg (by omega), q_ar_ar, if_neg (by omega), q_ar_ar, if_neg (by omega)]
theorem wm_ac (S : x_S) (a : Nat) (k x y z : Int32) (i : Nat) : (g_ar (w_m S a k x y z) 739 i = if i = a then k else g_ar S 739 i) ∧ (g_ar (w_m S a k x y z) 740 i = if i = a then x else g_ar S 740 i) ∧ (g_ar (w_m S a k x y z) 741 i = if i = a then y else g_ar S 741 i) ∧ (g_ar (w_m S a k x y z) 742 i = if i = a then z else g_ar S 742 i) ∧ (g_ar (w_m S a k x y z) 743 i = if i = a then 0 else g_ar S 743 i) := by
  unfold w_m
  simp only [q_ar_sc, q_ar_ar, Nat.reduceEqDiff, false_and, if_false, true_and]
theorem wm_fr (S : x_S) (a : Nat) (k x y z : Int32) : fr_m S (w_m S a k x y z) := m_make3 (fr_m_rf S) k x y z _
theorem c_make (h : m_b S1 tl pl a d S) (ha : a < 390) (k x y z : Int32) : f_X7_make n S k x y z = some (w_m S a k x y z) ∧ m_b S1 tl pl (a + 1) d (w_m S a k x y z) := by
  obtain ⟨h1, h2, h3, h4, h6, h7, h9, h10, h11, h12⟩ := h
  exact ⟨m_make1 h6 (by omega) k x y z, h1.tr (wm_fr S a k x y z), (wm_sc _ _ _ _ _ _ _ (by decide)).trans h2, (wm_sc _ _ _ _ _ _ _ (by decide)).trans h3, (wm_sc _ _ _ _ _ _ _ (by decide)).trans h4, y_sc _ _ _, (wm_sc _ _ _ _ _ _ _ (by decide)).trans h7, h9, h10, by omega, h12⟩
/-- a BODY more -/
def w_oc (S : x_S) (d a : Nat) (k s x y m : Int32) : x_S := s_sc (s_ar (s_ar (s_ar (s_ar (s_ar (s_ar S 510 d m) 511 d k) 512 d (nI a)) 513 d s) 514 d x) 515 d y) 509 (nI (d + 1))
def w_om (S : x_S) (d a : Nat) (k x y s m : Int32) : x_S := s_sc (s_ar (s_ar (s_ar (s_ar (s_ar (s_ar S 746 d m) 747 d k) 748 d (nI a)) 749 d x) 750 d y) 751 d s) 745 (nI (d + 1))
theorem c_o36 (h : c_b S0 tl pl a d S) (hd : d < 61) (k s x y m : Int32) : f_X5_openBody_36 n S k s x y m 1 = some (w_oc S d a k s x y m) ∧ c_b S0 tl pl a (d + 1) (w_oc S d a k s x y m) := by
  obtain ⟨h1, h2, h3, h4, h5, h6, h7, h8, h9, h10, h11, h12⟩ := h
  have d2 : d < 2 ^ 31 := by omega
  have c3 := k_in (i := d) (L := 61) hd (by decide)
  have c4 := nI_clamp d2
  have f : frw S (w_oc S d a k s x y m) := ((((((frw_ar S 510 d m (by decide) (by decide)).tr (frw_ar _ 511 d k (by decide) (by decide))).tr (frw_ar _ 512 d (nI a) (by decide) (by decide))).tr (frw_ar _ 513 d s (by decide) (by decide))).tr (frw_ar _ 514 d x (by decide) (by decide))).tr (frw_ar _ 515 d y (by decide) (by decide))).tr (frw_sc _ 509 _ (by decide) (by decide))
  refine ⟨?_, h1.tr f, (y_sn _ _ _ _ (by decide)).trans h2, (y_sn _ _ _ _ (by decide)).trans h3, (y_sn _ _ _ _ (by decide)).trans h4, h5, (y_sn _ _ _ _ (by decide)).trans h6, y_sc _ _ _, h8, h9, h10, h11, by omega⟩
  unfold f_X5_openBody_36 w_oc
  rw [c_good, x_b_s, x_l_e, h2, if_pos rfl, x_l_e, h7, x_gt c3, x_l_e]
  rw [x_l_e, q_sc_ar, h7, x_gt c3, x_l_e]
  rw [x_l_e, q_sc_ar, q_sc_ar, h6, x_l_e, q_sc_ar, q_sc_ar, h7, x_gt c3, x_l_e]
  rw [x_l_e, q_sc_ar, q_sc_ar, q_sc_ar, h7, x_gt c3, x_l_e]
  rw [x_l_e, q_sc_ar, q_sc_ar, q_sc_ar, q_sc_ar, h7, x_gt c3, x_l_e]
  rw [x_l_e, q_sc_ar, q_sc_ar, q_sc_ar, q_sc_ar, q_sc_ar, h7, x_gt c3, x_l_e]
  rw [x_l_e, q_sc_ar, q_sc_ar, q_sc_ar, q_sc_ar, q_sc_ar, q_sc_ar, h7, nI_1, x_l_e, c4]
theorem m_b40 (h : m_b S1 tl pl a d S) (hd : d < 61) (k x y s m : Int32) : f_X7_beginBody_40 n S k x y s m = some (w_om S d a k x y s m) ∧ m_b S1 tl pl a (d + 1) (w_om S d a k x y s m) := by
  obtain ⟨h1, h2, h3, h4, h6, h7, h9, h10, h11, h12⟩ := h
  have d2 : d < 2 ^ 31 := by omega
  have c3 := k_in (i := d) (L := 64) (by omega) (by decide)
  have c4 := nI_clamp d2
  have f : fr_m S (w_om S d a k x y s m) := ((((((fr_m_ar S 746 d m (by decide)).tr (fr_m_ar _ 747 d k (by decide))).tr (fr_m_ar _ 748 d (nI a) (by decide))).tr (fr_m_ar _ 749 d x (by decide))).tr (fr_m_ar _ 750 d y (by decide))).tr (fr_m_ar _ 751 d s (by decide))).tr (fr_m_sc _ 745 _ (by decide))
  refine ⟨?_, h1.tr f, (y_sn _ _ _ _ (by decide)).trans h2, (y_sn _ _ _ _ (by decide)).trans h3, (y_sn _ _ _ _ (by decide)).trans h4, (y_sn _ _ _ _ (by decide)).trans h6, y_sc _ _ _, h9, h10, h11, by omega⟩
  unfold f_X7_beginBody_40 w_om
  rw [x_l_e, h2, if_pos rfl, x_l_e, h7, x_gt c3, x_l_e]
  rw [x_l_e, q_sc_ar, h7, x_gt c3, x_l_e]
  rw [x_l_e, q_sc_ar, q_sc_ar, h6, x_l_e, q_sc_ar, q_sc_ar, h7, x_gt c3, x_l_e]
  rw [x_l_e, q_sc_ar, q_sc_ar, q_sc_ar, h7, x_gt c3, x_l_e]
  rw [x_l_e, q_sc_ar, q_sc_ar, q_sc_ar, q_sc_ar, h7, x_gt c3, x_l_e]
  rw [x_l_e, q_sc_ar, q_sc_ar, q_sc_ar, q_sc_ar, q_sc_ar, h7, x_gt c3, x_l_e]
  rw [x_l_e, q_sc_ar, q_sc_ar, q_sc_ar, q_sc_ar, q_sc_ar, q_sc_ar, h7, nI_1, x_l_e, c4]
end
section
variable {n tl pl a a' d : Nat} {S0 S1 Sc Sm : x_S}
/-- openBody and beginBody -/
theorem w_open (hc : c_b S0 tl pl a d Sc) (hm : m_b S1 tl pl a' d Sm) (ht : ∀ i, i < tl → g_ar S0 605 i = g_ar S1 707 i) (k s x y k' x' y' s' : Int32) : (∃ Sc1 Sm1, f_X5_openBody n Sc k s x y = some Sc1 ∧ f_X7_beginBody n Sm k' x' y' s' = some Sm1 ∧ w_F S0 S1 Sc1 Sm1) ∨ (pl < tl ∧ d < 61 ∧ ∃ m, 0 ≤ m ∧ f_X5_openBody n Sc k s x y = some (w_oc (s_sc Sc 501 (nI (pl + 1))) d a k s x y m) ∧ f_X7_beginBody n Sm k' x' y' s' = some (w_om (s_sc Sm 736 (nI (pl + 1))) d a' k' x' y' s' m) ∧ c_b S0 tl (pl + 1) a (d + 1) (w_oc (s_sc Sc 501 (nI (pl + 1))) d a k s x y m) ∧ m_b S1 tl (pl + 1) a' (d + 1) (w_om (s_sc Sm 736 (nI (pl + 1))) d a' k' x' y' s' m)) := by
  unfold f_X5_openBody f_X7_beginBody
  by_cases hp : pl < tl
  · obtain ⟨e1, g1⟩ := c_take (n := n) hc hp
    obtain ⟨e2, g2⟩ := m_take (n := n) hm hp
    rw [e1, e2, x_b2_s, x_b2_s, x_l_e, x_l_e, g1.2.2.2.2.2.2.1, g2.2.1, if_pos (show (0 : Int32) = 0 from rfl), x_l_e, g2.2.2.2.2.2.1, ← ht pl hp]
    have hd2 : d ≤ 61 := hc.2.2.2.2.2.2.2.2.2.2.2
    by_cases hd : d < 61
    · have c1 : ¬ (61 : Int32) ≤ nI d := nI_ge (b := 61) hd (by decide)
      have c2 : ¬ nI d = (61 : Int32) := fun q => c1 (by rw [q]; exact Int32.le_refl _)
      rw [if_neg c1, if_neg c2]
      unfold f_X5_openBody_21 f_X7_beginBody_30
      rw [c_good, x_b_s]
      by_cases hm0 : g_ar S0 605 pl < 0
      · obtain ⟨b1, b2⟩ := c_bad (n := n) g1 (f := 3) (by decide)
        obtain ⟨b3, b4⟩ := m_bad (n := n) g2 (f := 3) (by decide)
        left
        rw [if_pos hm0, if_neg (Int32.not_le.mpr hm0)]
        unfold f_X5_openBody_36 f_X7_beginBody_40
        rw [b1, x_b_s, x_l_e, b2.2.2.1, if_neg b2.2.1, b3, x_b_s, x_l_e, b4.2.2.1, if_neg b4.2.1]
        exact ⟨_, _, rfl, rfl, _, _, _, b2, by omega, b4⟩
      · right
        have hm1 : 0 ≤ g_ar S0 605 pl := Int32.not_lt.mp hm0
        rw [if_neg hm0, if_pos hm1]
        obtain ⟨b1, b2⟩ := c_o36 (n := n) g1 hd k s x y (g_ar S0 605 pl)
        obtain ⟨b3, b4⟩ := m_b40 (n := n) g2 hd k' x' y' s' (g_ar S0 605 pl)
        exact ⟨hp, hd, _, hm1, b1, b3, b2, b4⟩
    · have c0 : d = 61 := by omega
      subst c0
      obtain ⟨b1, b2⟩ := c_bad (n := n) g1 (f := 2) (by decide)
      obtain ⟨b3, b4⟩ := m_bad (n := n) g2 (f := 2) (by decide)
      left
      rw [if_pos (show (61 : Int32) ≤ nI 61 by decide), if_pos (show nI 61 = (61 : Int32) by rfl)]
      have q : ∀ t, f_X5_openBody_36 n (s_sc (s_sc (s_sc Sc 501 (nI (pl + 1))) 504 2) 501 (nI pl)) k s x y (g_ar S0 605 pl) t = some (s_sc (s_sc (s_sc Sc 501 (nI (pl + 1))) 504 2) 501 (nI pl)) := fun t => by
        unfold f_X5_openBody_36
        rw [f_req b2, x_b_s, x_l_e, b2.2.2.1, if_neg b2.2.1]
      unfold f_X5_openBody_21 f_X7_beginBody_40
      rw [b1, x_b_s, q, q, b3, x_b_s, x_l_e, b4.2.2.1, if_neg b4.2.1]
      refine ⟨_, _, ?_, rfl, _, _, _, b2, by omega, b4⟩
      split <;> rfl
  · left
    obtain ⟨e1, b2⟩ := c_end (n := n) hc hp
    obtain ⟨e2, b4⟩ := m_end (n := n) hm hp
    have q : ∀ t, f_X5_openBody_36 n (s_sc Sc 504 1) k s x y 0 t = some (s_sc Sc 504 1) := fun t => by
      unfold f_X5_openBody_36
      rw [f_req b2, x_b_s, x_l_e, b2.2.2.1, if_neg b2.2.1]
    have q2 : ∀ t, f_X5_openBody_21 n (s_sc Sc 504 1) k s x y 0 t = some (s_sc Sc 504 1) := fun t => by
      unfold f_X5_openBody_21
      rw [f_req b2, x_b_s, q, q]
      split <;> rfl
    rw [e1, e2, x_b2_s, x_b2_s, x_l_e, x_l_e, q2, q2, b4.2.2.1, if_neg b4.2.1]
    unfold f_X7_beginBody_30 f_X7_beginBody_40
    rw [if_pos (show (0 : Int32) ≤ 0 by decide), x_l_e, b4.2.2.1, if_neg b4.2.1]
    refine ⟨_, s_sc Sm 737 1, ?_, rfl, _, _, _, b2, by omega, b4⟩
    split <;> rfl
/-- the two numbers of a TEST -/
theorem w_tA (hc : c_b S0 tl pl a d Sc) (hm : m_b S1 tl pl a d Sm) (ht : ∀ i, i < tl → g_ar S0 605 i = g_ar S1 707 i) : (∃ u Sc1 u' Sm1, f_X5_takeA n Sc 3 = some (u, Sc1) ∧ f_X7_testing n Sm 0 = some (u', Sm1) ∧ w_F S0 S1 Sc1 Sm1) ∨ (pl < tl ∧ ∃ u, 0 ≤ u ∧ u ≤ 3 ∧ f_X5_takeA n Sc 3 = some (u, s_sc Sc 501 (nI (pl + 1))) ∧ f_X7_testing n Sm 0 = some (u, s_sc Sm 736 (nI (pl + 1))) ∧ c_b S0 tl (pl + 1) a d (s_sc Sc 501 (nI (pl + 1))) ∧ m_b S1 tl (pl + 1) a d (s_sc Sm 736 (nI (pl + 1)))) := by
  have e3 : ∀ u, f_X6_mayHaveA n 3 u = f_X6_mayHaveA_42 n u := fun u => rfl
  unfold f_X5_takeA f_X7_testing
  by_cases hp : pl < tl
  · obtain ⟨e1, g1⟩ := c_take (n := n) hc hp
    obtain ⟨e2, g2⟩ := m_take (n := n) hm hp
    rw [e1, e2, x_b2_s, x_b2_s, if_pos rfl, e3, e_mA42, x_b_s, ← ht pl hp]
    unfold f_X7_testing_16
    rw [e_in, x_b_s]
    by_cases q : 0 ≤ g_ar S0 605 pl ∧ g_ar S0 605 pl ≤ 3
    · right
      rw [if_pos q, c_good, x_b_s, if_neg i_1n]
      exact ⟨hp, _, q.1, q.2, rfl, rfl, g1, g2⟩
    · left
      obtain ⟨b1, b2⟩ := c_bad (n := n) g1 (f := 4) (by decide)
      obtain ⟨b3, b4⟩ := m_bad (n := n) g2 (f := 4) (by decide)
      rw [if_neg q, b1, x_b_s, if_pos rfl, b3, x_b_s]
      exact ⟨_, _, _, _, rfl, rfl, _, _, _, b2, by omega, b4⟩
  · left
    obtain ⟨e1, b2⟩ := c_end (n := n) hc hp
    obtain ⟨e2, b4⟩ := m_end (n := n) hm hp
    obtain ⟨u, -, hu⟩ := e_mA01 n 3 0
    rw [e1, e2, x_b2_s, x_b2_s, if_pos rfl, hu, x_b_s, f_req b2, x_b_s]
    unfold f_X7_testing_16
    rw [e_in, x_b_s, m_wrong b4, x_b_s]
    refine ⟨_, _, 0, s_sc Sm 737 1, rfl, ?_, _, _, _, b2, by omega, b4⟩
    split <;> rfl
theorem w_tB (hc : c_b S0 tl pl a d Sc) (hm : m_b S1 tl pl a d Sm) (ht : ∀ i, i < tl → g_ar S0 605 i = g_ar S1 707 i) : (∃ u Sc1 u' Sm1, f_X5_takeB n Sc 3 = some (u, Sc1) ∧ f_X7_testing n Sm 1 = some (u', Sm1) ∧ w_F S0 S1 Sc1 Sm1) ∨ (pl < tl ∧ ∃ u, 0 ≤ u ∧ u ≤ 5 ∧ f_X5_takeB n Sc 3 = some (u, s_sc Sc 501 (nI (pl + 1))) ∧ f_X7_testing n Sm 1 = some (u, s_sc Sm 736 (nI (pl + 1))) ∧ c_b S0 tl (pl + 1) a d (s_sc Sc 501 (nI (pl + 1))) ∧ m_b S1 tl (pl + 1) a d (s_sc Sm 736 (nI (pl + 1)))) := by
  unfold f_X5_takeB f_X7_testing
  by_cases hp : pl < tl
  · obtain ⟨e1, g1⟩ := c_take (n := n) hc hp
    obtain ⟨e2, g2⟩ := m_take (n := n) hm hp
    rw [e1, e2, x_b2_s, x_b2_s, if_neg i_1n, e_mB3, x_b_s, ← ht pl hp]
    unfold f_X7_testing_16
    rw [e_in, x_b_s]
    by_cases q : 0 ≤ g_ar S0 605 pl ∧ g_ar S0 605 pl ≤ 5
    · right
      rw [if_pos q, c_good, x_b_s, if_neg i_1n]
      exact ⟨hp, _, q.1, q.2, rfl, rfl, g1, g2⟩
    · left
      obtain ⟨b1, b2⟩ := c_bad (n := n) g1 (f := 4) (by decide)
      obtain ⟨b3, b4⟩ := m_bad (n := n) g2 (f := 4) (by decide)
      rw [if_neg q, b1, x_b_s, if_pos rfl, b3, x_b_s]
      exact ⟨_, _, _, _, rfl, rfl, _, _, _, b2, by omega, b4⟩
  · left
    obtain ⟨e1, b2⟩ := c_end (n := n) hc hp
    obtain ⟨e2, b4⟩ := m_end (n := n) hm hp
    obtain ⟨u, -, hu⟩ := e_mB01 n 3 0
    rw [e1, e2, x_b2_s, x_b2_s, if_neg i_1n, hu, x_b_s, f_req b2, x_b_s]
    unfold f_X7_testing_16
    rw [e_in, x_b_s, m_wrong b4, x_b_s]
    refine ⟨_, _, 0, s_sc Sm 737 1, rfl, ?_, _, _, _, b2, by omega, b4⟩
    split <;> rfl
end
