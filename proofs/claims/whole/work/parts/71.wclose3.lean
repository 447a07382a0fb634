/-! write: closeBody and endBody -/
def w_am (S : x_S) (s : Nat) (v : Int32) : x_S := if s < 60 then s_pa S 3 0 s v else S
section
variable {n tl pl a d s : Nat} {sk be : Nat → Nat} {S0 S1 S T Sc Sm : x_S} {v bh bk : Int32}
theorem am_sc (j : Nat) : g_sc (w_am S s v) j = g_sc S j := by unfold w_am; split <;> rfl
theorem am_ar (j i : Nat) : g_ar (w_am S s v) j i = g_ar S j i := by unfold w_am; split <;> rfl
theorem am_pa (j i : Nat) (h : j ≠ 3) : g_pa (w_am S s v) j 0 i = g_pa S j 0 i := by
  unfold w_am
  split
  · rw [q_pa_pa, if_neg (fun q => h q.1)]
  · rfl
theorem am_p3 (i : Nat) (h : i < 60) : g_pa (w_am S s v) 3 0 i = if i = s then v else g_pa S 3 0 i := by
  unfold w_am
  by_cases e : s < 60
  · rw [if_pos e, q_pa_pa]
    simp only [true_and]
  · rw [if_neg e, if_neg (show ¬ i = s by omega)]
theorem am_frw : frw S (w_am S s v) := by
  unfold w_am
  split
  · exact frw_pa S 3 s v
  · exact frw_rf S
theorem c_b.am (h : c_b S0 tl pl a d S) : c_b S0 tl pl a d (w_am S s v) := by
  obtain ⟨h1, h2, h3, h4, h5, h6, h7, h8, h9⟩ := h
  refine ⟨h1.tr am_frw, (am_sc _).trans h2, (am_sc _).trans h3, (am_sc _).trans h4, ?_, (am_sc _).trans h6, (am_sc _).trans h7, ?_, h9⟩
  · unfold w_am; split <;> exact h5
  · unfold w_am; split <;> exact h8
theorem c_b.s9 (h : c_b S0 tl pl a (d + 1) S) : c_b S0 tl pl a d (s_sc S 509 (nI d)) := by
  obtain ⟨h1, h2, h3, h4, h5, h6, h7, h8, h9, h10, h11, h12⟩ := h
  exact ⟨h1.tr (frw_sc _ 509 _ (by decide) (by decide)), (y_sn _ _ _ _ (by decide)).trans h2, (y_sn _ _ _ _ (by decide)).trans h3, (y_sn _ _ _ _ (by decide)).trans h4, h5, (y_sn _ _ _ _ (by decide)).trans h6, y_sc _ _ _, h8, h9, h10, h11, by omega⟩
theorem m_b.s5 (h : m_b S1 tl pl a (d + 1) S) : m_b S1 tl pl a d (s_sc S 745 (nI d)) := by
  obtain ⟨h1, h2, h3, h4, h6, h7, h9, h10, h11, h12⟩ := h
  exact ⟨h1.tr (fr_m_sc _ 745 _ (by decide)), (y_sn _ _ _ _ (by decide)).trans h2, (y_sn _ _ _ _ (by decide)).trans h3, (y_sn _ _ _ _ (by decide)).trans h4, (y_sn _ _ _ _ (by decide)).trans h6, y_sc _ _ _, h9, h10, h11, by omega⟩
theorem m_b.ar (h : m_b S1 tl pl a d S) (j i : Nat) (w : Int32) (hj : 714 < j) : m_b S1 tl pl a d (s_ar S j i w) := ⟨h.1.tr (fr_m_ar _ j i w hj), h.2⟩
theorem c_b.fl {lo hi : Nat} (h : c_b S0 tl pl a d S) (g : c_fl lo hi bh bk S T) : c_b S0 tl pl a d T := by
  obtain ⟨h1, h2, h3, h4, h5, h6, h7, h8, h9⟩ := h
  obtain ⟨g1, g2, g3, -⟩ := g
  exact ⟨h1.tr g1, (g2 _).trans h2, (g2 _).trans h3, (g2 _).trans h4, (g3 _).trans h5, (g2 _).trans h6, (g2 _).trans h7, by rw [g1.2.2.1]; exact h8, h9⟩
theorem m_b.fl {lo hi : Nat} {w : Int32} (h : m_b S1 tl pl a d S) (g : m_fl lo hi w bh bk S T) : m_b S1 tl pl a d T := by
  obtain ⟨h1, h2, h3, h4, h6, h7, h9⟩ := h
  obtain ⟨g1, g2, -⟩ := g
  exact ⟨h1.tr g1, (g2 _).trans h2, (g2 _).trans h3, (g2 _).trans h4, (g2 _).trans h6, (g2 _).trans h7, h9⟩
theorem w_close (h : w_W S0 S1 tl pl a (d + 1) sk be Sc Sm) (ht : ∀ i, i < tl → g_ar S0 605 i = g_ar S1 707 i) (hn : 1000 ≤ n) : ∃ Sc1 Sm1, f_X5_closeBody n Sc = some Sc1 ∧ f_X7_endBody n Sm = some Sm1 ∧ w_T S0 S1 tl pl (d + 1) Sc1 Sm1 := by
  obtain ⟨hc, hm, hR, hb⟩ := h
  have hpl := hc.2.2.2.2.2.2.2.2.1
  have htl := hc.2.2.2.2.2.2.2.2.2.1
  have hd61 : d + 1 ≤ 61 := hc.2.2.2.2.2.2.2.2.2.2.2
  have ha : a < 390 := by omega
  have d2 : d < 2 ^ 31 := by omega
  have c3 := k_in (i := d) (L := 61) (by omega) (by decide)
  have m3 := k_in (i := d) (L := 64) (by omega) (by decide)
  have c4 := nI_clamp d2
  have gA := hc.s9
  have sA : ∀ j, j ≠ 509 → g_sc (s_sc Sc 509 (nI d)) j = g_sc Sc j := fun j hj => y_sn _ _ _ _ hj
  obtain ⟨b1, b2, b3, b4, b5, b6, hcase⟩ := hR.2.1 d (by omega)
  have hS := hR.2.2.2.1 d (by omega)
  have hG := hR.2.2.2.2.1 d (by omega)
  generalize hA : s_sc Sc 509 (nI d) = A at gA sA
  have pA : ∀ j i, g_pa A j 0 i = g_pa Sc j 0 i := by subst hA; exact fun _ _ => rfl
  have aA : ∀ j i, g_ar A j i = g_ar Sc j i := by subst hA; exact fun _ _ => rfl
  rcases hcase with ⟨o1, o2⟩ | ⟨o1, o2, o3, o4⟩ | ⟨o1, o2, o3, o4⟩ | ⟨o1, o2, o3, o4⟩ | ⟨o1, o2, o3, o4⟩ | ⟨o1, o2, o3, o4, o5, o6⟩ | ⟨o1, o2, o3, o4⟩
  · -- the TREE itself
    refine ⟨A, s_sc Sm 745 (nI d), ?_, ?_, Or.inl ⟨pl, a, d, sk, be, ⟨gA, hm.s5, ?_, by omega⟩, by omega⟩⟩
    · unfold f_X5_closeBody
      simp only [x_l_e]
      rw [hc.2.2.2.2.2.2.1, nI_pred, y_sc, hA]
      simp only [x_gt c3]
      simp only [c4, aA]
      rw [o2]
      rfl
    · unfold f_X7_endBody
      simp only [x_l_e]
      rw [hm.2.2.2.2.2.1, nI_pred]
      simp only [x_gt m3]
      rw [c4]
      rw [o1]
      rfl
    · exact hR.q.pop (by rw [o1]; intro q; revert q; unfold w_lp; decide) sA aA pA (fun _ _ => rfl)
  · -- IF
    obtain ⟨s1, s2, s3, s4, s5⟩ := hS (by rw [show (fun i => g_ar Sm 747 i) d = g_ar Sm 747 d from rfl, o1]; exact Or.inl rfl)
    have m4 := k_in (i := sk d) (L := 400) (by omega) (by omega)
    refine ⟨w_am A (sk d) (nI a), s_sc (s_ar Sm 742 (sk d) (nI a)) 745 (nI d), ?_, ?_, Or.inl ⟨pl, a, d, sk, be, ⟨gA.am, (hm.ar 742 (sk d) (nI a) (by decide)).s5, ?_, by omega⟩, by omega⟩⟩
    · unfold f_X5_closeBody
      simp only [x_l_e]
      rw [hc.2.2.2.2.2.2.1, nI_pred, y_sc, hA]
      simp only [x_gt c3]
      simp only [c4, aA]
      rw [o2, if_pos rfl, o3, gA.2.2.2.2.2.1, c_aim (by omega) gA.2.2.2.2.2.2.2.1, x_b_s]
      rfl
    · unfold f_X7_endBody
      simp only [x_l_e]
      rw [hm.2.2.2.2.2.1, nI_pred]
      simp only [x_gt m3]
      rw [c4]
      rw [o1, if_neg (by decide), if_neg (by decide), if_pos rfl, o4, x_gt m4, nI_clamp (by omega), hm.2.2.2.2.1, q_sc_ar, hm.2.2.2.2.2.1, nI_pred]
    · have Q2 : w_Q a d sk be (w_am A (sk d) (nI a)) (s_ar Sm 742 (sk d) (nI a)) := hR.q.aim (s := sk d) (v := nI a) ((am_sc _).trans (sA _ (by decide))) ((am_sc _).trans (sA _ (by decide))) (fun j i => (am_ar j i).trans (aA j i)) (fun j i hj => (am_pa j i hj).trans (pA j i)) (fun i hi => by rw [am_p3 i hi, pA]) (fun j i hj => by rw [q_ar_ar, if_neg (fun q => hj q.1)]) (fun i => by rw [q_ar_ar]; simp only [true_and]) s3 s4 s2 (fun b hb ho => s5 b hb ho) (nI_pos' (by omega)) (Int32.le_refl _)
      exact Q2.pop (by rw [q_ar_ar, if_neg (by omega), o1]; intro q; revert q; unfold w_lp; decide) (fun _ _ => rfl) (fun _ _ => rfl) (fun _ _ => rfl) (fun _ _ => rfl)
  · -- IF ELSE
    obtain ⟨s1, s2, s3, s4, s5⟩ := hS (by rw [show (fun i => g_ar Sm 747 i) d = g_ar Sm 747 d from rfl, o1]; exact Or.inr (Or.inl rfl))
    have m4 := k_in (i := sk d) (L := 400) (by omega) (by omega)
    obtain ⟨u1, u2⟩ := c_emit (n := n) gA ha 2 0 0 0
    obtain ⟨u3, u4⟩ := c_make (n := n) hm ha 2 0 0 0
    have gE : c_b S0 tl pl (a + 1) d (w_am (w_e A a 2 0 0 0) (sk d) (nI (a + 1))) := u2.am
    have gM := (u4.ar 742 (sk d) (nI (a + 1)) (by decide)).s5
    have E1 : f_X5_closeBody n Sc = x_b (f_X5_openBody n (w_am (w_e A a 2 0 0 0) (sk d) (nI (a + 1))) 1 (nI a) 0 0) (fun S => some S) := by
      unfold f_X5_closeBody
      simp only [x_l_e]
      rw [hc.2.2.2.2.2.2.1, nI_pred, y_sc, hA]
      simp only [x_gt c3]
      simp only [c4, aA]
      rw [o2, if_neg (by decide), if_pos rfl, u1, x_b_s, u2.2.2.2.2.2.2.1, x_gt c3, c4, we_ar _ _ _ _ _ _ 513 d (by decide), aA, o3, u2.2.2.2.2.2.1, c_aim (by omega) u2.2.2.2.2.2.2.2.1, x_b_s]
      show x_b (f_X5_openBody n (w_am (w_e A a 2 0 0 0) (sk d) (nI (a + 1))) 1 (g_sc (w_am (w_e A a 2 0 0 0) (sk d) (nI (a + 1))) 505 - 1) 0 0) (fun S => some S) = _
      rw [gE.2.2.2.2.2.1, nI_pred]
    have E2 : f_X7_endBody n Sm = x_b (f_X7_beginBody n (s_sc (s_ar (w_m Sm a 2 0 0 0) 742 (sk d) (nI (a + 1))) 745 (nI d)) (-1) 0 0 (nI a)) (fun S => some S) := by
      unfold f_X7_endBody
      simp only [x_l_e]
      rw [hm.2.2.2.2.2.1, nI_pred]
      simp only [x_gt m3]
      rw [c4]
      rw [o1, if_neg (by decide), if_neg (by decide), if_neg (by decide), if_pos rfl, u3, x_b_s, o4, x_gt m4, nI_clamp (by omega), u4.2.2.2.2.1, q_sc_ar, u4.2.2.2.2.2.1, nI_pred, hm.2.2.2.2.1]
    have R1 : w_R (a + 1) (d + 1) sk be (w_e A a 2 0 0 0) (w_m Sm a 2 0 0 0) := hR.emit0 (by omega) pA aA (fun _ _ => rfl) (sA _ (by decide)) (Or.inr (Or.inr (Or.inl ⟨rfl, rfl, rfl, by decide⟩))) (Or.inl (nI_pos' (by omega))) (Or.inl (sA _ (by decide)))
    have wm := wm_ac Sm a 2 0 0 0 (sk d)
    have wa := wm_ac Sm a 2 0 0 0 a
    have ne : ¬ sk d = a := by omega
    simp only [if_neg ne] at wm
    simp only [if_true] at wa
    have wo : ∀ b, g_ar (w_m Sm a 2 0 0 0) 747 b = g_ar Sm 747 b := fun b => wm_ar _ _ _ _ _ _ 747 b (by omega)
    have Q2 : w_Q (a + 1) d sk be (w_am (w_e A a 2 0 0 0) (sk d) (nI (a + 1))) (s_ar (w_m Sm a 2 0 0 0) 742 (sk d) (nI (a + 1))) := R1.q.aim (s := sk d) (v := nI (a + 1)) (am_sc _) (am_sc _) (fun j i => am_ar j i) (fun j i hj => am_pa j i hj) (fun i hi => am_p3 i hi) (fun j i hj => by rw [q_ar_ar, if_neg (fun q => hj q.1)]) (fun i => by rw [q_ar_ar]; simp only [true_and]) (by rw [wm.1]; exact s3) (by rw [wm.2.2.2.2]; exact s4) (by rw [wm.2.2.2.1]; exact s2) (fun b hb ho => s5 b hb (by rw [wo] at ho; exact ho)) (nI_pos' (by omega)) (Int32.le_refl _)
    have R3 : w_R (a + 1) d sk be (w_am (w_e A a 2 0 0 0) (sk d) (nI (a + 1))) (s_sc (s_ar (w_m Sm a 2 0 0 0) 742 (sk d) (nI (a + 1))) 745 (nI d)) := Q2.pop (by rw [q_ar_ar, if_neg (by omega), wo, o1]; intro q; revert q; unfold w_lp; decide) (fun _ _ => rfl) (fun _ _ => rfl) (fun _ _ => rfl) (fun _ _ => rfl)
    rcases w_open (n := n) gE gM ht 1 (nI a) 0 0 (-1) 0 0 (nI a) with ⟨T1, T2, z1, z2, z3⟩ | ⟨hp, hd, m, hm0, z1, z2, z3, z4⟩
    · rw [E1, E2, z1, z2, x_b_s, x_b_s]
      exact ⟨_, _, rfl, rfl, Or.inr z3.g⟩
    · rw [E1, E2, z1, z2, x_b_s, x_b_s]
      refine ⟨_, _, rfl, rfl, Or.inl ⟨pl + 1, a + 1, d + 1, (fun b => if b = d then a else sk b), (fun b => if b = d then 0 else be b), ⟨z3, z4, ?_, by omega⟩, by omega⟩⟩
      obtain ⟨k0, k1, k2, k3, k4, k5⟩ := oc_at (s_sc (w_am (w_e A a 2 0 0 0) (sk d) (nI (a + 1))) 501 (nI (pl + 1))) d (a + 1) 1 (nI a) 0 0 m
      obtain ⟨l0, l1, l2, l3, l4, l5⟩ := om_at (s_sc (s_sc (s_ar (w_m Sm a 2 0 0 0) 742 (sk d) (nI (a + 1))) 745 (nI d)) 736 (nI (pl + 1))) d (a + 1) (-1) 0 0 (nI a) m
      refine R3.opn a 0 (fun i hi => ⟨rfl, rfl, rfl, rfl, ?_⟩) (fun j i h1 h2 => ?_) (fun j i h1 h2 h3 => ?_) (fun j i h1 h3 => ?_) ?_ ?_ ?_ ?_ ?_
      · rw [oc_ar _ _ _ _ _ _ _ _ _ _ (Or.inl (by decide))]; rfl
      · rw [om_ar _ _ _ _ _ _ _ _ _ _ (Or.inl h2)]; rfl
      · rw [oc_ar _ _ _ _ _ _ _ _ _ _ (Or.inr (Or.inr h3))]; rfl
      · rw [om_ar _ _ _ _ _ _ _ _ _ _ (Or.inr (Or.inr h3))]; rfl
      · rw [k0, k1, k2, k3, k4, k5, l0, l1, l2, l3, l4, l5]
        exact ⟨rfl, hm0, rfl, rfl, by decide, by decide, Or.inr (Or.inr (Or.inr (Or.inl ⟨rfl, rfl, rfl, rfl⟩)))⟩
      · rw [l1]; intro q; exact absurd q (by unfold w_lp; decide)
      · intro _
        simp only [q_ar_sc, q_ar_ar, Nat.reduceEqDiff, false_and, if_false, true_and]
        rw [wa.1, wa.2.2.2.2, wa.2.2.2.1]
        refine ⟨by omega, by rw [if_neg (by omega)], Or.inl rfl, rfl, fun b hb ho => ?_⟩
        rw [wo] at ho
        exact (hR.2.2.2.1 b (by omega) ho).1
      · rw [oc_sc _ _ _ _ _ _ _ _ _ (by decide), y_sn _ _ _ _ (by decide)]
      · rw [oc_sc _ _ _ _ _ _ _ _ _ (by decide), y_sn _ _ _ _ (by decide), l1, if_neg (by decide)]
        exact (Int32.add_zero _).symm
  · -- the second BODY of an IF ELSE
    obtain ⟨s1, s2, s3, s4, s5⟩ := hS (by rw [show (fun i => g_ar Sm 747 i) d = g_ar Sm 747 d from rfl, o1]; exact Or.inr (Or.inr (Or.inr rfl)))
    have m4 := k_in (i := sk d) (L := 400) (by omega) (by omega)
    refine ⟨w_am A (sk d) (nI a), s_sc (s_ar Sm 742 (sk d) (nI a)) 745 (nI d), ?_, ?_, Or.inl ⟨pl, a, d, sk, be, ⟨gA.am, (hm.ar 742 (sk d) (nI a) (by decide)).s5, ?_, by omega⟩, by omega⟩⟩
    · unfold f_X5_closeBody
      simp only [x_l_e]
      rw [hc.2.2.2.2.2.2.1, nI_pred, y_sc, hA]
      simp only [x_gt c3]
      simp only [c4, aA]
      rw [o2, if_pos rfl, o3, gA.2.2.2.2.2.1, c_aim (by omega) gA.2.2.2.2.2.2.2.1, x_b_s]
      rfl
    · unfold f_X7_endBody
      simp only [x_l_e]
      rw [hm.2.2.2.2.2.1, nI_pred]
      simp only [x_gt m3]
      rw [c4]
      rw [o1, if_pos rfl, o4, x_gt m4, nI_clamp (by omega), hm.2.2.2.2.1, q_sc_ar, hm.2.2.2.2.2.1, nI_pred]
    · have Q2 : w_Q a d sk be (w_am A (sk d) (nI a)) (s_ar Sm 742 (sk d) (nI a)) := hR.q.aim (s := sk d) (v := nI a) ((am_sc _).trans (sA _ (by decide))) ((am_sc _).trans (sA _ (by decide))) (fun j i => (am_ar j i).trans (aA j i)) (fun j i hj => (am_pa j i hj).trans (pA j i)) (fun i hi => by rw [am_p3 i hi, pA]) (fun j i hj => by rw [q_ar_ar, if_neg (fun q => hj q.1)]) (fun i => by rw [q_ar_ar]; simp only [true_and]) s3 s4 s2 (fun b hb ho => s5 b hb ho) (nI_pos' (by omega)) (Int32.le_refl _)
      exact Q2.pop (by rw [q_ar_ar, if_neg (by omega), o1]; intro q; revert q; unfold w_lp; decide) (fun _ _ => rfl) (fun _ _ => rfl) (fun _ _ => rfl) (fun _ _ => rfl)
  · -- LOOP
    have lp : w_lp (g_ar Sm 747 d) := by rw [o1]; exact Or.inl rfl
    have hg := hG lp
    obtain ⟨u1, u2⟩ := c_emit (n := n) gA ha 2 0 0 (nI (be d))
    obtain ⟨u3, u4⟩ := c_make (n := n) hm ha 2 0 0 (nI (be d))
    have R1 : w_R (a + 1) (d + 1) sk be (w_e A a 2 0 0 (nI (be d))) (w_m Sm a 2 0 0 (nI (be d))) := hR.emit0 (by omega) pA aA (fun _ _ => rfl) (sA _ (by decide)) (Or.inr (Or.inr (Or.inl ⟨rfl, rfl, rfl, nI_pos' (by omega)⟩))) (Or.inl (nI_le (by omega) (by omega))) (Or.inl (sA _ (by decide)))
    obtain ⟨T, t1, t2⟩ := c_endLoop (n := n) (a := a + 1) (g := be d) (by omega) (by omega) hn (nI (be d)) u2.2.2.2.2.2.1 u2.2.2.2.2.2.2.2.1
    obtain ⟨T', t3, t4⟩ := m_close (n := n) (a := a + 1) (d := d) (by omega) hn (nI (a + 1)) (nI (be d)) u4.2.2.2.2.1 u4.2.2.2.2.2.1
    have g9 := u4.fl t4
    refine ⟨T, s_sc T' 745 (nI d), ?_, ?_, Or.inl ⟨pl, a + 1, d, sk, be, ⟨(u2.s7 507 (Or.inr rfl) _).fl t2, g9.s5, ?_, by omega⟩, by omega⟩⟩
    · unfold f_X5_closeBody
      simp only [x_l_e]
      rw [hc.2.2.2.2.2.2.1, nI_pred, y_sc, hA]
      simp only [x_gt c3]
      simp only [c4, aA]
      rw [o2, if_neg (by decide), if_neg (by decide), if_pos rfl, o3, u1, x_b_s, t1, x_b_s]
    · unfold f_X7_endBody
      simp only [x_l_e]
      rw [hm.2.2.2.2.2.1, nI_pred]
      simp only [x_gt m3]
      rw [c4]
      rw [o1, if_neg (by decide), if_neg (by decide), if_neg (by decide), if_neg (by decide), if_pos rfl, o4, u3, x_b_s, u4.2.2.2.2.1, wm_ar _ _ _ _ _ _ 748 d (by omega), o4, t3, x_b_s, g9.2.2.2.2.2.1, nI_pred]
    · have R2 := R1.q.cls (by omega) (by omega) (by rw [wm_ar _ _ _ _ _ _ 747 d (by omega)]; exact lp) t2 t4 (nI_pos' (by omega)) (nI_le (by omega) (by omega))
      exact R2.same (fun _ _ => ⟨rfl, rfl, rfl, rfl, rfl⟩) (fun _ _ _ _ => rfl) (fun _ _ _ => rfl) rfl rfl
  · -- WHILE
    have lp : w_lp (g_ar Sm 747 d) := by rw [o1]; exact Or.inr (Or.inl rfl)
    have hg := hG lp
    obtain ⟨s1, s2, s3, s4, s5⟩ := hS (by rw [show (fun i => g_ar Sm 747 i) d = g_ar Sm 747 d from rfl, o1]; exact Or.inr (Or.inr (Or.inl rfl)))
    have m4 := k_in (i := sk d) (L := 400) (by omega) (by omega)
    rw [← o6] at o3
    obtain ⟨u1, u2⟩ := c_emit (n := n) gA ha 2 0 0 (nI (sk d))
    obtain ⟨u3, u4⟩ := c_make (n := n) hm ha 2 0 0 (nI (sk d))
    have gE : c_b S0 tl pl (a + 1) d (w_am (w_e A a 2 0 0 (nI (sk d))) (sk d) (nI (a + 1))) := u2.am
    have gM := u4.ar 742 (sk d) (nI (a + 1)) (by decide)
    have R1 : w_R (a + 1) (d + 1) sk be (w_e A a 2 0 0 (nI (sk d))) (w_m Sm a 2 0 0 (nI (sk d))) := hR.emit0 (by omega) pA aA (fun _ _ => rfl) (sA _ (by decide)) (Or.inr (Or.inr (Or.inl ⟨rfl, rfl, rfl, nI_pos' (by omega)⟩))) (Or.inl (nI_le (by omega) (by omega))) (Or.inl (sA _ (by decide)))
    have wm := wm_ac Sm a 2 0 0 (nI (sk d)) (sk d)
    have ne : ¬ sk d = a := by omega
    simp only [if_neg ne] at wm
    have wo : ∀ b, g_ar (w_m Sm a 2 0 0 (nI (sk d))) 747 b = g_ar Sm 747 b := fun b => wm_ar _ _ _ _ _ _ 747 b (by omega)
    have Q2 : w_Q (a + 1) d sk be (w_am (w_e A a 2 0 0 (nI (sk d))) (sk d) (nI (a + 1))) (s_ar (w_m Sm a 2 0 0 (nI (sk d))) 742 (sk d) (nI (a + 1))) := R1.q.aim (s := sk d) (v := nI (a + 1)) (am_sc _) (am_sc _) (fun j i => am_ar j i) (fun j i hj => am_pa j i hj) (fun i hi => am_p3 i hi) (fun j i hj => by rw [q_ar_ar, if_neg (fun q => hj q.1)]) (fun i => by rw [q_ar_ar]; simp only [true_and]) (by rw [wm.1]; exact s3) (by rw [wm.2.2.2.2]; exact s4) (by rw [wm.2.2.2.1]; exact s2) (fun b hb ho => s5 b hb (by rw [wo] at ho; exact ho)) (nI_pos' (by omega)) (Int32.le_refl _)
    obtain ⟨T, t1, t2⟩ := c_endLoop (n := n) (a := a + 1) (g := sk d) (by omega) (by omega) hn (nI (sk d)) gE.2.2.2.2.2.1 gE.2.2.2.2.2.2.2.1
    obtain ⟨T', t3, t4⟩ := m_close (n := n) (a := a + 1) (d := d) (by omega) hn (nI (a + 1)) (nI (sk d)) gM.2.2.2.2.1 gM.2.2.2.2.2.1
    have g9 := gM.fl t4
    refine ⟨T, s_sc T' 745 (nI d), ?_, ?_, Or.inl ⟨pl, a + 1, d, sk, be, ⟨(gE.s7 507 (Or.inr rfl) _).fl t2, g9.s5, ?_, by omega⟩, by omega⟩⟩
    · unfold f_X5_closeBody
      simp only [x_l_e]
      rw [hc.2.2.2.2.2.2.1, nI_pred, y_sc, hA]
      simp only [x_gt c3]
      simp only [c4, aA]
      rw [o2, if_neg (by decide), if_neg (by decide), if_neg (by decide), if_pos rfl, o3, u1, x_b_s, u2.2.2.2.2.2.2.1, x_gt c3, c4, we_ar _ _ _ _ _ _ 513 d (by decide), aA, o4, u2.2.2.2.2.2.1, c_aim (by omega) u2.2.2.2.2.2.2.2.1, x_b_s]
      show x_b (f_X5_endLoop n (w_am (w_e A a 2 0 0 (nI (sk d))) (sk d) (nI (a + 1))) (nI (sk d)) (nI (sk d))) (fun S => some S) = _
      rw [t1, x_b_s]
    · unfold f_X7_endBody
      simp only [x_l_e]
      rw [hm.2.2.2.2.2.1, nI_pred]
      simp only [x_gt m3]
      rw [c4]
      rw [o1, if_neg (by decide), if_neg (by decide), if_neg (by decide), if_neg (by decide), if_neg (by decide), if_pos rfl, o5, u3, x_b_s, x_gt m4, nI_clamp (by omega), u4.2.2.2.2.1, gM.2.2.2.2.1, t3, x_b_s, g9.2.2.2.2.2.1, nI_pred]
    · have R2 := Q2.cls (by omega) (by omega) (by rw [q_ar_ar, if_neg (by omega), wo]; exact lp) (by rw [← o6]; exact t2) t4 (nI_pos' (by omega)) (nI_le (by omega) (by omega))
      exact R2.same (fun _ _ => ⟨rfl, rfl, rfl, rfl, rfl⟩) (fun _ _ _ _ => rfl) (fun _ _ _ => rfl) rfl rfl
  · -- DO
    have lp : w_lp (g_ar Sm 747 d) := by rw [o1]; exact Or.inr (Or.inr rfl)
    have hg := hG lp
    obtain ⟨u1, u2⟩ := c_emit (n := n) gA ha 3 (g_ar Sm 749 d) (g_ar Sm 750 d) (nI (be d))
    obtain ⟨u3, u4⟩ := c_make (n := n) hm ha 3 (g_ar Sm 749 d) (g_ar Sm 750 d) (nI (be d))
    have R1 : w_R (a + 1) (d + 1) sk be (w_e A a 3 (g_ar Sm 749 d) (g_ar Sm 750 d) (nI (be d))) (w_m Sm a 3 (g_ar Sm 749 d) (g_ar Sm 750 d) (nI (be d))) := hR.emit0 (by omega) pA aA (fun _ _ => rfl) (sA _ (by decide)) (Or.inr (Or.inr (Or.inr (Or.inl ⟨rfl, b5, b6, nI_pos' (by omega)⟩)))) (Or.inl (nI_le (by omega) (by omega))) (Or.inl (sA _ (by decide)))
    obtain ⟨T, t1, t2⟩ := c_endLoop (n := n) (a := a + 1) (g := be d) (by omega) (by omega) hn (nI a) u2.2.2.2.2.2.1 u2.2.2.2.2.2.2.2.1
    obtain ⟨T', t3, t4⟩ := m_close (n := n) (a := a + 1) (d := d) (by omega) hn (nI (a + 1)) (nI a) u4.2.2.2.2.1 u4.2.2.2.2.2.1
    have g9 := u4.fl t4
    refine ⟨T, s_sc T' 745 (nI d), ?_, ?_, Or.inl ⟨pl, a + 1, d, sk, be, ⟨(u2.s7 507 (Or.inr rfl) _).fl t2, g9.s5, ?_, by omega⟩, by omega⟩⟩
    · unfold f_X5_closeBody
      simp only [x_l_e]
      rw [hc.2.2.2.2.2.2.1, nI_pred, y_sc, hA]
      simp only [x_gt c3]
      simp only [c4, aA]
      rw [o2, if_neg (by decide), if_neg (by decide), if_neg (by decide), if_neg (by decide), if_pos rfl, b3, b4, o3, u1, x_b_s, u2.2.2.2.2.2.1, nI_pred, t1, x_b_s]
    · unfold f_X7_endBody
      simp only [x_l_e]
      rw [hm.2.2.2.2.2.1, nI_pred]
      simp only [x_gt m3]
      rw [c4]
      rw [o1, if_neg (by decide), if_neg (by decide), if_neg (by decide), if_neg (by decide), if_neg (by decide), if_neg (by decide), if_pos rfl, o4, u3, x_b_s, u4.2.2.2.2.1, hm.2.2.2.2.1, t3, x_b_s, g9.2.2.2.2.2.1, nI_pred]
    · have R2 := R1.q.cls (by omega) (by omega) (by rw [wm_ar _ _ _ _ _ _ 747 d (by omega)]; exact lp) t2 t4 (nI_pos' (by omega)) (nI_le (by omega) (by omega))
      exact R2.same (fun _ _ => ⟨rfl, rfl, rfl, rfl, rfl⟩) (fun _ _ _ _ => rfl) (fun _ _ _ => rfl) rfl rfl
end
