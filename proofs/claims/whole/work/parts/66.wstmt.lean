/-! write: a STATEMENT's turn -/
def w_U (S0 S1 : x_S) (tl pl d : Nat) (Sc Sm : x_S) : Prop := (∃ pl' a' d' sk' be', w_W S0 S1 tl pl' a' d' sk' be' Sc Sm ∧ 2 * pl + d' ≤ 2 * pl' + d + 1) ∨ w_G S0 S1 Sc Sm
section
variable {n tl pl a d : Nat} {sk be : Nat → Nat} {S0 S1 Sc Sm : x_S}
theorem c_b.s7 (h : c_b S0 tl pl a d Sc) (j : Nat) (hj : j = 506 ∨ j = 507) (v : Int32) : c_b S0 tl pl a d (s_sc Sc j v) := by
  obtain ⟨h1, h2, h3, h4, h5, h6, h7, h8, h9⟩ := h
  exact ⟨h1.tr (frw_sc _ j _ (by omega) (by omega)), (y_sn _ _ _ _ (by omega)).trans h2, (y_sn _ _ _ _ (by omega)).trans h3, (y_sn _ _ _ _ (by omega)).trans h4, h5, (y_sn _ _ _ _ (by omega)).trans h6, (y_sn _ _ _ _ (by omega)).trans h7, h8, h9⟩
theorem w_s0 (hc : c_b S0 tl pl a d Sc) (hm : m_b S1 tl pl a d Sm) (hR : w_R a d sk be Sc Sm) (ht : ∀ i, i < tl → g_ar S0 605 i = g_ar S1 707 i) (hb : a + d + 1 ≤ pl) : ∃ Sc1 Sm1, f_X5_takeAct n Sc = some Sc1 ∧ f_X7_writeAct n Sm = some Sm1 ∧ w_U S0 S1 tl pl d Sc1 Sm1 := by
  have ha : a < 390 := by have := hc.2.2.2.2.2.2.2.2.1; have := hc.2.2.2.2.2.2.2.2.2.1; omega
  rcases w_plain (n := n) hc hm ht ha with ⟨Sc1, Sm1, z1, z2, z3⟩ | ⟨hp, Tc, Tm, k, x, y, q, e1, e2, z1, z2, z3, z4⟩
  · exact ⟨Sc1, Sm1, z1, z2, Or.inr z3⟩
  · refine ⟨_, _, z1, z2, Or.inl ⟨pl + 3, a + 1, d, sk, be, ⟨z3, z4, ?_, by omega⟩, by omega⟩⟩
    subst e1 e2
    have e6 : ∀ v1 v2 v3 : Int32, ∀ j, j ≠ 501 → g_sc (s_sc (s_sc (s_sc Sc 501 v1) 501 v2) 501 v3) j = g_sc Sc j := fun v1 v2 v3 j hj => by rw [y_sn _ _ _ _ hj, y_sn _ _ _ _ hj, y_sn _ _ _ _ hj]
    exact hR.emit0 (by omega) (fun _ _ => rfl) (fun _ _ => rfl) (fun _ _ => rfl) (e6 _ _ _ _ (by decide)) q (Or.inl (nI_pos' (by omega))) (Or.inl (e6 _ _ _ _ (by decide)))
/-- LOOP and DO -/
theorem w_s3 (hc : c_b S0 tl pl a d Sc) (hm : m_b S1 tl pl a d Sm) (hR : w_R a d sk be Sc Sm) (ht : ∀ i, i < tl → g_ar S0 605 i = g_ar S1 707 i) (hb : a + d + 1 ≤ pl) {k x y : Int32} (hk : k = 3 ∨ k = 5) (hx : 0 ≤ x ∧ x ≤ 3) (hy : 0 ≤ y ∧ y ≤ 5) : ∃ Sc1 Sm1, f_X5_openBody n (s_sc Sc 507 (g_sc Sc 507 + 1)) k (-1) x y = some Sc1 ∧ f_X7_beginBody n Sm k x y (nI a) = some Sm1 ∧ w_U S0 S1 tl pl d Sc1 Sm1 := by
  rcases w_open (n := n) (hc.s7 507 (Or.inr rfl) (g_sc Sc 507 + 1)) hm ht k (-1) x y k x y (nI a) with ⟨Sc1, Sm1, z1, z2, z3⟩ | ⟨hp, hd, m, hm0, z1, z2, z3, z4⟩
  · exact ⟨Sc1, Sm1, z1, z2, Or.inr z3.g⟩
  · refine ⟨_, _, z1, z2, Or.inl ⟨pl + 1, a, d + 1, (fun b => if b = d then 0 else sk b), (fun b => if b = d then a else be b), ⟨z3, z4, ?_, by omega⟩, by omega⟩⟩
    obtain ⟨c0, c1, c2, c3, c4, c5⟩ := oc_at (s_sc (s_sc Sc 507 (g_sc Sc 507 + 1)) 501 (nI (pl + 1))) d a k (-1) x y m
    obtain ⟨m0, m1, m2, m3, m4, m5⟩ := om_at (s_sc Sm 736 (nI (pl + 1))) d a k x y (nI a) m
    have hlp : 3 ≤ k ∧ k ≤ 5 := by rcases hk with rfl | rfl <;> decide
    have hnsk : ¬ w_sk k := by rcases hk with rfl | rfl <;> (intro q; unfold w_sk at q; revert q; decide)
    refine hR.opn 0 a (fun i hi => ⟨rfl, rfl, rfl, rfl, ?_⟩) (fun j i h1 h2 => ?_) (fun j i h1 h2 h3 => ?_) (fun j i h1 h3 => ?_) ?_ ?_ ?_ ?_ ?_
    · rw [oc_ar _ _ _ _ _ _ _ _ _ _ (Or.inl (by decide))]; rfl
    · rw [om_ar _ _ _ _ _ _ _ _ _ _ (Or.inl h2)]; rfl
    · rw [oc_ar _ _ _ _ _ _ _ _ _ _ (Or.inr (Or.inr h3))]; rfl
    · rw [om_ar _ _ _ _ _ _ _ _ _ _ (Or.inr (Or.inr h3))]; rfl
    · rw [c0, c1, c2, c3, c4, c5, m0, m1, m2, m3, m4, m5]
      refine ⟨rfl, hm0, rfl, rfl, hx, hy, ?_⟩
      rcases hk with rfl | rfl
      · exact Or.inr (Or.inr (Or.inr (Or.inr (Or.inl ⟨rfl, rfl, rfl, rfl⟩))))
      · exact Or.inr (Or.inr (Or.inr (Or.inr (Or.inr (Or.inr ⟨rfl, rfl, rfl, rfl⟩)))))
    · exact fun _ => ⟨Nat.le_refl _, fun i hi _ => hi⟩
    · rw [m1]; exact fun q => absurd q hnsk
    · rw [oc_sc _ _ _ _ _ _ _ _ _ (by decide), y_sn _ _ _ _ (by decide), y_sn _ _ _ _ (by decide)]
    · rw [oc_sc _ _ _ _ _ _ _ _ _ (by decide), y_sn _ _ _ _ (by decide), y_sc, m1, if_pos hlp]
/-- IF, IF ELSE and WHILE -/
theorem w_s1 (hc : c_b S0 tl pl a d Sc) (hm : m_b S1 tl pl a d Sm) (hR : w_R a d sk be Sc Sm) (ht : ∀ i, i < tl → g_ar S0 605 i = g_ar S1 707 i) (hb : a + d + 2 ≤ pl) {k x y l : Int32} (hk : (k = 1 ∧ l = 0) ∨ (k = 2 ∧ l = 0) ∨ (k = 4 ∧ l = 1)) {Tc : x_S} (hT : Tc = Sc ∨ Tc = s_sc Sc 507 (g_sc Sc 507 + l)) (hT2 : g_sc Tc 507 = g_sc Sc 507 + l) (hx : 0 ≤ x ∧ x ≤ 3) (hy : 0 ≤ y ∧ y ≤ 5) : ∃ Sc1 Sm1, x_b (f_X5_openBody n Tc k (nI a) x y) (fun S => x_b (f_X5_emit n S 3 x y 0) (fun S => some S)) = some Sc1 ∧ f_X7_writeStatement_255 n Sm k x y (nI a) = some Sm1 ∧ w_U S0 S1 tl pl d Sc1 Sm1 := by
  have ha : a < 390 := by have := hc.2.2.2.2.2.2.2.2.1; have := hc.2.2.2.2.2.2.2.2.2.1; omega
  have hcT : c_b S0 tl pl a d Tc := by
    rcases hT with rfl | rfl
    · exact hc
    · exact hc.s7 507 (Or.inr rfl) _
  have aT : ∀ j i, g_ar Tc j i = g_ar Sc j i := by
    rcases hT with rfl | rfl <;> exact fun _ _ => rfl
  have pT : ∀ j i, g_pa Tc j 0 i = g_pa Sc j 0 i := by
    rcases hT with rfl | rfl <;> exact fun _ _ => rfl
  have sT : g_sc Tc 506 = g_sc Sc 506 := by
    rcases hT with rfl | rfl
    · rfl
    · exact y_sn _ _ _ _ (by decide)
  obtain ⟨u1, u2⟩ := c_make (n := n) hm ha 3 x y 0
  have ok : w_ok 3 x y 0 := Or.inr (Or.inr (Or.inr (Or.inl ⟨rfl, hx, hy, by decide⟩)))
  obtain ⟨n1, n2, n3⟩ := w_ok_n ok
  unfold f_X7_writeStatement_255 f_X7_writeStatement_265
  rw [u1, x_b_s]
  rcases w_open (n := n) hcT u2 ht k (nI a) x y k x y (nI a) with ⟨Sc1, Sm1, z1, z2, v, p, M, b1, b2, b3⟩ | ⟨hp, hd, m, hm0, z1, z2, z3, z4⟩
  · obtain ⟨Sc2, w1, w2, -⟩ := f_emit (n := n) b1 (by omega) 3 x y 0
    rw [z1, x_b_s, w1, x_b_s, z2, x_b_s]
    exact ⟨_, _, rfl, rfl, Or.inr ⟨v, p, M + 1, w2, by omega, b3⟩⟩
  · obtain ⟨w1, w2⟩ := c_emit (n := n) z3 ha 3 x y 0
    rw [z1, x_b_s, w1, x_b_s, z2, x_b_s]
    refine ⟨_, _, rfl, rfl, Or.inl ⟨pl + 1, a + 1, d + 1, (fun b => if b = d then a else sk b), (fun b => if b = d then a else be b), ⟨w2, z4, ?_, by omega⟩, by omega⟩⟩
    have R1 : w_R (a + 1) d sk be (w_e Sc a 3 x y 0) (w_m Sm a 3 x y 0) := hR.emit0 (by omega) (fun _ _ => rfl) (fun _ _ => rfl) (fun _ _ => rfl) rfl ok (Or.inl (nI_pos' (by omega))) (Or.inl rfl)
    obtain ⟨c0, c1, c2, c3, c4, c5⟩ := oc_at (s_sc Tc 501 (nI (pl + 1))) d a k (nI a) x y m
    obtain ⟨m0, m1, m2, m3, m4, m5⟩ := om_at (s_sc (w_m Sm a 3 x y 0) 736 (nI (pl + 1))) d (a + 1) k x y (nI a) m
    have hw := wm_ac Sm a 3 x y 0 a
    simp only [if_true] at hw
    refine R1.opn a a (fun i hi => ?_) (fun j i h1 h2 => ?_) (fun j i h1 h2 h3 => ?_) (fun j i h1 h3 => ?_) ?_ ?_ ?_ ?_ ?_
    · have e1 := we_pa (w_oc (s_sc Tc 501 (nI (pl + 1))) d a k (nI a) x y m) a 3 x y 0 i hi
      have e2 := we_pa Sc a 3 x y 0 i hi
      have e3 : ∀ j, g_pa (w_oc (s_sc Tc 501 (nI (pl + 1))) d a k (nI a) x y m) j 0 i = g_pa Sc j 0 i := fun j => pT j i
      rw [e3, e3, e3, e3] at e1
      refine ⟨e1.1.trans e2.1.symm, e1.2.1.trans e2.2.1.symm, e1.2.2.1.trans e2.2.2.1.symm, e1.2.2.2.trans e2.2.2.2.symm, ?_⟩
      rw [we_aw _ _ _ _ _ _ i hi, we_aw _ _ _ _ _ _ i hi, oc_ar _ _ _ _ _ _ _ _ _ _ (Or.inl (by decide)), q_ar_sc, aT]
    · rw [om_ar _ _ _ _ _ _ _ _ _ _ (Or.inl h2)]; rfl
    · rw [we_ar _ _ _ _ _ _ j i (by omega), we_ar _ _ _ _ _ _ j i (by omega), oc_ar _ _ _ _ _ _ _ _ _ _ (Or.inr (Or.inr h3)), q_ar_sc, aT]
    · rw [om_ar _ _ _ _ _ _ _ _ _ _ (Or.inr (Or.inr h3))]; rfl
    · rw [we_ar _ _ _ _ _ _ 510 d (by decide), we_ar _ _ _ _ _ _ 511 d (by decide), we_ar _ _ _ _ _ _ 512 d (by decide), we_ar _ _ _ _ _ _ 513 d (by decide), we_ar _ _ _ _ _ _ 514 d (by decide), we_ar _ _ _ _ _ _ 515 d (by decide), c0, c1, c2, c3, c4, c5, m0, m1, m2, m3, m4, m5]
      refine ⟨rfl, hm0, rfl, rfl, hx, hy, ?_⟩
      rcases hk with ⟨rfl, -⟩ | ⟨rfl, -⟩ | ⟨rfl, -⟩
      · exact Or.inr (Or.inl ⟨rfl, rfl, rfl, rfl⟩)
      · exact Or.inr (Or.inr (Or.inl ⟨rfl, rfl, rfl, rfl⟩))
      · exact Or.inr (Or.inr (Or.inr (Or.inr (Or.inr (Or.inl ⟨rfl, rfl, rfl, rfl, rfl, rfl⟩)))))
    · intro _
      refine ⟨by omega, fun i hi hf => ?_⟩
      have e : ¬ i = a := fun q => by subst q; exact hf hw.2.2.2.2
      omega
    · intro _
      refine ⟨by omega, hw.2.2.2.1, Or.inr hw.1, hw.2.2.2.2, fun b hb hs => ?_⟩
      rw [wm_ar _ _ _ _ _ _ 747 b (by omega)] at hs
      exact (hR.2.2.2.1 b hb hs).1
    · rw [we_sc _ _ _ _ _ _ _ (by decide), we_sc _ _ _ _ _ _ _ (by decide), oc_sc _ _ _ _ _ _ _ _ _ (by decide), y_sn _ _ _ _ (by decide), sT]
    · rw [we_sc _ _ _ _ _ _ _ (by decide), we_sc _ _ _ _ _ _ _ (by decide), oc_sc _ _ _ _ _ _ _ _ _ (by decide), y_sn _ _ _ _ (by decide), hT2, m1]
      rcases hk with ⟨rfl, rfl⟩ | ⟨rfl, rfl⟩ | ⟨rfl, rfl⟩ <;> rfl
/-- takeTested -/
theorem w_sT (hc : c_b S0 tl pl a d Sc) (hm : m_b S1 tl pl a d Sm) (hR : w_R a d sk be Sc Sm) (ht : ∀ i, i < tl → g_ar S0 605 i = g_ar S1 707 i) (hb : a + d + 1 ≤ pl) (hn : 1000 ≤ n) {k : Int32} (hk : k = 1 ∨ k = 2 ∨ k = 4 ∨ k = 5) : ∃ Sc1 Sm1, f_X5_takeTested n Sc k = some Sc1 ∧ f_X7_writeStatement_119 n Sm k 0 1 = some Sm1 ∧ w_U S0 S1 tl pl d Sc1 Sm1 := by
  have fx : ∀ {T : x_S} {v p : Int32} {M : Nat} (x y : Int32), xf_c S0 v p M T → M ≤ 1000 → ∃ T1, (if k = 4 then f_X5_takeTested_22 n T k x y else if k = 5 then f_X5_takeTested_22 n T k x y else f_X5_takeTested_32 n T k x y) = some T1 ∧ xf_c S0 v p (M + 1) T1 := by
    intro T v p M x y b1 b2
    split
    · exact f_t22 b1 (by omega) k x y
    · split
      · exact f_t22 b1 (by omega) k x y
      · exact f_t32 b1 (by omega) k x y
  unfold f_X5_takeTested f_X7_writeStatement_119
  rw [if_neg i_1n]
  rcases w_tA (n := n) hc hm ht with ⟨u, Sc1, u', Sm1, e1, e2, v, p, M, b1, b2, b3⟩ | ⟨hp, x, x1, x2, e1, e2, g1, g2⟩
  · rw [e1, x_b2_s, f_takeB b1, x_b2_s, e2, x_b2_s]
    obtain ⟨T1, w1, w2⟩ := fx u 0 b1 b2
    obtain ⟨T2, w3, w4⟩ := m_ws133 (n := n) b3 hn k 0 1 u'
    rw [w1, w3]
    exact ⟨_, _, rfl, rfl, Or.inr ⟨v, p, M + 1, w2, by omega, w4⟩⟩
  · rw [e1, x_b2_s, e2, x_b2_s]
    unfold f_X7_writeStatement_133
    rw [if_neg i_1n]
    rcases w_tB (n := n) g1 g2 ht with ⟨u, Sc1, u', Sm1, e1, e2, v, p, M, b1, b2, b3⟩ | ⟨hp2, y, y1, y2, e1, e2, g3, g4⟩
    · rw [e1, x_b2_s, e2, x_b2_s]
      obtain ⟨T1, w1, w2⟩ := fx x u b1 b2
      obtain ⟨T2, w3, w4⟩ := m_ws148 (n := n) b3 hn k 0 1 x u'
      rw [w1, w3]
      exact ⟨_, _, rfl, rfl, Or.inr ⟨v, p, M + 1, w2, by omega, w4⟩⟩
    · rw [e1, x_b2_s, e2, x_b2_s]
      have R2 : w_R a d sk be (s_sc (s_sc Sc 501 (nI (pl + 1))) 501 (nI (pl + 1 + 1))) (s_sc (s_sc Sm 736 (nI (pl + 1))) 736 (nI (pl + 1 + 1))) := hR.same (fun _ _ => ⟨rfl, rfl, rfl, rfl, rfl⟩) (fun _ _ _ _ => rfl) (fun _ _ _ => rfl) (by rw [y_sn _ _ _ _ (by decide), y_sn _ _ _ _ (by decide)]) (by rw [y_sn _ _ _ _ (by decide), y_sn _ _ _ _ (by decide)])
      have up : ∀ {A B : x_S}, w_U S0 S1 tl (pl + 1 + 1) d A B → w_U S0 S1 tl pl d A B := by
        rintro A B (⟨pl', a', d', sk', be', h1, h2⟩ | h)
        · exact Or.inl ⟨pl', a', d', sk', be', h1, by omega⟩
        · exact Or.inr h
      unfold f_X7_writeStatement_148
      rw [if_pos (show (0 : Int32) = 0 from rfl), x_l_e, g4.2.2.2.2.1]
      generalize hA : s_sc (s_sc Sc 501 (nI (pl + 1))) 501 (nI (pl + 1 + 1)) = A at R2 g3
      generalize hB : s_sc (s_sc Sm 736 (nI (pl + 1))) 736 (nI (pl + 1 + 1)) = B at R2 g4
      have hA5 := g3.2.2.2.2.2.1
      rcases hk with rfl | rfl | rfl | rfl
      · obtain ⟨Sc1, Sm1, z1, z2, z3⟩ := w_s1 (n := n) g3 g4 R2 ht (by omega) (k := 1) (x := x) (y := y) (l := 0) (Or.inl ⟨rfl, rfl⟩) (Or.inl rfl) (Int32.add_zero _).symm ⟨x1, x2⟩ ⟨y1, y2⟩
        refine ⟨Sc1, Sm1, ?_, ?_, up z3⟩
        · rw [if_neg (by decide), if_neg (by decide)]
          unfold f_X5_takeTested_32
          rw [if_neg (by decide), x_l_e, hA5]
          exact z1
        · rw [if_neg (by decide), if_neg (by decide), if_pos rfl]
          exact z2
      · obtain ⟨Sc1, Sm1, z1, z2, z3⟩ := w_s1 (n := n) g3 g4 R2 ht (by omega) (k := 2) (x := x) (y := y) (l := 0) (Or.inr (Or.inl ⟨rfl, rfl⟩)) (Or.inl rfl) (Int32.add_zero _).symm ⟨x1, x2⟩ ⟨y1, y2⟩
        refine ⟨Sc1, Sm1, ?_, ?_, up z3⟩
        · rw [if_neg (by decide), if_neg (by decide)]
          unfold f_X5_takeTested_32
          rw [if_neg (by decide), x_l_e, hA5]
          exact z1
        · rw [if_neg (by decide), if_neg (by decide), if_neg (by decide), if_pos rfl]
          exact z2
      · obtain ⟨Sc1, Sm1, z1, z2, z3⟩ := w_s1 (n := n) g3 g4 R2 ht (by omega) (k := 4) (x := x) (y := y) (l := 1) (Or.inr (Or.inr ⟨rfl, rfl⟩)) (Or.inr rfl) (y_sc _ _ _) ⟨x1, x2⟩ ⟨y1, y2⟩
        refine ⟨Sc1, Sm1, ?_, ?_, up z3⟩
        · rw [if_pos rfl]
          unfold f_X5_takeTested_22 f_X5_takeTested_32
          rw [x_l_e, x_l_e, if_neg (by decide), x_l_e, y_sn _ _ _ _ (by decide), hA5]
          exact z1
        · rw [if_neg (by decide), if_neg (by decide), if_neg (by decide), if_neg (by decide), if_pos rfl]
          exact z2
      · obtain ⟨Sc1, Sm1, z1, z2, z3⟩ := w_s3 (n := n) g3 g4 R2 ht (by omega) (k := 5) (Or.inr rfl) ⟨x1, x2⟩ ⟨y1, y2⟩
        refine ⟨Sc1, Sm1, ?_, ?_, up z3⟩
        · rw [if_neg (by decide), if_pos rfl]
          unfold f_X5_takeTested_22 f_X5_takeTested_32
          rw [x_l_e, x_l_e, if_pos rfl, z1, x_b_s]
        · rw [if_neg (by decide), if_neg (by decide), if_neg (by decide), if_neg (by decide), if_neg (by decide)]
          unfold f_X7_writeStatement_265
          rw [z2, x_b_s]
end
