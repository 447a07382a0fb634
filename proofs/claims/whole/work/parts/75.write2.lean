/-! write: the whole of it -/
theorem w_ok_act {k x y z : Int32} {a : Nat} (h : w_ok k x y z) (hz : z ≤ nI a) (ha : a ≤ 60) : ok_act k x y z := by
  have l3 : ∀ x : Int32, x ≤ 3 → x < 4 := fun x h => by rw [Int32.le_iff_toInt_le] at h; rw [Int32.lt_iff_toInt_lt]; have : (3 : Int32).toInt = 3 := rfl; have : (4 : Int32).toInt = 4 := rfl; omega
  have l5 : ∀ x : Int32, x ≤ 5 → x < 6 := fun x h => by rw [Int32.le_iff_toInt_le] at h; rw [Int32.lt_iff_toInt_lt]; have : (5 : Int32).toInt = 5 := rfl; have : (6 : Int32).toInt = 6 := rfl; omega
  have l11 : ∀ x : Int32, x ≤ 11 → x < 12 := fun x h => by rw [Int32.le_iff_toInt_le] at h; rw [Int32.lt_iff_toInt_lt]; have : (11 : Int32).toInt = 11 := rfl; have : (12 : Int32).toInt = 12 := rfl; omega
  have hz2 : z ≤ 60 := Int32.le_trans hz (show nI a ≤ nI 60 from nI_le ha (by decide))
  rcases h with ⟨rfl, h1, h2⟩ | ⟨rfl, ⟨h1, h2⟩, h3⟩ | ⟨rfl, h1, h2, h3⟩ | ⟨rfl, ⟨h1, h2⟩, ⟨h3, h4⟩, h5⟩ | ⟨rfl, h1, h2, h3⟩ | ⟨rfl, ⟨h1, h2⟩, h3, h4⟩
  · exact Or.inl ⟨rfl, h1, h2⟩
  · exact Or.inr (Or.inl ⟨rfl, h1, l3 x h2, h3⟩)
  · exact Or.inr (Or.inr (Or.inl ⟨rfl, h1, h2, h3, hz2⟩))
  · exact Or.inr (Or.inr (Or.inr (Or.inl ⟨rfl, h1, l3 x h2, h3, l5 y h4, h5, hz2⟩)))
  · exact Or.inr (Or.inr (Or.inr (Or.inr (Or.inl ⟨rfl, h1, h2, h3⟩))))
  · exact Or.inr (Or.inr (Or.inr (Or.inr (Or.inr ⟨rfl, h1, l11 x h2, h3, h4⟩))))
theorem w_parse {n tl : Nat} {Sc Sm : x_S} (hn : 1000 ≤ n) (htl : tl ≤ 300) (hnp : 0 < g_np Sc) (h708 : g_sc Sm 708 = nI tl) (ht : ∀ i, i < tl → g_ar Sc 605 i = g_ar Sm 707 i) : ∃ Tc Tm, f_X5_parse n Sc (nI tl) = f_X5_parse_117 n Tc ∧ x_let (s_sc Sm 736 0) (fun S => x_let (s_sc S 737 0) (fun S => x_let (s_sc S 738 0) (fun S => x_let (s_sc S 745 0) (fun S => x_b (f_X7_beginBody n S 0 0 0 0) (fun S => x_loop (fun rec z => f_X7_write_40 n rec z) n S))))) = f_X7_write_97 n Tm ∧ w_E Sc Sm tl Tc Tm := by
  unfold f_X5_parse
  simp only [x_l_e]
  generalize hA : s_sc (s_sc (s_sc (s_sc (s_sc (s_sc (s_sc (s_rf Sc 502 (some 0)) 503 (nI tl)) 501 0) 504 0) 505 0) 506 0) 507 0) 509 0 = A
  generalize hB : s_sc (s_sc (s_sc (s_sc Sm 736 0) 737 0) 738 0) 745 0 = B
  have frf : frw Sc (s_rf Sc 502 (some 0)) := ⟨fun _ _ => rfl, fun _ _ _ => rfl, rfl, fun _ _ => rfl, fun _ _ _ _ => rfl, fun x => by
    by_cases e : x = 502
    · exact Or.inr ⟨e, by rw [q_rf_rf, if_pos e]⟩
    · exact Or.inl (by rw [q_rf_rf, if_neg e]), fun _ _ => rfl⟩
  have gA : c_b Sc tl 0 0 0 A := by
    subst hA
    refine ⟨(((((((frf.tr (frw_sc _ 503 _ (by decide) (by decide))).tr (frw_sc _ 501 _ (by decide) (by decide))).tr (frw_sc _ 504 _ (by decide) (by decide))).tr (frw_sc _ 505 _ (by decide) (by decide))).tr (frw_sc _ 506 _ (by decide) (by decide))).tr (frw_sc _ 507 _ (by decide) (by decide))).tr (frw_sc _ 509 _ (by decide) (by decide))), ?_, ?_, ?_, ?_, ?_, ?_, hnp, by omega, htl, by omega, by omega⟩
    · simp only [q_sc_sc, Nat.reduceEqDiff, if_false, if_true]
    · simp only [q_sc_sc, Nat.reduceEqDiff, if_false, if_true]; rfl
    · simp only [q_sc_sc, Nat.reduceEqDiff, if_false, if_true]
    · show g_rf (s_rf Sc 502 (some 0)) 502 = some 0
      rw [q_rf_rf, if_pos rfl]
    · simp only [q_sc_sc, Nat.reduceEqDiff, if_false, if_true]; rfl
    · simp only [q_sc_sc, Nat.reduceEqDiff, if_false, if_true]; rfl
  have gB : m_b Sm tl 0 0 0 B := by
    subst hB
    refine ⟨((((fr_m_rf Sm).tr (fr_m_sc _ 736 _ (by decide))).tr (fr_m_sc _ 737 _ (by decide))).tr (fr_m_sc _ 738 _ (by decide))).tr (fr_m_sc _ 745 _ (by decide)), ?_, ?_, ?_, ?_, ?_, by omega, htl, by omega, by omega⟩
    · simp only [q_sc_sc, Nat.reduceEqDiff, if_false, if_true]
    · simp only [q_sc_sc, Nat.reduceEqDiff, if_false, if_true]; rfl
    · simp only [q_sc_sc, Nat.reduceEqDiff, if_false, if_true]; exact h708
    · simp only [q_sc_sc, Nat.reduceEqDiff, if_false, if_true]; rfl
    · simp only [q_sc_sc, Nat.reduceEqDiff, if_false, if_true]; rfl
  have e6 : g_sc A 506 = 0 := by subst hA; simp only [q_sc_sc, Nat.reduceEqDiff, if_false, if_true]
  have e7 : g_sc A 507 = 0 := by subst hA; simp only [q_sc_sc, Nat.reduceEqDiff, if_false, if_true]
  have R0 : w_R 0 0 (fun _ => 0) (fun _ => 0) A B := ⟨fun i hi => absurd hi (by omega), fun b hb => absurd hb (by omega), fun i hi => absurd hi (by omega), fun b hb => absurd hb (by omega), fun b hb => absurd hb (by omega), ⟨by rw [e6]; decide, fun i hi => absurd hi (by omega), Or.inl e6⟩, e7⟩
  rcases w_open (n := n) gA gB ht (-1) (-1) 0 0 0 0 0 0 with ⟨T1, T2, z1, z2, z3⟩ | ⟨hp, hd, m, hm0, z1, z2, z3, z4⟩
  · rw [z1, z2, x_b_s, x_b_s]
    obtain ⟨q, rfl⟩ : ∃ q, n = q + 1 := ⟨n - 1, by omega⟩
    obtain ⟨v, p, M, g1, g2, g3⟩ := id z3
    refine ⟨T1, T2, ?_, ?_, Or.inr z3.g⟩
    · rw [x_loop_s]
      exact c_p50f (t := 0) (by omega) (by rw [g1.2.2.1]; exact g1.2.1)
    · rw [x_loop_s]
      exact c_w40f (by rw [g3.2.2.1]; exact g3.2.1)
  · rw [z1, z2, x_b_s, x_b_s]
    obtain ⟨k0, k1, k2, k3, k4, k5⟩ := oc_at (s_sc A 501 (nI (0 + 1))) 0 0 (-1) (-1) 0 0 m
    obtain ⟨l0, l1, l2, l3, l4, l5⟩ := om_at (s_sc B 736 (nI (0 + 1))) 0 0 0 0 0 0 m
    have R1 := R0.opn (Tc := w_oc (s_sc A 501 (nI (0 + 1))) 0 0 (-1) (-1) 0 0 m) (Tm := w_om (s_sc B 736 (nI (0 + 1))) 0 0 0 0 0 0 m) 0 0 (fun i hi => ⟨rfl, rfl, rfl, rfl, by rw [oc_ar _ _ _ _ _ _ _ _ _ _ (Or.inl (by decide))]; rfl⟩) (fun j i h1 h2 => by rw [om_ar _ _ _ _ _ _ _ _ _ _ (Or.inl h2)]; rfl) (fun j i h1 h2 h3 => by rw [oc_ar _ _ _ _ _ _ _ _ _ _ (Or.inr (Or.inr h3))]; rfl) (fun j i h1 h3 => by rw [om_ar _ _ _ _ _ _ _ _ _ _ (Or.inr (Or.inr h3))]; rfl) (by rw [k0, k1, k2, k3, k4, k5, l0, l1, l2, l3, l4, l5]; exact ⟨rfl, hm0, rfl, rfl, by decide, by decide, Or.inl ⟨rfl, rfl⟩⟩) (by rw [l1]; intro q; exact absurd q (by unfold w_lp; decide)) (by rw [l1]; intro q; exact absurd q (by unfold w_sk; decide)) (by rw [oc_sc _ _ _ _ _ _ _ _ _ (by decide), y_sn _ _ _ _ (by decide)]) (by rw [oc_sc _ _ _ _ _ _ _ _ _ (by decide), y_sn _ _ _ _ (by decide), l1, if_neg (by decide)]; exact (Int32.add_zero _).symm)
    exact w_loop ht hn 700 0 (by omega) n n (by omega) (by omega) 1 0 1 _ _ _ _ ⟨z3, z4, R1, by omega⟩ (by omega)
theorem l2_write (n : Nat) (hn : 1000 ≤ n) : x_2_write INV n := by
  intro Sc Sm h
  obtain ⟨N, hN⟩ := h
  obtain ⟨⟨h1, h2, h3, h4, h5, h6, h7⟩, k2, ⟨tl, t1, t2, t3, t4⟩, k4, k5, k6, k7⟩ := id hN
  by_cases hb : N = 12
  · subst hb
    refine ⟨-4, Sc, Sm, ?_, ?_, 12, hN⟩
    · unfold f_X6_write
      rw [x_l_e, h3, if_neg (by decide)]
    · unfold f_X7_write
      rw [x_l_e, h2, if_pos (by decide)]
  · have hN12 : N < 12 := by omega
    have hj2 : N < 2 ^ 31 := by omega
    have c1 : nI N < (12 : Int32) := nI_lt hN12 (by decide)
    have c2 : ¬ nI N = (12 : Int32) := fun e => hb ((nI_eq (b := 12) hj2 (by decide)).mp e)
    have c3 := k_in2 hN12 hj2
    have c4 := nI_clamp hj2
    obtain ⟨Tc, Tm, p1, p2, p3⟩ := w_parse (n := n) hn t1 (by omega) t3 t4
    unfold f_X6_write f_X7_write
    rw [x_l_e, h3, if_pos c1, x_l_e, x_gt rfl, t2, p1, x_l_e, h2, if_neg c2, p2]
    rcases w_out (n := n) p3 hn with ⟨c, p, Uc, Um, q1, q2, q3, q4, ⟨X, w, rfl, q5⟩, q6⟩ | ⟨pl, a, sk, be, Uc, a60, hW, q1, q2, rfl, q3⟩
    · rw [q2, x_b2_s, x_l_e, if_neg q1, x_l_e, y_sn _ _ _ _ (by decide), q4, x_l_e, q3]
      exact ⟨_, _, _, rfl, rfl, N, iv_wf hN q5 q6⟩
    · obtain ⟨hc, hm, hR, hab⟩ := hW
      have fc := hc.1
      have fm := hm.1
      have hnpT : g_np Tc = N + 1 := fc.2.2.1.trans h4
      -- the class
      have e9 : N + 1 < g_np (s_new (s_sc (s_ps Tc 4 0 (nI a)) 606 0)) := by rw [q_np_new, q_np_sc, q_np_ps, hnpT]; omega
      have e0 : 0 < g_np (s_new (s_sc (s_ps Tc 4 0 (nI a)) 606 0)) := by omega
      have e40 : g_ps (s_new (s_sc (s_ps Tc 4 0 (nI a)) 606 0)) 4 0 = nI a := by
        rw [q_ps_new, q_np_sc, q_np_ps, hnpT, if_neg (by omega), q_ps_sc, q_ps_ps, if_pos ⟨rfl, rfl⟩]
      generalize hV : s_new (s_sc (s_ps Tc 4 0 (nI a)) 606 0) = V at e9 e0 e40
      obtain ⟨U, u1, u2⟩ := c_over (n := n) (a := a) (j := N + 1) a60 (by omega) a 0 (by omega) n (by omega) (s_ps V 4 (N + 1) (nI a)) e9 (by rw [q_ps_ps, if_pos ⟨rfl, rfl⟩])
      obtain ⟨o1, o2, o3, o4, o5, o6, o7, o8⟩ := u2
      have vpa : ∀ x y z, y ≤ N → g_pa V x y z = g_pa Tc x y z := fun x y z hy => by subst hV; rw [q_pa_new, q_np_sc, q_np_ps, hnpT, if_neg (by omega)]; rfl
      have vps : ∀ x y, 0 < y → y ≤ N → g_ps V x y = g_ps Tc x y := fun x y hy hy2 => by subst hV; rw [q_ps_new, q_np_sc, q_np_ps, hnpT, if_neg (by omega), q_ps_sc, q_ps_ps, if_neg (by omega)]
      have vnp : g_np V = N + 2 := by subst hV; rw [q_np_new, q_np_sc, q_np_ps, hnpT]
      have vsc : ∀ x, x ≠ 606 → g_sc V x = g_sc Tc x := fun x hx => by subst hV; rw [q_sc_new, y_sn _ _ _ _ hx]; rfl
      have vsc6 : g_sc V 606 = 0 := by subst hV; rw [q_sc_new, y_sc]
      have var : ∀ x y, g_ar V x y = g_ar Tc x y := fun x y => by subst hV; rfl
      have vra : ∀ x y, g_ra V x y = g_ra Tc x y := fun x y => by subst hV; rfl
      have vrf : ∀ x, g_rf V x = g_rf Tc x := fun x => by subst hV; rfl
      have acts : ∀ i, i < a → g_pa U 0 (N + 1) i = g_ar Tm 739 i ∧ g_pa U 1 (N + 1) i = g_ar Tm 740 i ∧ g_pa U 2 (N + 1) i = g_ar Tm 741 i ∧ g_pa U 3 (N + 1) i = g_ar Tm 742 i := by
        intro i hi
        obtain ⟨w1, w2, -⟩ := hR.1 i hi
        obtain ⟨z1, z2, z3, z4, -⟩ := w1 (by omega)
        obtain ⟨n1, n2, n3⟩ := w_ok_n w2
        obtain ⟨y1, y2, y3, y4⟩ := o8 i (by omega) hi
        rw [y1, y2, y3, y4, q_pa_ps, q_pa_ps, q_pa_ps, q_pa_ps, vpa 0 0 i (by omega), vpa 1 0 i (by omega), vpa 2 0 i (by omega), vpa 3 0 i (by omega)]
        simp only at z1 z2 z3 z4 n1 n2 n3
        rw [z1, z2, z3, z4, n1, n2, n3]
        exact ⟨rfl, rfl, rfl, rfl⟩
      have hU4 : g_ps U 4 (N + 1) = nI a := by rw [o4, q_ps_ps, if_pos ⟨rfl, rfl⟩]
      have hUn : g_np U = N + 2 := by rw [o3]; exact vnp
      obtain ⟨v, v1, v2⟩ := e_judge n hn U (N + 1) a (by omega) a60 hU4
      have hv : v = 1 := by
        rcases v1 with ⟨rfl, -⟩ | ⟨-, hv⟩
        · rfl
        · exact absurd (fun l hl => by rw [(acts l hl).2.2.2]; exact q1 l hl) hv
      subst hv
      have cls : x_b (f_X2_takeOver n V (N + 1) 0) (fun S => f_X6_addRoutine n S (N + 1)) = some (nI N, s_sc (s_ra (s_ps U 5 (N + 1) 1) 600 N (some (N + 1))) 601 (nI (N + 1))) := by
        unfold f_X2_takeOver
        rw [x_gt e0, x_l_e, e40, x_gt e9, x_l_e, show (0 : Int32) = nI 0 from rfl, u1, v2, x_b_s, x_b_s]
        unfold f_X6_addRoutine
        have s601 : g_sc (s_ps U 5 (N + 1) 1) 601 = nI N := by
          rw [q_sc_ps, o1, q_sc_ps, vsc 601 (by decide), fc.1 601 (by decide)]; exact h3
        have gnp : N + 1 < g_np (s_ps U 5 (N + 1) 1) := by rw [q_np_ps, hUn]; omega
        rw [x_l_e, s601, if_pos c1, x_gt gnp, c4, x_gt c3, x_l_e, nI_1, x_l_e]
      -- the reference
      have hm7 : g_sc Tm 700 = nI N := (fm.1 700 (by decide)).trans h2
      obtain ⟨Y, y1, y2⟩ := m_244 (n := n) (a := a) (N := N) a60 hN12 a 0 (by omega) n (by omega) (s_ar (s_sc (s_sc (s_sc Tm 737 0) 708 0) 700 (nI (N + 1))) 701 N (nI a)) (by rw [q_sc_ar, y_sn _ _ _ _ (by decide), y_sn _ _ _ _ (by decide), y_sn _ _ _ _ (by decide)]; exact hm.2.2.2.2.1)
      obtain ⟨m1, m2, m3, m4, m5⟩ := y2
      have mdl : f_X7_write_186 n Tm 0 = some (nI N, Y) := by
        unfold f_X7_write_186 f_X7_write_189
        simp only [x_l_e]
        rw [y_sn _ _ _ _ (show (737 : Nat) ≠ 708 by decide), y_sc, if_pos rfl, y_sn _ _ _ _ (show (700 : Nat) ≠ 708 by decide), y_sn _ _ _ _ (show (700 : Nat) ≠ 737 by decide), hm7, nI_1, y_sn _ _ _ _ (show (738 : Nat) ≠ 700 by decide), y_sn _ _ _ _ (show (738 : Nat) ≠ 708 by decide), y_sn _ _ _ _ (show (738 : Nat) ≠ 737 by decide), hm.2.2.2.2.1, c4, x_gt c3]
        exact y1
      refine ⟨nI N, s_sc (s_ra (s_ps U 5 (N + 1) 1) 600 N (some (N + 1))) 601 (nI (N + 1)), Y, ?_, q3.trans mdl, N + 1, ?_⟩
      · rw [q2, x_b2_s, x_l_e, if_pos rfl, x_l_e, x_l_e, q_np_sc, q_np_ps, hnpT, hV, x_gt e9]
        exact cls
      · have fsc : ∀ x, (x < 500 ∨ 600 ≤ x) → x ≠ 601 → x ≠ 606 → g_sc (s_sc (s_ra (s_ps U 5 (N + 1) 1) 600 N (some (N + 1))) 601 (nI (N + 1))) x = g_sc Sc x := fun x hx hx1 hx2 => by
          rw [y_sn _ _ _ _ hx1, q_sc_ra, q_sc_ps, o1, q_sc_ps, vsc x hx2, fc.1 x hx]
        have far : ∀ x y, (x < 500 ∨ 600 ≤ x) → g_ar (s_sc (s_ra (s_ps U 5 (N + 1) 1) 600 N (some (N + 1))) 601 (nI (N + 1))) x y = g_ar Sc x y := fun x y hx => by
          rw [q_ar_sc, q_ar_ra, q_ar_ps, o2, q_ar_ps, var x y, fc.2.1 x y hx]
        have fps : ∀ x r, r < N → g_ps (s_sc (s_ra (s_ps U 5 (N + 1) 1) 600 N (some (N + 1))) 601 (nI (N + 1))) x (r + 1) = g_ps Sc x (r + 1) := fun x r hr => by
          rw [q_ps_sc, q_ps_ra, q_ps_ps, if_neg (by omega), o4, q_ps_ps, if_neg (by omega), vps x (r + 1) (by omega) (by omega), fc.2.2.2.1]
        have fpa : ∀ x r i, r < N → g_pa (s_sc (s_ra (s_ps U 5 (N + 1) 1) 600 N (some (N + 1))) 601 (nI (N + 1))) x (r + 1) i = g_pa Sc x (r + 1) i := fun x r i hr => by
          rw [q_pa_sc, q_pa_ra, q_pa_ps, o7 x (r + 1) i (by omega), q_pa_ps, vpa x (r + 1) i (by omega), fc.2.2.2.2.1 x (r + 1) i (by omega)]
        have gsc : ∀ x, x ≤ 714 → x ≠ 700 → x ≠ 708 → g_sc Y x = g_sc Sm x := fun x hx h1 h2 => by
          rw [m1, q_sc_ar, y_sn _ _ _ _ h1, y_sn _ _ _ _ h2, y_sn _ _ _ _ (by omega), fm.1 x hx]
        have gar : ∀ x y, x ≤ 714 → ¬ (702 ≤ x ∧ x ≤ 705 ∧ 60 * N ≤ y) → ¬ (x = 701 ∧ y = N) → g_ar Y x y = g_ar Sm x y := fun x y hx h1 h2 => by
          rw [m2 x y h1, q_ar_ar, if_neg h2, q_ar_sc, q_ar_sc, q_ar_sc, fm.2 x y hx]
        have g4 : ∀ r i, r < N → i < 60 → g_ar Y 702 (60 * r + i) = g_ar Sm 702 (60 * r + i) ∧ g_ar Y 703 (60 * r + i) = g_ar Sm 703 (60 * r + i) ∧ g_ar Y 704 (60 * r + i) = g_ar Sm 704 (60 * r + i) ∧ g_ar Y 705 (60 * r + i) = g_ar Sm 705 (60 * r + i) := fun r i hr hi => ⟨gar 702 _ (by decide) (by omega) (by omega), gar 703 _ (by decide) (by omega) (by omega), gar 704 _ (by decide) (by omega) (by omega), gar 705 _ (by decide) (by omega) (by omega)⟩
        have one : ∀ {L r}, r < N → iv_one L r Sc Sm → iv_one L r (s_sc (s_ra (s_ps U 5 (N + 1) 1) 600 N (some (N + 1))) 601 (nI (N + 1))) Y := fun {L r} hr hL => iv_one_mono hL (gar 701 r (by decide) (by omega) (by omega)) (fun k => fps k r hr) (fun k i => fpa k r i hr) (fun i hi => g4 r i hr hi)
        have mac : ∀ i, i < a → g_ar Y 702 (60 * N + i) = g_ar Tm 739 i ∧ g_ar Y 703 (60 * N + i) = g_ar Tm 740 i ∧ g_ar Y 704 (60 * N + i) = g_ar Tm 741 i ∧ g_ar Y 705 (60 * N + i) = g_ar Tm 742 i := by
          intro i hi
          have z := m5 i (by omega) hi
          have e : ∀ x, 705 < x → g_ar (s_ar (s_sc (s_sc (s_sc Tm 737 0) 708 0) 700 (nI (N + 1))) 701 N (nI a)) x i = g_ar Tm x i := fun x hx => by rw [q_ar_ar, if_neg (by omega)]; rfl
          obtain ⟨n1, n2, n3⟩ := w_ok_n (hR.1 i hi).2.1
          simp only at n1 n2 n3
          rw [e 739 (by decide), e 740 (by decide), e 741 (by decide), e 742 (by decide), n1, n2, n3] at z
          exact z
        have hwh : iv_whole a N Y := fun i hi => by rw [(mac i hi).2.2.2]; exact q1 i hi
        refine ⟨⟨hN12, ?_, y_sc _ _ _, ?_, fun r hr => ?_, fun r hr => ?_, fun r hr => ?_⟩, ⟨fun x i hi => ?_, fun x y i hi => ?_⟩, ⟨0, by decide, ?_, ?_, fun i hi => absurd hi (by omega)⟩, fun i hi => ?_, ?_, ?_, ?_⟩
        · rw [m1, q_sc_ar, y_sc]
        · show g_np U = N + 1 + 1
          exact hUn
        · rw [q_ra_sc, q_ra_ra]
          by_cases e : r = N
          · subst e; rw [if_pos ⟨rfl, rfl⟩]
          · rw [if_neg (fun q => e q.2)]
            show g_ra U 600 r = some (r + 1)
            rw [o6]
            show g_ra V 600 r = some (r + 1)
            rw [vra, fc.2.2.2.2.2.2]
            exact h5 r (by omega)
        · rw [q_ra_sc, q_ra_ra, if_neg (by omega)]
          show g_ra U 600 r = none
          rw [o6]
          show g_ra V 600 r = none
          rw [vra, fc.2.2.2.2.2.2]
          exact h6 r (by omega)
        · by_cases e : r = N
          · subst e
            refine ⟨a, a60, ?_, ?_, fun i hi => ?_, Or.inl ⟨?_, hwh⟩⟩
            · rw [m2 701 r (by omega), q_ar_ar, if_pos ⟨rfl, rfl⟩]
            · rw [q_ps_sc, q_ps_ra, q_ps_ps, if_neg (by omega)]; exact hU4
            · obtain ⟨z1, z2, z3, z4⟩ := mac i hi
              obtain ⟨w1, w2, w3, w4⟩ := acts i hi
              rw [z1, z2, z3, z4]
              refine ⟨w1, w2, w3, w4, w_ok_act (hR.1 i hi).2.1 (q1 i hi) a60⟩
            · rw [q_ps_sc, q_ps_ra, q_ps_ps, if_pos ⟨rfl, rfl⟩]
          · obtain ⟨L, hL⟩ := h7 r (by omega)
            exact ⟨L, one (by omega) hL⟩
        · show i < g_np U
          have hi' : g_rf U x = some i := hi
          rw [o5] at hi'
          have hi2 : g_rf V x = some i := hi'
          rw [vrf] at hi2
          rw [hUn]
          rcases fc.2.2.2.2.2.1 x with e | ⟨-, e⟩
          · rw [e] at hi2
            have := k2.1 x i hi2
            omega
          · rw [e] at hi2
            have := Option.some.inj hi2
            omega
        · show i < g_np U
          rw [hUn]
          rw [q_ra_sc, q_ra_ra] at hi
          by_cases e : x = 600 ∧ y = N
          · rw [if_pos e] at hi
            have := Option.some.inj hi
            omega
          · rw [if_neg e] at hi
            have hi' : g_ra U x y = some i := hi
            rw [o6] at hi'
            have hi2 : g_ra V x y = some i := hi'
            rw [vra, fc.2.2.2.2.2.2] at hi2
            have := k2.2 x y i hi2
            omega
        · rw [y_sn _ _ _ _ (by decide), q_sc_ra, q_sc_ps, o1, q_sc_ps, vsc6]; rfl
        · rw [m1, q_sc_ar, y_sn _ _ _ _ (by decide), y_sc]; rfl
        · rw [far 609 i (by decide), gar 706 i (by decide) (by omega) (by omega)]; exact k4 i hi
        · obtain ⟨r1, r2, ⟨o, w1, w2, w3, w4⟩, r4⟩ := k5
          refine ⟨?_, ?_, ⟨o, w1, ?_, ?_, fun i hi => ?_⟩, fun i hi => ?_⟩
          · rw [fsc 300 (by decide) (by decide) (by decide), gsc 710 (by decide) (by decide) (by decide)]; exact r1
          · rw [fsc 301 (by decide) (by decide) (by decide), gsc 711 (by decide) (by decide) (by decide)]; exact r2
          · rw [fsc 302 (by decide) (by decide) (by decide)]; exact w2
          · rw [gsc 712 (by decide) (by decide) (by decide)]; exact w3
          · rw [far 303 i (by decide), gar 713 i (by decide) (by omega) (by omega)]; exact w4 i hi
          · rw [far 304 i (by decide), gar 714 i (by decide) (by omega) (by omega)]; exact r4 i hi
        · rw [fsc 608 (by decide) (by decide) (by decide), gsc 709 (by decide) (by decide) (by decide)]; exact k6
        · rcases k7 with k7 | ⟨r, L, z1, z2, z3, z4, z5⟩
          · exact Or.inl ((fsc 603 (by decide) (by decide) (by decide)).trans k7)
          · exact Or.inr ⟨r, L, by omega, (fsc 603 (by decide) (by decide) (by decide)).trans z2, one z1 z3, iv_whole_mono z3.1 z4 (fun i hi => (g4 r i z1 hi).2.2.2), iv_tree_mono z3.1 z5 (fun i hi => g4 r i z1 hi) (fun k h1 h2 => fsc k (by omega) (by omega) (by omega)) (fun k z h1 h2 => far k z (by omega))⟩
theorem l2_cl (n : Nat) (hn : 1000 ≤ n) : x_2_cl INV n := by
  intro Sc Sm h
  obtain ⟨N, hN⟩ := h
  obtain ⟨⟨h1, h2, h3, h4, h5, h6, h7⟩, k2, ⟨tl, t1, t2, t3, t4⟩, -⟩ := id hN
  refine ⟨⟨by omega, k2.1, k2.2⟩, fun v3 S2 hp => ?_⟩
  obtain ⟨Tc, Tm, p1, p2, p3⟩ := w_parse (n := n) hn t1 (by omega) t3 t4
  rw [t2, p1] at hp
  have fin : ∀ {X : x_S} {w : Int32}, frw Sc X → x_cl (s_ps X 4 0 w) := by
    intro X w f
    refine ⟨?_, fun k i hi => ?_, fun k j i hi => ?_⟩
    · show 0 < g_np X
      rw [f.2.2.1]; omega
    · show i < g_np X
      have hi' : g_rf X k = some i := hi
      rw [f.2.2.1]
      rcases f.2.2.2.2.2.1 k with e | ⟨-, e⟩
      · rw [e] at hi'; exact k2.1 k i hi'
      · rw [e] at hi'
        have := Option.some.inj hi'
        omega
    · show i < g_np X
      have hi' : g_ra X k j = some i := hi
      rw [f.2.2.2.2.2.2] at hi'
      rw [f.2.2.1]
      exact k2.2 k j i hi'
  rcases w_out (n := n) p3 hn with ⟨c, p, Uc, Um, q1, q2, q3, q4, ⟨X, w, rfl, q5⟩, q6⟩ | ⟨pl, a, sk, be, Uc, a60, hW, q1, q2, rfl, q3⟩
  · rw [q2] at hp
    obtain ⟨-, rfl⟩ := Prod.mk.inj (Option.some.inj hp)
    exact fin q5
  · rw [q2] at hp
    obtain ⟨-, rfl⟩ := Prod.mk.inj (Option.some.inj hp)
    exact fin hW.1.1
