/-! READING: all of it, in both -/
section
variable {S0 S1 : x_S} {ri r L m m2 : Nat}
theorem e_60 {r : Nat} (hr : r < 12) : (60 : Int32) * nI r = nI (60 * r) := by
  have e := k_at (r := r) (i := 0) hr (by decide)
  rw [show nI 0 = (0 : Int32) from rfl, Int32.add_zero] at e
  exact e
theorem t_all (hA : r_A S0 S1 ri r L) (hm : 1000 ≤ m) (hm2 : 1000 ≤ m2) : ∀ (w t k n d wc : Nat) (kk en ow fm hi dp : Nat → Nat) (D : Nat) (T : List tx_T) (Sc Sm : x_S), 181 ≤ t + w → r_X S0 S1 ri L n d wc kk en ow fm hi dp D T Sc Sm → (0 < d → k = kk (d - 1)) → t + d + r_un (fun i => g_ar Sc 400 i) ow (fun c => g_ar Sc 107 c) d ≤ 1 + 3 * n → ∀ q q2, w < q → w < q2 → ∃ n' wc' kk' en' ow' fm' hi' dp' D' T' Tc Tm, x_loop (fun rec z => f_X1_readWhole_33 m rec z.1 z.2.1 z.2.2) q (Sc, nI k, nI t) = some Tc ∧ x_loop (fun rec z => f_X7_read_25 m2 rec z.1 z.2) q2 (Sm, nI r) = some Tm ∧ r_X S0 S1 ri L n' 0 wc' kk' en' ow' fm' hi' dp' D' T' Tc Tm := by
  intro w
  induction w with
  | zero =>
    intro t k n d wc kk en ow fm hi dp D T Sc Sm ht h hk hb q q2 hq hq2
    obtain ⟨q, rfl⟩ : ∃ z, q = z + 1 := ⟨q - 1, by omega⟩
    obtain ⟨q2, rfl⟩ : ∃ z, q2 = z + 1 := ⟨q2 - 1, by omega⟩
    have y := h.2.2.2.2.2.2.2.2.2.2.2.2
    have d0 : d = 0 := by omega
    subst d0
    rw [x_loop_s, x_loop_s]
    generalize x_loop (fun rec z => f_X1_readWhole_33 m rec z.1 z.2.1 z.2.2) q = R
    generalize x_loop (fun rec z => f_X7_read_25 m2 rec z.1 z.2) q2 = R2
    refine ⟨n, wc, kk, en, ow, fm, hi, dp, D, T, Sc, Sm, ?_, ?_, h⟩
    · show f_X1_readWhole_33 m R Sc (nI k) (nI t) = _
      unfold f_X1_readWhole_33
      rw [x_l_e, h.1.2.2.2.1, if_pos (show nI 0 ≤ (0 : Int32) by decide)]
      split <;> rfl
    · show f_X7_read_25 m2 R2 Sm (nI r) = _
      have e : g_sc Sm 724 = nI 0 := h.2.1.2.2
      unfold f_X7_read_25
      rw [x_l_e, e, if_pos (show nI 0 ≤ (0 : Int32) by decide)]
  | succ w ih =>
    intro t k n d wc kk en ow fm hi dp D T Sc Sm ht h hk hb q q2 hq hq2
    obtain ⟨q, rfl⟩ : ∃ z, q = z + 1 := ⟨q - 1, by omega⟩
    obtain ⟨q2, rfl⟩ : ∃ z, q2 = z + 1 := ⟨q2 - 1, by omega⟩
    have y := h.2.2.2.2.2.2.2.2.2.2.2.2
    have iw : ∀ k' Tc Tm, r_N S0 S1 ri L n d (r_un (fun i => g_ar Sc 400 i) ow (fun c => g_ar Sc 107 c) d) k' Tc Tm → ∃ n' wc' kk' en' ow' fm' hi' dp' D' T' Uc Um, x_loop (fun rec z => f_X1_readWhole_33 m rec z.1 z.2.1 z.2.2) q (Tc, nI k', nI (t + 1)) = some Uc ∧ x_loop (fun rec z => f_X7_read_25 m2 rec z.1 z.2) q2 (Tm, nI r) = some Um ∧ r_X S0 S1 ri L n' 0 wc' kk' en' ow' fm' hi' dp' D' T' Uc Um := by
      rintro k' Tc Tm ⟨n1, d1, wc1, kk1, en1, ow1, fm1, hi1, dp1, D1, T1, z1, z2, z3⟩
      exact ih (t + 1) k' n1 d1 wc1 kk1 en1 ow1 fm1 hi1 dp1 D1 T1 Tc Tm (by omega) z1 z2 (by omega) q q2 (by omega) (by omega)
    rw [x_loop_s, x_loop_s]
    generalize x_loop (fun rec z => f_X1_readWhole_33 m rec z.1 z.2.1 z.2.2) q = R at iw
    generalize x_loop (fun rec z => f_X7_read_25 m2 rec z.1 z.2) q2 = R2 at iw
    show ∃ n' wc' kk' en' ow' fm' hi' dp' D' T' Tc Tm, f_X1_readWhole_33 m R Sc (nI k) (nI t) = some Tc ∧ f_X7_read_25 m2 R2 Sm (nI r) = some Tm ∧ _
    by_cases d0 : d = 0
    · subst d0
      refine ⟨n, wc, kk, en, ow, fm, hi, dp, D, T, Sc, Sm, ?_, ?_, h⟩
      · unfold f_X1_readWhole_33
        rw [x_l_e, h.1.2.2.2.1, if_pos (show nI 0 ≤ (0 : Int32) by decide)]
        split <;> rfl
      · have e : g_sc Sm 724 = nI 0 := h.2.1.2.2
        unfold f_X7_read_25
        rw [x_l_e, e, if_pos (show nI 0 ≤ (0 : Int32) by decide)]
    · have hd : 0 < d := by omega
      have hkk := hk hd
      subst hkk
      obtain ⟨p, hp⟩ : ∃ p, p = d - 1 + r_un (fun i => g_ar Sc 400 i) ow (fun c => g_ar Sc 107 c) d := ⟨_, rfl⟩
      obtain ⟨m1, m2', m3, m4, m5, m6, m7⟩ := h.topm hd p hp
      have hke := h.2.2.2.2.1.1 (d - 1) (by omega)
      have un2 := r_un_le2 (fun i => g_ar Sc 400 i) ow (fun c => g_ar Sc 107 c) d
      have he := h.2.2.2.2.1.e0 (show d - 1 < d by omega)
      have yy := y.1 hd
      have d2 : d - 1 < 2 ^ 31 := by omega
      have p2 : p < 2 ^ 31 := by omega
      have cd := k_in (i := d - 1) (L := 61) (by omega) (by decide)
      have cp := k_in (i := p) (L := 200) (by omega) (by decide)
      have ed : nI d - 1 = nI (d - 1) := by have := nI_pred (d - 1); rw [show d - 1 + 1 = d by omega] at this; exact this
      have e103 : g_ar Sc 103 (d - 1) = nI (en (d - 1)) := (h.2.2.2.1 (d - 1) (by omega)).1
      have c1 : ¬ (181 : Int32) ≤ nI t := nI_ge (b := 181) (by omega) (by decide)
      have c2 : ¬ nI d ≤ (0 : Int32) := nI_ge (a := 0) hd (by omega)
      have c3 : ¬ nI (p + 1) ≤ (0 : Int32) := nI_ge (a := 0) (by omega) (by omega)
      unfold f_X1_readWhole_33 f_X7_read_25 f_X1_readWhole_75 f_X7_read_81
      rw [if_neg c1, x_l_e, h.1.2.2.2.1, if_neg c2, x_l_e, ed, x_gt cd, nI_clamp d2, x_l_e, e103]
      rw [x_l_e, m1, if_neg c3, x_l_e, nI_pred, x_gt cp, nI_clamp p2, x_l_e, m2', x_l_e, nI_pred, x_gt cp, nI_clamp p2, x_l_e, m3]
      by_cases e : kk (d - 1) = en (d - 1)
      · have c4 : nI (en (d - 1)) ≤ nI (kk (d - 1)) := by rw [e]; exact Int32.le_refl _
        obtain ⟨k', Tc, z1, z2⟩ := t_close (m := m) h hd e hp
        rw [if_pos c4, if_pos c4, z1, x_b2_s, nI_1, x_l_e, nI_pred, x_l_e]
        exact iw k' Tc _ z2
      · have c4 : ¬ nI (en (d - 1)) ≤ nI (kk (d - 1)) := nI_ge (by omega) (by omega)
        obtain ⟨k', Tc, Tm, z1, z2, z3⟩ := t_stmt (m := m) (m2 := m2) h hA hd (by omega) hm hm2
        rw [if_neg c4, if_neg c4, z1, x_b2_s, nI_1, e_60 hA.1, z2, x_b_s]
        exact iw k' Tc Tm z3
/-- the start -/
theorem r_X.start {Sc Sm : x_S} (kb : k_b S0 ri 0 1 1 Sc) (jb : j_b S1 0 1 Sm) (hL : L ≤ 60) (c6 : g_ar Sc 106 0 = -1) (c7 : g_ar Sc 107 0 = -1) (c3 : g_ar Sc 103 0 = nI L) (c4 : g_ar Sc 104 0 = -1) (c5 : g_ar Sc 105 0 = -1) (c8 : g_ar Sc 108 0 = nI 0) (w0 : g_ar Sc 407 0 = 0) (s410 : g_sc Sc 410 = 0) (s411 : g_sc Sc 411 = nI 1) (m5 : g_ar Sm 725 0 = nI 0) (m6 : g_ar Sm 726 0 = nI L) (m7 : g_ar Sm 727 0 = -1) (m8 : g_ar Sm 728 0 = -1) (m9 : g_ar Sm 729 0 = -1) (m10 : g_ar Sm 730 0 = -1) : r_X S0 S1 ri L 0 1 1 (fun _ => 0) (fun _ => L) (fun _ => 0) (fun _ => 0) (fun _ => 0) (fun _ => 0) 1 [(1, -1, -1)] Sc Sm := by
  have wt0 : ¬ r_wt (fun i => g_ar Sc 400 i) (fun _ => 0) (fun c => g_ar Sc 107 c) 0 := fun q => by
    have z : g_ar Sc 107 0 = 0 := q.2
    rw [c7] at z
    exact absurd z (by decide)
  have u1 : r_un (fun i => g_ar Sc 400 i) (fun _ => 0) (fun c => g_ar Sc 107 c) 1 = 0 := by
    show 0 + (if r_wt (fun i => g_ar Sc 400 i) (fun _ => 0) (fun c => g_ar Sc 107 c) 0 then 1 else 0) = 0
    rw [if_neg wt0]
  have z1 : r_sz (fun i => g_ar Sc 400 i) (fun _ => 0) (fun c => g_ar Sc 107 c) (fun _ => 0) (fun _ => L) 1 = L := by
    show 0 + (L - 0) + (if r_wt (fun i => g_ar Sc 400 i) (fun _ => 0) (fun c => g_ar Sc 107 c) 0 then 0 - L - 1 else 0) = L
    rw [if_neg wt0]; omega
  unfold r_X
  rw [u1, z1]
  refine ⟨kb, jb, fun s hs => absurd hs (Nat.not_lt_zero _), ?_, ?_, ?_, ?_, ⟨?_, s411⟩, ?_, ?_, ⟨?_, rfl, ?_⟩, ?_, ⟨fun _ => Nat.le_refl _, by omega, by omega, by omega, hL⟩⟩
  · intro c hc
    have : c = 0 := by omega
    subst this
    (try simp only)
    rw [show 0 + r_un (fun i => g_ar Sc 400 i) (fun _ => 0) (fun c => g_ar Sc 107 c) (0 + 1) = 0 from (Nat.zero_add _).trans u1]
    exact ⟨c3, m5, m6, m7.trans c4.symm, m8.trans c5.symm, m9.trans c6.symm, m10.trans c7.symm, fun q => absurd q wt0⟩
  · exact ⟨fun c _ => Nat.zero_le _, fun c hc => absurd hc (by omega)⟩
  · exact ⟨fun _ => ⟨c6, c7⟩, fun c h1 h2 => absurd h2 (by omega)⟩
  · exact ⟨fun c h1 h2 => absurd h2 (by omega), fun c c' h1 h2 h3 => absurd h3 (by omega), fun s hs => absurd hs (by omega), fun s hs => absurd hs (by omega), fun s hs => absurd hs (by omega)⟩
  · exact ⟨fun s hs => absurd hs (by omega), fun c h1 h2 => absurd h2 (by omega), fun s hs => absurd hs (by omega), Nat.le_refl _, Nat.le_refl _, Or.inl rfl⟩
  · exact s410
  · intro i hi
    exact Or.inl ⟨Or.inl ⟨0, by omega, Nat.zero_le _, hi⟩, fun s hs => absurd hs (by omega)⟩
  · have : tx_pend (fun i => g_ar Sc 403 i) (fun i => g_ar Sc 404 i) 0 1 (fun c => g_ar Sc 106 c) (fun c => g_ar Sc 107 c) = [] := by
      unfold tx_pend
      rw [if_neg]
      rintro ⟨-, q, -⟩
      have z : g_ar Sc 107 0 = 1 := q
      rw [c7] at z
      exact absurd z (by decide)
    rw [this]
    rfl
  · refine ⟨fun i t ht => ?_, fun c hc => ?_⟩
    · cases i with
      | zero =>
        have := Option.some.inj ht
        subst this
        show g_ar Sc 407 0 = _
        rw [w0]
        rfl
      | succ i => exact absurd ht (by simp)
    · have : c = 0 := by omega
      subst this
      refine ⟨0, Nat.zero_lt_one, c8, ?_, fun j hj => ?_⟩
      · (try simp only)
        rw [c6, c7]
        rfl
      · cases j with
        | zero => rfl
        | succ j => exact absurd hj (by simp)
  · refine ⟨⟨fun c hc => absurd hc (by omega), fun _ q => ?_, fun c hc q => ?_⟩, fun e he => absurd he (by omega), fun x hx => absurd hx (by omega), fun x hx => absurd hx (by omega), fun x hx => absurd hx (by omega)⟩
    · have z : g_ar Sc 107 0 = 1 := q
      rw [c7] at z
      exact absurd z (by decide)
    · have : c = 0 := by omega
      subst this
      exact absurd q wt0
theorem t_read (hA : r_A S0 S1 ri r L) (hri : ri < g_np S0) (hL : g_ps S0 4 ri = nI L) (hL2 : g_ar S1 701 r = nI L) (hm : 1000 ≤ m) (hm2 : 1000 ≤ m2) : ∃ n wc kk en ow fm hi dp D T Tc Tm, f_X1_readWhole m S0 ri = some Tc ∧ f_X7_read m2 S1 (nI r) = some Tm ∧ r_X S0 S1 ri L n 0 wc kk en ow fm hi dp D T Tc Tm := by
  have hr := hA.1
  have r2 : r < 2 ^ 31 := by omega
  have cr := k_in (i := r) (L := 12) hr (by decide)
  have kb0 : k_b S0 ri 0 0 0 (s_sc (s_sc (s_sc (s_sc (s_sc (s_rf S0 101 (some ri)) 408 0) 409 0) 410 0) 411 0) 102 0) := by
    refine ⟨?_, ?_, hri, y_sc _ _ _, ?_, ?_⟩
    · have f0 : fk S0 (s_rf S0 101 (some ri)) := ⟨fun _ _ => rfl, fun _ _ _ => rfl, rfl, fun _ _ => rfl, fun _ _ _ => rfl, fun x hx => by rw [q_rf_rf, if_neg hx], fun _ _ => rfl⟩
      exact ((((f0.tr (fk_sc _ 408 _ (by omega))).tr (fk_sc _ 409 _ (by omega))).tr (fk_sc _ 410 _ (by omega))).tr (fk_sc _ 411 _ (by omega))).tr (fk_sc _ 102 _ (by omega))
    · show g_rf (s_rf S0 101 (some ri)) 101 = _
      rw [q_rf_rf, if_pos rfl]
    · rw [y_sn _ _ _ _ (by decide), y_sn _ _ _ _ (by decide), y_sn _ _ _ _ (by decide), y_sn _ _ _ _ (by decide), y_sc]; rfl
    · rw [y_sn _ _ _ _ (by decide), y_sn _ _ _ _ (by decide), y_sn _ _ _ _ (by decide), y_sc]; rfl
  have op := k_open (m := m) kb0 (by decide) (by decide) (-1) (-1) (nI L) (-1) (-1)
  obtain ⟨p6, p7, p3, p4, p5, p8⟩ := op_at (S := s_sc (s_sc (s_sc (s_sc (s_sc (s_rf S0 101 (some ri)) 408 0) 409 0) 410 0) 411 0) 102 0) (d := 0) (wc := 0) (-1) (-1) (nI L) (-1) (-1)
  have jb0 : j_b S1 0 0 (s_sc (s_sc S1 715 0) 724 0) := ⟨(fr_m_sc S1 715 _ (by decide)).tr (fr_m_sc _ 724 _ (by decide)), (y_sn _ _ _ _ (by decide)).trans (y_sc _ _ _), y_sc _ _ _⟩
  have rg := j_range (m := m2) jb0 (by decide) (nI 0) (nI L) (-1) (-1) (-1) (-1)
  obtain ⟨g5, g6, g7, g8, g9, g10⟩ := rg_at (S := s_sc (s_sc S1 715 0) 724 0) (p := 0) (nI 0) (nI L) (-1) (-1) (-1) (-1)
  have X := r_X.start (L := L) op.2 rg.2 hA.2.1 p6 p7 p3 p4 p5 p8 (op_w0 _ _ _ _ _) (by rw [op_sc _ _ _ _ _ 410 (by decide), y_sn _ _ _ _ (by decide), y_sn _ _ _ _ (by decide), y_sc]) (by rw [op_411, y_sn _ _ _ _ (by decide), y_sc]; rfl) g5 g6 g7 g8 g9 g10
  have u1 : r_un (fun i => g_ar (k_op (s_sc (s_sc (s_sc (s_sc (s_sc (s_rf S0 101 (some ri)) 408 0) 409 0) 410 0) 411 0) 102 0) 0 0 (-1) (-1) (nI L) (-1) (-1)) 400 i) (fun _ => 0) (fun c => g_ar (k_op (s_sc (s_sc (s_sc (s_sc (s_sc (s_rf S0 101 (some ri)) 408 0) 409 0) 410 0) 411 0) 102 0) 0 0 (-1) (-1) (nI L) (-1) (-1)) 107 c) 1 = 0 := by
    have e := X.2.1.2.2
    rw [rg.2.2.2] at e
    have ule := r_un_le2 (fun i => g_ar (k_op (s_sc (s_sc (s_sc (s_sc (s_sc (s_rf S0 101 (some ri)) 408 0) 409 0) 410 0) 411 0) 102 0) 0 0 (-1) (-1) (nI L) (-1) (-1)) 400 i) (fun _ => 0) (fun c => g_ar (k_op (s_sc (s_sc (s_sc (s_sc (s_sc (s_rf S0 101 (some ri)) 408 0) 409 0) 410 0) 411 0) 102 0) 0 0 (-1) (-1) (nI L) (-1) (-1)) 107 c) 1
    have := (nI_eq (by decide) (by omega)).mp e
    omega
  obtain ⟨n', wc', kk', en', ow', fm', hi', dp', D', T', Tc, Tm, z1, z2, z3⟩ := t_all hA hm hm2 181 0 0 0 1 1 _ _ _ _ _ _ _ _ _ _ (by omega) X (fun _ => rfl) (by rw [u1]; omega) m m2 (by omega) (by omega)
  refine ⟨n', wc', kk', en', ow', fm', hi', dp', D', T', Tc, Tm, ?_, ?_, z3⟩
  · unfold f_X1_readWhole f_X4_empty
    rw [x_l_e, x_l_e, x_l_e, x_l_e, x_l_e, x_b_s, x_l_e, x_gt kb0.2.2.1, x_l_e]
    have e : g_ps (s_sc (s_sc (s_sc (s_sc (s_sc (s_rf S0 101 (some ri)) 408 0) 409 0) 410 0) 411 0) 102 0) 4 ri = nI L := hL
    rw [e, op.1, x_b_s]
    exact z1
  · unfold f_X7_read
    have e : g_ar (s_sc (s_sc S1 715 0) 724 0) 701 r = nI L := hL2
    rw [x_l_e, x_l_e, x_gt cr, nI_clamp r2, x_l_e, e]
    have rg1 := rg.1
    rw [show nI 0 = (0 : Int32) from rfl] at rg1
    rw [rg1, x_b_s]
    exact z2
end
