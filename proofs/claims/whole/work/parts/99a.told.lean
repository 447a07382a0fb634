/-! told -/
theorem i_sub1 {x y : Int32} : x - 1 = y ↔ x = y + 1 := by
  constructor
  · intro h; rw [← h, Int32.sub_add_cancel]
  · intro h; rw [h, Int32.add_sub_cancel]
theorem i_35 {w : Int32} (h0 : 0 ≤ w) : (¬ (w = 3 ∨ w = 5)) ↔ (w = 0 ∨ 5 < w ∨ w = 1 ∨ w = 2 ∨ w = 4) := by
  rw [Int32.le_iff_toInt_le] at h0
  simp only [Int32.lt_iff_toInt_lt, ← Int32.toInt_inj]
  simp only [show (0 : Int32).toInt = 0 from rfl, show (1 : Int32).toInt = 1 from rfl, show (2 : Int32).toInt = 2 from rfl, show (3 : Int32).toInt = 3 from rfl, show (4 : Int32).toInt = 4 from rfl, show (5 : Int32).toInt = 5 from rfl] at *
  omega
theorem i_lp {w : Int32} : (3 ≤ w ∧ w ≤ 5) ↔ w_lp w := by
  unfold w_lp
  simp only [Int32.le_iff_toInt_le, ← Int32.toInt_inj]
  simp only [show (3 : Int32).toInt = 3 from rfl, show (4 : Int32).toInt = 4 from rfl, show (5 : Int32).toInt = 5 from rfl]
  omega
theorem td_step {m N i s : Nat} {S : x_S} {t0 t1 t2 : Nat → Int32} (h715 : g_sc S 715 = nI N) (hs : s < N) (hN : N ≤ 60) (e6 : g_ar S 716 s = t0 s) (e7 : g_ar S 717 s = t1 s) (e8 : g_ar S 718 s = t2 s) (h0 : 0 ≤ t0 s) (R : x_S × Int32 × Int32 × Int32 → Option (Int32 × x_S)) (v : Int32) : (r_M t0 t1 t2 (fun x => g_ar S 723 x) s i → f_X7_told_147 m R S (nI i) v (nI s) = R (S, nI i, nI s, nI (s + 1))) ∧ (¬ r_M t0 t1 t2 (fun x => g_ar S 723 x) s i → f_X7_told_147 m R S (nI i) v (nI s) = R (S, nI i, v, nI (s + 1))) := by
  have s2 : s < 2 ^ 31 := by omega
  have cs := k_in (i := s) (L := 200) (by omega) (by decide)
  have e259 : f_X7_told_259 m R S (nI i) v (nI s) = R (S, nI i, nI s, nI (s + 1)) := by
    unfold f_X7_told_259 f_X7_told_264 f_X7_told_278
    rw [if_neg i_1n, nI_1]
  have e263 : f_X7_told_263 m R S (nI i) v (nI s) = R (S, nI i, v, nI (s + 1)) := by
    unfold f_X7_told_263 f_X7_told_264 f_X7_told_278
    rw [if_pos rfl, nI_1]
  have e240 : ∀ w, f_X7_told_240 m R S (nI i) v (nI s) w = if w = 2 ∧ g_ar S 723 s = nI (i + 1) then R (S, nI i, nI s, nI (s + 1)) else R (S, nI i, v, nI (s + 1)) := by
    intro w
    unfold f_X7_told_240
    rw [x_gt cs, nI_clamp s2, x_l_e, e259, e263]
    by_cases q : w = 2
    · rw [if_pos q]
      by_cases q3 : g_ar S 723 s = nI (i + 1)
      · rw [if_pos (i_sub1.mpr (by rw [q3, nI_1])), if_pos ⟨q, q3⟩]
      · rw [if_neg (fun z => q3 (by rw [i_sub1.mp z, nI_1])), if_neg (fun z => q3 z.2)]
    · rw [if_neg q, if_neg (fun z => q z.1)]
  have e217 : ∀ w, f_X7_told_217 m R S (nI i) v (nI s) w = if ((3 ≤ w ∧ w ≤ 5) ∧ t2 s = nI (i + 1)) ∨ (w = 2 ∧ g_ar S 723 s = nI (i + 1)) then R (S, nI i, nI s, nI (s + 1)) else R (S, nI i, v, nI (s + 1)) := by
    intro w
    unfold f_X7_told_217
    rw [e_in, x_b_s, x_gt cs, nI_clamp s2, x_l_e, e259, e240, e8]
    by_cases q : (3 ≤ w ∧ w ≤ 5)
    · rw [if_pos (q), if_neg i_1n]
      by_cases q3 : t2 s = nI (i + 1)
      · rw [if_pos (i_sub1.mpr (by rw [q3, nI_1])), if_pos (Or.inl ⟨q, q3⟩)]
      · rw [if_neg (fun z => q3 (by rw [i_sub1.mp z, nI_1]))]
        by_cases q4 : w = 2 ∧ g_ar S 723 s = nI (i + 1)
        · rw [if_pos q4, if_pos (Or.inr q4)]
        · rw [if_neg q4, if_neg (fun z => z.elim (fun z => q3 z.2) q4)]
    · rw [if_neg q, if_pos rfl]
      by_cases q4 : w = 2 ∧ g_ar S 723 s = nI (i + 1)
      · rw [if_pos q4, if_pos (Or.inr q4)]
      · rw [if_neg q4, if_neg (fun z => z.elim (fun z => q z.1) q4)]
  have e199 : ∀ w, f_X7_told_199 m R S (nI i) v (nI s) w 1 = if t1 s = nI i ∨ ((3 ≤ w ∧ w ≤ 5) ∧ t2 s = nI (i + 1)) ∨ (w = 2 ∧ g_ar S 723 s = nI (i + 1)) then R (S, nI i, nI s, nI (s + 1)) else R (S, nI i, v, nI (s + 1)) := by
    intro w
    unfold f_X7_told_199
    rw [if_neg i_1n, x_gt cs, nI_clamp s2, x_l_e, e259, e217, e7]
    by_cases q : t1 s = nI i
    · rw [if_pos q, if_pos (Or.inl q)]
    · rw [if_neg q]
      by_cases q4 : ((3 ≤ w ∧ w ≤ 5) ∧ t2 s = nI (i + 1)) ∨ (w = 2 ∧ g_ar S 723 s = nI (i + 1))
      · rw [if_pos q4, if_pos (Or.inr q4)]
      · rw [if_neg q4, if_neg (fun z => z.elim q q4)]
  have e0 : ∀ w, f_X7_told_199 m R S (nI i) v (nI s) w 0 = if ((3 ≤ w ∧ w ≤ 5) ∧ t2 s = nI (i + 1)) ∨ (w = 2 ∧ g_ar S 723 s = nI (i + 1)) then R (S, nI i, nI s, nI (s + 1)) else R (S, nI i, v, nI (s + 1)) := by
    intro w
    unfold f_X7_told_199
    rw [if_pos rfl, e217]
  have main : f_X7_told_147 m R S (nI i) v (nI s) = if ¬ (t0 s = 3 ∨ t0 s = 5) then f_X7_told_199 m R S (nI i) v (nI s) (t0 s) 1 else f_X7_told_199 m R S (nI i) v (nI s) (t0 s) 0 := by
    unfold f_X7_told_147 f_X7_told_194
    rw [x_l_e, h715, if_neg (nI_ge hs (by omega)), x_gt cs, nI_clamp s2, x_l_e, e6]
    by_cases q : ¬ (t0 s = 3 ∨ t0 s = 5)
    · rw [if_pos q]
      rcases (i_35 h0).mp q with z | z | z | z | z
      · rw [if_pos z]
      · rw [if_pos z]; split <;> rfl
      · rw [if_pos z]; split; rfl; split <;> rfl
      · rw [if_pos z]; split; rfl; split; rfl; split <;> rfl
      · rw [if_pos z]; split; rfl; split; rfl; split; rfl; split <;> rfl
    · rw [if_neg q]
      have q2 := fun z => q ((i_35 h0).mpr z)
      rw [if_neg (fun z => q2 (Or.inl z)), if_neg (fun z => q2 (Or.inr (Or.inl z))), if_neg (fun z => q2 (Or.inr (Or.inr (Or.inl z)))), if_neg (fun z => q2 (Or.inr (Or.inr (Or.inr (Or.inl z))))), if_neg (fun z => q2 (Or.inr (Or.inr (Or.inr (Or.inr z)))))]
  rw [main]
  by_cases q : ¬ (t0 s = 3 ∨ t0 s = 5)
  · rw [if_pos q, e199]
    refine ⟨fun z => ?_, fun z => ?_⟩
    · rw [if_pos]
      rcases z with z | z | z
      · exact Or.inl z.2
      · exact Or.inr (Or.inl ⟨i_lp.mpr z.1, z.2⟩)
      · exact Or.inr (Or.inr z)
    · rw [if_neg]
      rintro (y | y | y)
      · exact z (Or.inl ⟨q, y⟩)
      · exact z (Or.inr (Or.inl ⟨i_lp.mp y.1, y.2⟩))
      · exact z (Or.inr (Or.inr y))
  · rw [if_neg q, e0]
    refine ⟨fun z => ?_, fun z => ?_⟩
    · rw [if_pos]
      rcases z with z | z | z
      · exact absurd z.1 q
      · exact Or.inl ⟨i_lp.mpr z.1, z.2⟩
      · exact Or.inr z
    · rw [if_neg]
      rintro (y | y)
      · exact z (Or.inr (Or.inl ⟨i_lp.mp y.1, y.2⟩))
      · exact z (Or.inr (Or.inr y))
theorem td_loop {m N i w : Nat} {S : x_S} {t0 t1 t2 : Nat → Int32} (h715 : g_sc S 715 = nI N) (hN : N ≤ 60) (hw : w < N) (hW : ∀ s, s < N → (r_M t0 t1 t2 (fun x => g_ar S 723 x) s i ↔ s = w)) (h3 : ∀ s, s < N → g_ar S 716 s = t0 s ∧ g_ar S 717 s = t1 s ∧ g_ar S 718 s = t2 s ∧ 0 ≤ t0 s) : ∀ (d s q : Nat) (v : Int32), s ≤ N → N - s = d → d < q → x_loop (fun rec z => f_X7_told_147 m rec z.1 z.2.1 z.2.2.1 z.2.2.2) q (S, nI i, v, nI s) = some (if s ≤ w then nI w else v, S) := by
  intro d
  induction d with
  | zero =>
    intro s q v hs hd hq
    obtain ⟨q, rfl⟩ : ∃ z, q = z + 1 := ⟨q - 1, by omega⟩
    rw [x_loop_s]
    generalize x_loop (fun rec z => f_X7_told_147 m rec z.1 z.2.1 z.2.2.1 z.2.2.2) q = R
    show f_X7_told_147 m R S (nI i) v (nI s) = _
    unfold f_X7_told_147
    rw [x_l_e, h715, if_pos (nI_le (by omega) (by omega)), if_neg (by omega)]
  | succ d ih =>
    intro s q v hs hd hq
    obtain ⟨q, rfl⟩ : ∃ z, q = z + 1 := ⟨q - 1, by omega⟩
    rw [x_loop_s]
    have ih' := fun v => ih (s + 1) q v (by omega) (by omega) (by omega)
    generalize x_loop (fun rec z => f_X7_told_147 m rec z.1 z.2.1 z.2.2.1 z.2.2.2) q = R at ih'
    show f_X7_told_147 m R S (nI i) v (nI s) = _
    obtain ⟨e6, e7, e8, e0⟩ := h3 s (by omega)
    obtain ⟨st1, st2⟩ := td_step (m := m) (i := i) h715 (by omega) hN e6 e7 e8 e0 R v
    by_cases e : s = w
    · rw [st1 ((hW s (by omega)).mpr e), ih', if_neg (by omega), if_pos (by omega), e]
    · rw [st2 (fun z => e ((hW s (by omega)).mp z)), ih']
      by_cases e2 : s ≤ w
      · rw [if_pos (by omega), if_pos e2]
      · rw [if_neg (by omega), if_neg e2]
theorem e_hs_no (n : Nat) {L ri : Nat} {S : x_S} {b : Int32} (hri : ri < g_np S) (hL : g_ps S 4 ri = nI L) (hb : b < 0 ∨ nI L ≤ b) : f_X2_has n S ri b = some (0, S) := by
  unfold f_X2_has
  by_cases c1 : b < 0
  · rw [if_pos c1, z_g0]
  · rw [if_neg c1, x_gt hri, x_l_e, hL, if_pos (hb.resolve_left c1), z_g0]
theorem e_hs (n : Nat) {L ri i : Nat} {S : x_S} (hri : ri < g_np S) (hL : g_ps S 4 ri = nI L) (hL2 : L ≤ 60) (hi : i < L) : f_X2_has n S ri (nI i) = some (1, S) := by
  unfold f_X2_has
  rw [if_neg (nI_pos (by omega)), x_gt hri, x_l_e, hL, if_neg (nI_ge hi (by omega)), z_g1]
theorem i_lit6 {c : Int32} {q : Nat} (hq : q < 6) (hc : c = nI q) : c = 0 ∨ c = 1 ∨ c = 2 ∨ c = 3 ∨ c = 4 ∨ c = 5 := by
  have : q = 0 ∨ q = 1 ∨ q = 2 ∨ q = 3 ∨ q = 4 ∨ q = 5 := by omega
  rcases this with z | z | z | z | z | z <;> subst z
  · exact Or.inl hc
  · exact Or.inr (Or.inl hc)
  · exact Or.inr (Or.inr (Or.inl hc))
  · exact Or.inr (Or.inr (Or.inr (Or.inl hc)))
  · exact Or.inr (Or.inr (Or.inr (Or.inr (Or.inl hc))))
  · exact Or.inr (Or.inr (Or.inr (Or.inr (Or.inr hc))))
theorem i_out {c : Int32} {N : Nat} (hN : N < 2 ^ 31) (h : c < 0 ∨ nI N ≤ c) {q : Nat} (hq : q < N) : ¬ c = nI q := by
  rintro rfl
  rcases h with h | h
  · exact nI_pos (by omega) h
  · exact nI_ge hq (by omega) h
/-- COME TO, in both -/
theorem e_cm (n : Nat) (hn : 1000 ≤ n) {N r L : Nat} {Sc Sm Sm0 : x_S} (h : iv_N N Sc Sm) (hr : r < N) (h1 : iv_one L r Sc Sm) (hw : iv_whole L r Sm) (f0 : fr_m Sm Sm0) : ∃ Sc1 Sm1, f_X0_explore n Sc (r + 1) = some Sc1 ∧ f_X7_come n Sm0 (nI r) = some Sm1 ∧ fr_c Sc Sc1 ∧ fr_m Sm Sm1 ∧ g_sc Sc1 3 = nI (cm_cnt (fun i => g_ar Sc1 0 i) L) ∧ ∀ j, j < L → (g_ar Sc1 0 j = 1 ∧ g_ar Sm1 733 j = 1) ∨ (g_ar Sc1 0 j = 0 ∧ g_ar Sm1 733 j = 0) := by
  have hN := h.1.1
  have hnp := h.1.2.2.2.1
  have hC : ∀ i, i < L → ∃ c, c < 61 ∧ g_pa Sc 3 (r + 1) i = nI c := by
    intro i hi
    obtain ⟨-, -, -, a4, ok⟩ := h1.2.2.2.1 i hi
    rw [a4]
    by_cases q : g_ar Sm 702 (60 * r + i) = 2 ∨ g_ar Sm 702 (60 * r + i) = 3
    · obtain ⟨t, t1, t2⟩ := iv_jump h1 hw hi q
      have := h1.1
      exact ⟨t, by omega, t2⟩
    · refine ⟨0, by omega, ?_⟩
      rcases ok with ⟨a, b, c⟩ | ⟨a, b, c, d⟩ | ⟨a, b, c, d, e⟩ | ⟨a, b, c, d, e, f, g⟩ | ⟨a, b, c, d⟩ | ⟨a, b, c, d, e⟩
      · exact c
      · exact d
      · exact absurd (Or.inl a) q
      · exact absurd (Or.inr a) q
      · exact d
      · exact e
  obtain ⟨Sc1, z1, z2, z3, z4⟩ := e_explore n hn (L := L) (i := r + 1) (K := fun j => g_pa Sc 0 (r + 1) j) (C := fun j => g_pa Sc 3 (r + 1) j) (S := Sc) ⟨h1.1, by omega, h1.2.2.1, fun _ => rfl, fun _ => rfl⟩ (fun k hk _ => by
    obtain ⟨c, c1, c2⟩ := hC k hk
    exact ⟨c, by omega, c2⟩)
  obtain ⟨Sm1, w1, w2, w3⟩ := e_come n hn (L := L) (r := r) (K := fun j => g_pa Sc 0 (r + 1) j) (C := fun j => g_pa Sc 3 (r + 1) j) (S := Sm0) ⟨h1.1, by omega, fun i hi => by
    obtain ⟨a1, -, -, a4, -⟩ := h1.2.2.2.1 i hi
    (try simp only)
    rw [a1, a4, f0.2 702 _ (by decide), f0.2 705 _ (by decide)]
    exact ⟨rfl, rfl⟩, hC⟩ ((f0.2 701 r (by decide)).trans h1.2.1)
  refine ⟨Sc1, Sm1, z1, w1, z2, f0.tr w2, z3, fun j hj => ?_⟩
  rcases z4 j hj with ⟨a, b⟩ | ⟨a, b⟩
  · rcases w3 j hj with ⟨c, d⟩ | ⟨c, d⟩
    · exact Or.inl ⟨a, c⟩
    · exact absurd b d
  · rcases w3 j hj with ⟨c, d⟩ | ⟨c, d⟩
    · exact absurd d b
    · exact Or.inr ⟨a, c⟩
theorem l2_told (n : Nat) (hn : 1000 ≤ n) : x_2_told INV n := by
  intro Sc Sm a b c h
  obtain ⟨N, hN⟩ := h
  have h1 := hN.1
  have hb12 : N < 2 ^ 31 := by have := h1.1; omega
  unfold f_X6_told f_X7_told
  rcases k_arg a hb12 with ha | ⟨r, hr, rfl⟩
  · rw [e_find_no n h1 ha, x_b2_s, x_o_n, e_isR_no n h1 ha, x_b2_s, if_pos rfl]
    exact ⟨-2, Sc, Sm, rfl, rfl, N, hN⟩
  obtain ⟨L, hL⟩ := h1.2.2.2.2.2.2 r hr
  have np1 : r + 1 < g_np Sc := by have := h1.2.2.2.1; omega
  have r12 : r < 12 := by have := h1.1; omega
  have r2 : r < 2 ^ 31 := by omega
  have cr := k_in (i := r) (L := 12) r12 (by decide)
  have L60 := hL.1
  rw [e_find n h1 hr, x_b2_s, x_o_s, x_gt np1, e_isR n h1 hr, x_b2_s, if_neg i_1n, x_gt cr, nI_clamp r2, x_l_e, hL.2.1]
  rcases k_arg b (show L < 2 ^ 31 by omega) with hb | ⟨i, hi, rfl⟩
  · rw [e_hs_no n np1 hL.2.2.1 hb, x_b2_s, if_pos rfl, e_in_no n hb (by omega), x_b_s, if_pos rfl]
    exact ⟨-2, Sc, Sm, rfl, rfl, N, hN⟩
  have i2 : i < 2 ^ 31 := by omega
  have ci := k_in (i := i) (L := 60) (by omega) (by decide)
  have ci6 := k_in (i := i) (L := 61) (by omega) (by decide)
  have q2 : 60 * r + i < 2 ^ 31 := by omega
  have cq := k_in (i := 60 * r + i) (L := 720) (by omega) (by decide)
  obtain ⟨a1, a2, a3, a4, -⟩ := hL.2.2.2.1 i hi
  rw [e_hs n np1 hL.2.2.1 L60 hi, x_b2_s, if_neg i_1n, e_in_yes n hi (by omega), x_b_s, if_neg i_1n, e_in, x_b_s]
  rcases k_arg c (show 6 < 2 ^ 31 by decide) with hc | ⟨q, hq, hc⟩
  · have o := fun {q : Nat} (hq : q < 6) => i_out (show 6 < 2 ^ 31 by decide) hc hq
    have o5 : ¬ ((0 : Int32) ≤ c ∧ c ≤ 5) := by
      rintro ⟨z1, z2⟩
      rcases hc with z | z
      · exact absurd z1 (Int32.not_le.mpr z)
      · exact absurd (Int32.le_trans z z2) (by decide)
    rw [if_neg (show ¬ c = 0 from o (q := 0) (by decide)), if_neg (show ¬ c = 1 from o (q := 1) (by decide)), if_neg (show ¬ c = 2 from o (q := 2) (by decide)), if_neg (show ¬ c = 3 from o (q := 3) (by decide)), if_neg (show ¬ c = 4 from o (q := 4) (by decide)), if_neg (show ¬ c = 5 from o (q := 5) (by decide)), if_neg o5, if_pos rfl]
    exact ⟨-2, Sc, Sm, rfl, rfl, N, hN⟩
  · rcases i_lit6 hq hc with rfl | rfl | rfl | rfl | rfl | rfl
    · rw [if_pos rfl, x_gt np1, x_gt np1, x_gt ci, nI_clamp i2, x_l_e, if_neg (by decide), if_neg (by decide), if_pos rfl, k_at r12 (by omega), x_gt cq, nI_clamp q2, x_l_e]
      exact ⟨_, Sc, Sm, rfl, by rw [a1], N, hN⟩
    · rw [if_neg (by decide), if_pos rfl, x_gt np1, x_gt np1, x_gt ci, nI_clamp i2, x_l_e, if_neg (by decide), if_neg (by decide), if_neg (by decide), if_pos rfl, k_at r12 (by omega), x_gt cq, nI_clamp q2, x_l_e]
      exact ⟨_, Sc, Sm, rfl, by rw [a2], N, hN⟩
    · rw [if_neg (by decide), if_neg (by decide), if_pos rfl, x_gt np1, x_gt np1, x_gt ci, nI_clamp i2, x_l_e, if_neg (by decide), if_neg (by decide), if_neg (by decide), if_neg (by decide), if_pos rfl, k_at r12 (by omega), x_gt cq, nI_clamp q2, x_l_e]
      exact ⟨_, Sc, Sm, rfl, by rw [a3], N, hN⟩
    · rw [if_neg (by decide), if_neg (by decide), if_neg (by decide), if_pos rfl, x_gt np1, x_gt np1, x_gt ci, nI_clamp i2, x_l_e, if_neg (by decide), if_neg (by decide), if_neg (by decide), if_neg (by decide), if_neg (by decide), k_at r12 (by omega), x_gt cq, nI_clamp q2, x_l_e]
      exact ⟨_, Sc, Sm, rfl, by rw [a4], N, hN⟩
    · rw [if_neg (by decide), if_neg (by decide), if_neg (by decide), if_neg (by decide), if_pos rfl, x_gt np1, x_l_e]
      rcases e_wh2 n hn r12 hL with ⟨w, w1, w2⟩ | ⟨w, w1, w2⟩
      · obtain ⟨Sc1, Sm1, t1, t2, t3, t4, R⟩ := e_tree n hn hN hr hL w
        obtain ⟨M, D, ow, hi', dp, kk, en, wt, R1, R2, R3, R4, R5, R6, R7, R8, R9, R10⟩ := R
        rw [w1, if_neg i_1n, t1, x_b_s, x_gt ci, nI_clamp i2, x_l_e, if_neg (show ¬ (if (0 : Int32) ≤ 4 ∧ (4 : Int32) ≤ 5 then (1 : Int32) else 0) = 0 by decide), if_pos (show (4 : Int32) ≤ 4 by decide), w2, x_b2_s, if_neg i_1n, if_neg (by decide), t2, x_b_s]
        rcases R8 i hi with ⟨(⟨c, c1, -⟩ | ⟨c, c1, -⟩), -⟩ | ⟨-, s, s1, s2, s3, s4⟩
        · exact absurd c1 (Nat.not_lt_zero _)
        · exact absurd c1 (Nat.not_lt_zero _)
        · have lp := td_loop (m := n) (i := i) (w := s) R3 R2 s1 (fun x hx => ⟨fun z => s4 x hx z, fun z => by rw [z]; exact s3⟩) (fun x hx => ⟨(R4 x hx).1, (R4 x hx).2.1, (R4 x hx).2.2.1, (R10.2.2.2 x hx).1⟩) M 0 n (-1) (Nat.zero_le _) rfl (by omega)
          rw [if_pos (Nat.zero_le _)] at lp
          exact ⟨nI s, Sc1, Sm1, by rw [show g_ar Sc1 406 i = nI s from s2], lp, N, t3⟩
      · rw [w1, if_pos rfl, if_neg (show ¬ (if (0 : Int32) ≤ 4 ∧ (4 : Int32) ≤ 5 then (1 : Int32) else 0) = 0 by decide), if_pos (show (4 : Int32) ≤ 4 by decide), w2, x_b2_s, if_pos rfl]
        exact ⟨-1, Sc, Sm, rfl, rfl, N, hN⟩
    · rw [if_neg (by decide), if_neg (by decide), if_neg (by decide), if_neg (by decide), if_neg (by decide), if_pos rfl, x_gt np1, x_l_e]
      rcases e_wh2 n hn r12 hL with ⟨w, w1, w2⟩ | ⟨w, w1, w2⟩
      · obtain ⟨Sc1, Sm1, t1, t2, t3, t4, -, t6⟩ := e_cm n hn hN hr hL w (fr_m_rf Sm)
        unfold f_X6_cameTo
        rw [w1, if_neg i_1n, t1, x_b_s, x_gt ci, nI_clamp i2, x_l_e, x_b2_s, if_neg (show ¬ (if (0 : Int32) ≤ 5 ∧ (5 : Int32) ≤ 5 then (1 : Int32) else 0) = 0 by decide), if_pos (show (4 : Int32) ≤ 5 by decide), w2, x_b2_s, if_neg i_1n, if_pos rfl, t2, x_b_s, x_gt (k_in2 (show i < 61 by omega) i2), x_l_e]
        rcases t6 i hi with ⟨z1, z2⟩ | ⟨z1, z2⟩
        · rw [z1, z2, if_neg i_1n]
          exact ⟨1, Sc1, Sm1, rfl, rfl, N, iv_fr hN t3 t4⟩
        · rw [z1, z2, if_pos rfl]
          exact ⟨0, Sc1, Sm1, rfl, rfl, N, iv_fr hN t3 t4⟩
      · rw [w1, if_pos rfl, if_neg (show ¬ (if (0 : Int32) ≤ 5 ∧ (5 : Int32) ≤ 5 then (1 : Int32) else 0) = 0 by decide), if_pos (show (4 : Int32) ≤ 5 by decide), w2, x_b2_s, if_pos rfl]
        exact ⟨-1, Sc, Sm, rfl, rfl, N, hN⟩
