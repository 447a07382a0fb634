/-! statement -/
section
variable {m M : Nat} {S : x_S} {ow hi dp : Nat → Nat} {t3 t5 : Nat → Int32}
theorem wi_loop (hM : M ≤ 60) (h3 : ∀ x, x < M → g_ar S 719 x = t3 x) (hI : r_I M 0 ow hi t3 t5) {s : Nat} (hs : s < M) : ∀ (x q : Nat) (a : Int32), x < M → x < q → (a = 0 ∨ a = 1) → ∃ b, (b = 0 ∨ b = 1) ∧ (b = 1 ↔ (a = 1 ∨ r_in 0 ow hi s x)) ∧ x_loop (fun rec z => f_X7_isWithin_10 m rec z.1 z.2.1 z.2.2.1 z.2.2.2) q (S, nI s, a, t3 x) = some (b, S) := by
  intro x
  induction x using Nat.strongRecOn with
  | _ x ih =>
    intro q a hx hq ha
    obtain ⟨q, rfl⟩ : ∃ z, q = z + 1 := ⟨q - 1, by omega⟩
    rw [x_loop_s]
    have h5 := hI.2.2.2.2 x hx s
    rcases hI.2.2.2.1 x hx with e | ⟨p, p1, e⟩
    · refine ⟨a, ha, ⟨fun z => Or.inl z, fun z => z.elim id (fun z => ?_)⟩, ?_⟩
      · obtain ⟨p, p1, p2, -⟩ := h5.mp z
        rw [e] at p2
        exact absurd p2.symm (nI_m1 (by omega))
      · generalize x_loop (fun rec z => f_X7_isWithin_10 m rec z.1 z.2.1 z.2.2.1 z.2.2.2) q = R
        show f_X7_isWithin_10 m R S (nI s) a (t3 x) = _
        unfold f_X7_isWithin_10
        rw [e, if_pos rfl, x_gt ha]
    · have cp := k_in (i := p) (L := 200) (by omega) (by decide)
      have p2 : p < 2 ^ 31 := by omega
      have ih0 := ih p p1 q 0 (by omega) (by omega) (Or.inl rfl)
      have ih1 := ih p p1 q 1 (by omega) (by omega) (Or.inr rfl)
      generalize x_loop (fun rec z => f_X7_isWithin_10 m rec z.1 z.2.1 z.2.2.1 z.2.2.2) q = R at ih0 ih1
      show ∃ b, _ ∧ _ ∧ f_X7_isWithin_10 m R S (nI s) a (t3 x) = some (b, S)
      have hin : r_in 0 ow hi s x ↔ (s = p ∨ r_in 0 ow hi s p) := by
        rw [h5]
        constructor
        · rintro ⟨p', z1, z2, z3⟩
          rw [e, nI_eq (by omega) (by omega)] at z2
          rw [z2]; exact z3
        · exact fun z => ⟨p, p1, e, z⟩
      unfold f_X7_isWithin_10 f_X7_isWithin_26 f_X7_isWithin_31
      rw [e, if_neg (nI_m1 p2), x_gt cp, nI_clamp p2, x_l_e, x_gt (k_in2 (show p < 200 by omega) p2), x_l_e, h3 p (by omega)]
      rcases ha with rfl | rfl
      · rw [if_pos rfl]
        by_cases e2 : p = s
        · rw [if_pos (by rw [e2])]
          obtain ⟨b, b1, b2, b3⟩ := ih1
          refine ⟨b, b1, ?_, b3⟩
          rw [b2, hin]
          exact ⟨fun _ => Or.inr (Or.inl e2.symm), fun _ => Or.inl rfl⟩
        · rw [if_neg (fun z => e2 ((nI_eq (by omega) (by omega)).mp z))]
          obtain ⟨b, b1, b2, b3⟩ := ih0
          refine ⟨b, b1, ?_, b3⟩
          rw [b2, hin]
          exact ⟨fun z => z.elim (fun z => Or.inl z) (fun z => Or.inr (Or.inr z)), fun z => z.elim (fun z => Or.inl z) (fun z => z.elim (fun z => absurd z.symm e2) (fun z => Or.inr z))⟩
      · rw [if_neg i_1n]
        obtain ⟨b, b1, b2, b3⟩ := ih1
        refine ⟨b, b1, ?_, b3⟩
        rw [b2]
        exact ⟨fun _ => Or.inl rfl, fun _ => Or.inl rfl⟩
theorem e_within (hm : 1000 ≤ m) (hM : M ≤ 60) (h3 : ∀ x, x < M → g_ar S 719 x = t3 x) (hI : r_I M 0 ow hi t3 t5) {s x : Nat} (hs : s < M) (hx : x < M) : f_X7_isWithin m S (nI x) (nI s) = some (if s < x ∧ x ≤ hi s then 1 else 0, S) := by
  have cx := k_in (i := x) (L := 200) (by omega) (by decide)
  obtain ⟨b, b1, b2, b3⟩ := wi_loop (m := m) hM h3 hI hs x m 0 hx (by omega) (Or.inl rfl)
  have hin : r_in 0 ow hi s x ↔ (s < x ∧ x ≤ hi s) := ⟨fun z => ⟨z.1, z.2.elim (fun ⟨c, c1, c2, _⟩ => absurd c2 (Nat.not_lt_zero _)) id⟩, fun z => ⟨z.1, Or.inr z.2⟩⟩
  unfold f_X7_isWithin
  rw [x_gt cx, nI_clamp (by omega), x_l_e, h3 x hx, b3]
  by_cases e : s < x ∧ x ≤ hi s
  · rw [if_pos e, b2.mpr (Or.inr (hin.mpr e))]
  · rw [if_neg e]
    rcases b1 with b1 | b1
    · rw [b1]
    · exact absurd (b2.mp b1) (fun z => z.elim (fun z => absurd z (by decide)) (fun z => e (hin.mp z)))
theorem st_loop (hm : 1000 ≤ m) (hM : M ≤ 60) (h715 : g_sc S 715 = nI M) (h3 : ∀ x, x < M → g_ar S 719 x = t3 x) (hI : r_I M 0 ow hi t3 t5) {s : Nat} (hs : s < M) (hh : s ≤ hi s) (hh2 : hi s < M) : ∀ (d x c q : Nat), x ≤ M → M - x = d → d < q → x_loop (fun rec z => f_X7_statement_126 m rec z.1 z.2.1 z.2.2.1 z.2.2.2) q (S, nI s, nI c, nI x) = some (nI (c + (if x ≤ s then hi s - s else hi s + 1 - x)), S) := by
  intro d
  induction d with
  | zero =>
    intro x c q hx hd hq
    obtain ⟨q, rfl⟩ : ∃ z, q = z + 1 := ⟨q - 1, by omega⟩
    rw [x_loop_s]
    generalize x_loop (fun rec z => f_X7_statement_126 m rec z.1 z.2.1 z.2.2.1 z.2.2.2) q = R
    show f_X7_statement_126 m R S (nI s) (nI c) (nI x) = _
    unfold f_X7_statement_126
    rw [x_l_e, h715, if_pos (nI_le (by omega) (by omega)), if_neg (by omega), show c + (hi s + 1 - x) = c by omega]
  | succ d ih =>
    intro x c q hx hd hq
    obtain ⟨q, rfl⟩ : ∃ z, q = z + 1 := ⟨q - 1, by omega⟩
    rw [x_loop_s]
    have ih' := fun c => ih (x + 1) c q (by omega) (by omega) (by omega)
    generalize x_loop (fun rec z => f_X7_statement_126 m rec z.1 z.2.1 z.2.2.1 z.2.2.2) q = R at ih'
    show f_X7_statement_126 m R S (nI s) (nI c) (nI x) = _
    unfold f_X7_statement_126 f_X7_statement_152
    rw [x_l_e, h715, if_neg (nI_ge (by omega) (by omega)), e_within hm hM h3 hI hs (by omega), x_b2_s, nI_1]
    by_cases e : s < x ∧ x ≤ hi s
    · rw [if_pos e, if_neg i_1n, nI_1, ih']
      congr 3
      split <;> split <;> omega
    · rw [if_neg e, if_pos rfl, Int32.add_zero, ih']
      congr 3
      split <;> split <;> omega
end
theorem e_th_no (n : Nat) {M : Nat} {S : x_S} {b : Int32} (hM : g_sc S 408 = nI M) (hb : b < 0 ∨ nI M ≤ b) : f_X4_has n S b = some (0, S) := by
  unfold f_X4_has
  by_cases c1 : b < 0
  · rw [if_pos c1, z_g0]
  · rw [if_neg c1, x_l_e, hM, if_pos (hb.resolve_left c1), z_g0]
theorem e_th (n : Nat) {M i : Nat} {S : x_S} (hM : g_sc S 408 = nI M) (hM2 : M ≤ 60) (hi : i < M) : f_X4_has n S (nI i) = some (1, S) := by
  unfold f_X4_has
  rw [if_neg (nI_pos (by omega)), x_l_e, hM, if_neg (nI_ge hi (by omega)), z_g1]
theorem l2_statement (n : Nat) (hn : 1000 ≤ n) : x_2_statement INV n := by
  intro Sc Sm a b c h
  obtain ⟨N, hN⟩ := h
  have h1 := hN.1
  have hb12 : N < 2 ^ 31 := by have := h1.1; omega
  unfold f_X6_statement f_X7_statement
  rcases k_arg a hb12 with ha | ⟨r, hr, rfl⟩
  · rw [e_find_no n h1 ha, x_b2_s, x_o_n, e_isR_no n h1 ha, x_b2_s, if_pos rfl]
    exact ⟨-2, Sc, Sm, rfl, rfl, N, hN⟩
  obtain ⟨L, hL⟩ := h1.2.2.2.2.2.2 r hr
  have np1 : r + 1 < g_np Sc := by have := h1.2.2.2.1; omega
  have r12 : r < 12 := by have := h1.1; omega
  have L60 := hL.1
  rw [e_find n h1 hr, x_b2_s, x_o_s, e_isR n h1 hr, x_b2_s, if_neg i_1n, e_in, x_b_s]
  by_cases c0 : c < 0
  · rw [if_pos c0, if_neg (fun z : (0 : Int32) ≤ c ∧ c ≤ 5 => absurd z.1 (Int32.not_le.mpr c0)), if_pos rfl]
    exact ⟨-2, Sc, Sm, rfl, rfl, N, hN⟩
  by_cases c5 : c ≤ 5
  · rw [if_neg c0, if_pos c5, if_pos (⟨Int32.not_lt.mp c0, c5⟩ : (0 : Int32) ≤ c ∧ c ≤ 5), if_neg i_1n, x_gt np1, x_l_e]
    rcases e_wh2 n hn r12 hL with ⟨w, w1, w2⟩ | ⟨w, w1, w2⟩
    · obtain ⟨Sc1, Sm1, t1, t2, t3, t4, R⟩ := e_tree n hn hN hr hL w
      obtain ⟨M, D, ow, hi', dp, kk, en, wt, R1, R2, R3, R4, R5, R6, R7, R8, R9, R10⟩ := R
      rw [w1, if_neg i_1n, t1, x_b_s, w2, x_b2_s, if_neg i_1n, t2, x_b_s, x_l_e, R3]
      rcases k_arg b (show M < 2 ^ 31 by omega) with hb | ⟨s, hs, rfl⟩
      · rw [e_th_no n R1 hb, x_b2_s, if_pos rfl, e_in_no n hb (by omega), x_b_s, if_pos rfl]
        exact ⟨-2, Sc1, Sm1, rfl, rfl, N, t3⟩
      · have s2 : s < 2 ^ 31 := by omega
        have cs := k_in (i := s) (L := 60) (by omega) (by decide)
        have cs2 := k_in (i := s) (L := 200) (by omega) (by decide)
        obtain ⟨q0, q1, q2, q3, q4⟩ : g_ar Sm1 716 s = g_ar Sc1 400 s ∧ g_ar Sm1 717 s = g_ar Sc1 401 s ∧ g_ar Sm1 718 s = g_ar Sc1 402 s ∧ g_ar Sm1 719 s = g_ar Sc1 403 s ∧ g_ar Sm1 720 s = g_ar Sc1 404 s := R4 s hs
        rw [e_th n R1 R2 hs, x_b2_s, if_neg i_1n, e_in_yes n hs (by omega), x_b_s, if_neg i_1n]
        unfold f_X4_tell
        have hc : ∃ q, q < 6 ∧ c = nI q := by
          rcases k_arg c (show 6 < 2 ^ 31 by decide) with z | z
          · rcases z with z | z
            · exact absurd z c0
            · exact absurd (Int32.le_trans z c5) (by decide)
          · exact z
        obtain ⟨q, hq, hc⟩ := hc
        rcases i_lit6 hq hc with rfl | rfl | rfl | rfl | rfl | rfl
        · rw [if_pos rfl, x_gt cs, nI_clamp s2, x_l_e, if_neg (by decide), if_pos rfl, x_gt (k_in2 (show s < 200 by omega) s2), x_l_e, q0]
          exact ⟨_, Sc1, Sm1, rfl, rfl, N, t3⟩
        · rw [if_neg (by decide), if_pos rfl, x_gt cs, nI_clamp s2, x_l_e, if_neg (by decide), if_neg (by decide), if_pos rfl, x_gt (k_in2 (show s < 200 by omega) s2), x_l_e, q1]
          exact ⟨_, Sc1, Sm1, rfl, rfl, N, t3⟩
        · rw [if_neg (by decide), if_neg (by decide), if_pos rfl, x_gt cs, nI_clamp s2, x_l_e, if_neg (by decide), if_neg (by decide), if_neg (by decide), if_pos rfl, x_gt (k_in2 (show s < 200 by omega) s2), x_l_e, q2]
          exact ⟨_, Sc1, Sm1, rfl, rfl, N, t3⟩
        · rw [if_neg (by decide), if_neg (by decide), if_neg (by decide), if_pos rfl, x_gt cs, nI_clamp s2, x_l_e, if_neg (by decide), if_neg (by decide), if_neg (by decide), if_neg (by decide), if_pos rfl, x_gt (k_in2 (show s < 200 by omega) s2), x_l_e, q3]
          exact ⟨_, Sc1, Sm1, rfl, rfl, N, t3⟩
        · rw [if_neg (by decide), if_neg (by decide), if_neg (by decide), if_neg (by decide), if_pos rfl, x_gt cs, nI_clamp s2, x_l_e, if_neg (by decide), if_neg (by decide), if_neg (by decide), if_neg (by decide), if_neg (by decide), x_gt (k_in2 (show s < 200 by omega) s2), x_l_e, q4]
          exact ⟨_, Sc1, Sm1, rfl, rfl, N, t3⟩
        · obtain ⟨u1, u2, u3, -⟩ := R5.2.2.1 s hs (fun ⟨c, c1, c2, _⟩ => absurd c2 (Nat.not_lt_zero _))
          have lp := st_loop (m := n) hn R2 R3 (fun x hx => (R4 x hx).2.2.2.1) R5 hs u1 u2 M 0 0 n (Nat.zero_le _) rfl (by omega)
          rw [if_pos (Nat.zero_le _), Nat.zero_add] at lp
          rw [if_neg (by decide), if_neg (by decide), if_neg (by decide), if_neg (by decide), if_neg (by decide), x_gt cs, nI_clamp s2, x_l_e, if_pos (by decide)]
          exact ⟨nI (hi' s - s), Sc1, Sm1, by rw [show g_ar Sc1 405 s = nI (hi' s - s) from u3, x_b2_s], lp, N, t3⟩
    · rw [w1, if_pos rfl, w2, x_b2_s, if_pos rfl]
      exact ⟨-3, Sc, Sm, rfl, rfl, N, hN⟩
  · rw [if_neg c0, if_neg c5, if_neg (fun z : (0 : Int32) ≤ c ∧ c ≤ 5 => c5 z.2), if_pos rfl]
    exact ⟨-2, Sc, Sm, rfl, rfl, N, hN⟩
