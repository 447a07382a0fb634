/-! write: all turns -/
section
variable {n tl : Nat} {S0 S1 : x_S}
theorem i_pred {v : Int32} (h0 : 0 ≤ v) (h : ¬ v ≤ 0) : 0 ≤ v - 1 := by
  obtain ⟨j, j1, rfl⟩ := nI_of (Int32.not_lt.mpr h0)
  cases j with
  | zero => exact absurd (by decide) h
  | succ j => rw [nI_pred]; exact nI_pos' (by omega)
theorem w_W.dec {pl a d : Nat} {sk be : Nat → Nat} {Sc Sm : x_S} (h : w_W S0 S1 tl pl a (d + 1) sk be Sc Sm) (hv : ¬ g_ar Sm 746 d ≤ 0) : w_W S0 S1 tl pl a (d + 1) sk be (s_ar Sc 510 d (g_ar Sm 746 d - 1)) (s_ar Sm 746 d (g_ar Sm 746 d - 1)) := by
  obtain ⟨hc, hm, hR, hb⟩ := h
  refine ⟨⟨hc.1.tr (frw_ar _ 510 d _ (by decide) (by decide)), hc.2⟩, hm.ar 746 d _ (by decide), ?_, hb⟩
  have ec : ∀ j i, j ≠ 510 → g_ar (s_ar Sc 510 d (g_ar Sm 746 d - 1)) j i = g_ar Sc j i := fun j i hj => by rw [q_ar_ar, if_neg (fun q => hj q.1)]
  have em : ∀ j i, j ≠ 746 → g_ar (s_ar Sm 746 d (g_ar Sm 746 d - 1)) j i = g_ar Sm j i := fun j i hj => by rw [q_ar_ar, if_neg (fun q => hj q.1)]
  have fm : ∀ j, j ≠ 746 → (fun i => g_ar (s_ar Sm 746 d (g_ar Sm 746 d - 1)) j i) = (fun i => g_ar Sm j i) := fun j hj => funext (fun i => em j i hj)
  have fc : (fun i => g_ar (s_ar Sc 510 d (g_ar Sm 746 d - 1)) 508 i) = (fun i => g_ar Sc 508 i) := funext (fun i => ec 508 i (by decide))
  obtain ⟨r1, r2, r3, r4, r5, r6, r7⟩ := hR
  unfold w_R
  rw [fm 739 (by decide), fm 740 (by decide), fm 741 (by decide), fm 742 (by decide), fm 743 (by decide), fm 744 (by decide), fm 747 (by decide), fc]
  refine ⟨r1, fun b hb => ?_, r3, r4, r5, r6, r7⟩
  rw [ec 511 b (by decide), ec 512 b (by decide), ec 513 b (by decide), ec 514 b (by decide), ec 515 b (by decide), em 747 b (by decide), em 748 b (by decide), em 749 b (by decide), em 750 b (by decide), em 751 b (by decide), q_ar_ar, q_ar_ar]
  obtain ⟨q1, q2, q3⟩ := r2 b hb
  by_cases e : b = d
  · subst e
    rw [if_pos ⟨rfl, rfl⟩, if_pos ⟨rfl, rfl⟩]
    exact ⟨rfl, i_pred q2 hv, q3⟩
  · rw [if_neg (fun q => e q.2), if_neg (fun q => e q.2)]
    exact ⟨q1, q2, q3⟩
/-- the end of all turns -/
def w_E (S0 S1 : x_S) (tl : Nat) (Sc Sm : x_S) : Prop := (∃ pl a sk be, w_W S0 S1 tl pl a 0 sk be Sc Sm) ∨ w_G S0 S1 Sc Sm
theorem c_p50f {t : Nat} (ht : t < 601) {R : x_S × Int32 → Option (Int32 × x_S)} {T : x_S} (h : ¬ g_sc T 504 = 0) : f_X5_parse_50 n R T (nI t) = f_X5_parse_117 n T := by
  unfold f_X5_parse_50
  rw [if_neg (show ¬ (601 : Int32) ≤ nI t from nI_ge (b := 601) ht (by decide)), x_l_e, if_neg h]
theorem c_w40f {R : x_S → Option (Int32 × x_S)} {T : x_S} (h : ¬ g_sc T 737 = 0) : f_X7_write_40 n R T = f_X7_write_97 n T := by
  unfold f_X7_write_40
  rw [x_l_e, if_neg h]
theorem w_loop (ht : ∀ i, i < tl → g_ar S0 605 i = g_ar S1 707 i) (hn : 1000 ≤ n) : ∀ k t : Nat, t + k = 700 → ∀ m m' : Nat, k < m → k < m' → ∀ (pl a d : Nat) (sk be : Nat → Nat) (Sc Sm : x_S), w_W S0 S1 tl pl a d sk be Sc Sm → t + d + 1 ≤ 2 * pl → ∃ Tc Tm, x_loop (fun rec z => f_X5_parse_50 n rec z.1 z.2) m (Sc, nI t) = f_X5_parse_117 n Tc ∧ x_loop (fun rec z => f_X7_write_40 n rec z) m' Sm = f_X7_write_97 n Tm ∧ w_E S0 S1 tl Tc Tm := by
  intro k
  induction k with
  | zero =>
    intro t htk m m' hm hm' pl a d sk be Sc Sm hW hb
    have h1 := hW.1.2.2.2.2.2.2.2.2.1
    have h2 := hW.1.2.2.2.2.2.2.2.2.2.1
    omega
  | succ k ih =>
    intro t htk m m' hm hm' pl a d sk be Sc Sm hW hb
    obtain ⟨m, rfl⟩ : ∃ q, m = q + 1 := ⟨m - 1, by omega⟩
    obtain ⟨m', rfl⟩ : ∃ q, m' = q + 1 := ⟨m' - 1, by omega⟩
    have h1 := hW.1.2.2.2.2.2.2.2.2.1
    have h2 := hW.1.2.2.2.2.2.2.2.2.2.1
    have hd61 : d ≤ 61 := hW.1.2.2.2.2.2.2.2.2.2.2.2
    have t6 : t < 601 := by omega
    have ct : ¬ (601 : Int32) ≤ nI t := nI_ge (b := 601) t6 (by decide)
    rw [x_loop_s, x_loop_s]
    have fin : ∀ Tc Tm : x_S, w_T S0 S1 tl pl d Tc Tm → 0 < d → ∃ Uc Um, x_loop (fun rec z => f_X5_parse_50 n rec z.1 z.2) m (Tc, nI (t + 1)) = f_X5_parse_117 n Uc ∧ x_loop (fun rec z => f_X7_write_40 n rec z) m' Tm = f_X7_write_97 n Um ∧ w_E S0 S1 tl Uc Um := by
      intro Tc Tm hT hd0
      rcases hT with ⟨pl', a', d', sk', be', w1, w2⟩ | hG
      · exact ih (t + 1) (by omega) m m' (by omega) (by omega) pl' a' d' sk' be' Tc Tm w1 (by omega)
      · obtain ⟨v, p, M, g1, g2, g3⟩ := id hG
        obtain ⟨m, rfl⟩ : ∃ q, m = q + 1 := ⟨m - 1, by omega⟩
        obtain ⟨m', rfl⟩ : ∃ q, m' = q + 1 := ⟨m' - 1, by omega⟩
        refine ⟨Tc, Tm, ?_, ?_, Or.inr hG⟩
        · rw [x_loop_s]
          exact c_p50f (by omega) (by rw [g1.2.2.1]; exact g1.2.1)
        · rw [x_loop_s]
          exact c_w40f (by rw [g3.2.2.1]; exact g3.2.1)
    generalize hL : x_loop (fun rec z => f_X5_parse_50 n rec z.1 z.2) m = R at fin
    generalize hL' : x_loop (fun rec z => f_X7_write_40 n rec z) m' = R' at fin
    show ∃ Tc Tm, f_X5_parse_50 n R Sc (nI t) = f_X5_parse_117 n Tc ∧ f_X7_write_40 n R' Sm = f_X7_write_97 n Tm ∧ w_E S0 S1 tl Tc Tm
    cases d with
    | zero =>
      refine ⟨Sc, Sm, ?_, ?_, Or.inl ⟨pl, a, sk, be, hW⟩⟩
      · unfold f_X5_parse_50
        rw [if_neg ct, x_l_e, hW.1.2.1, if_pos rfl, x_l_e, hW.1.2.2.2.2.2.2.1, if_pos (show nI 0 ≤ 0 by decide)]
      · unfold f_X7_write_40
        rw [x_l_e, hW.2.1.2.1, if_pos rfl, x_l_e, hW.2.1.2.2.2.2.2.1, if_pos (show nI 0 ≤ 0 by decide)]
    | succ d =>
      have d2 : d < 2 ^ 31 := by omega
      have c3 := k_in (i := d) (L := 61) (by omega) (by decide)
      have m3 := k_in (i := d) (L := 64) (by omega) (by decide)
      have c4 := nI_clamp d2
      have n0 : ¬ nI (d + 1) ≤ 0 := nI_nle (by omega) (by omega)
      have el : g_ar Sc 510 d = g_ar Sm 746 d := (hW.2.2.1.2.1 d (by omega)).1
      have e1 : f_X5_parse_50 n R Sc (nI t) = if g_ar Sm 746 d ≤ 0 then x_b (f_X5_closeBody n Sc) (fun S => R (S, nI (t + 1))) else x_b (f_X5_takeStatement n (s_ar Sc 510 d (g_ar Sm 746 d - 1))) (fun S => R (S, nI (t + 1))) := by
        unfold f_X5_parse_50 f_X5_parse_111
        simp only [x_l_e]
        rw [if_neg ct, hW.1.2.1, if_pos rfl, hW.1.2.2.2.2.2.2.1, if_neg n0, nI_pred]
        simp only [x_gt c3]
        rw [c4, el, nI_1]
      have e2 : f_X7_write_40 n R' Sm = if g_ar Sm 746 d ≤ 0 then x_b (f_X7_endBody n Sm) (fun S => R' S) else x_b (f_X7_writeStatement n (s_ar Sm 746 d (g_ar Sm 746 d - 1))) (fun S => R' S) := by
        unfold f_X7_write_40
        simp only [x_l_e]
        rw [hW.2.1.2.1, if_pos rfl, hW.2.1.2.2.2.2.2.1, if_neg n0, nI_pred]
        simp only [x_gt m3]
        rw [c4]
      rw [e1, e2]
      by_cases hv : g_ar Sm 746 d ≤ 0
      · rw [if_pos hv, if_pos hv]
        obtain ⟨Tc, Tm, z1, z2, z3⟩ := w_close (n := n) hW ht hn
        rw [z1, z2, x_b_s, x_b_s]
        exact fin Tc Tm z3 (by omega)
      · rw [if_neg hv, if_neg hv]
        obtain ⟨Tc, Tm, z1, z2, z3⟩ := w_stmt (n := n) (hW.dec hv) ht hn
        rw [z1, z2, x_b_s, x_b_s]
        exact fin Tc Tm z3 (by omega)
end
