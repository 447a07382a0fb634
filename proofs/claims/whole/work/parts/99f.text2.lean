/-! text: what closeBodies does -/
section
variable {m M q : Nat} {S S1 : x_S} {st : Nat → Nat} {t0 t3 t4 : Nat → Int32} {T : List tx_T}
theorem sk_le {y x : Nat} (h : sk t0 t3 t4 y x q st) : q ≤ y := by
  have ge : ∀ i, i < q → i ≤ st i := by
    intro i
    induction i with
    | zero => intro _; exact Nat.zero_le _
    | succ i ih =>
      intro hi
      have := ih (by omega)
      have := h.1 i (i + 1) (by omega) hi
      omega
  by_cases e : q = 0
  · omega
  · have := ge (q - 1) (by omega)
    have := ((h.2 (st (q - 1))).mp ⟨q - 1, by omega, rfl⟩).1
    omega
theorem cnt0_self {x : Nat} (hP : ∀ y, y < M → t3 y = -1 ∨ ∃ p, p < y ∧ t3 y = nI p) (hM : M ≤ 60) (h0 : 0 < x) (hx : x ≤ M) : tx_cnt t3 t4 (nI (x - 1)) 1 x = 0 := by
  refine tx_cnt_zero x (fun s hs z => ?_)
  rcases hP s (by omega) with e | ⟨p, p1, e⟩
  · rw [e] at z; exact nI_m1 (by omega) z.1.symm
  · rw [e, nI_eq (by omega) (by omega)] at z; omega
theorem cl_push {x : Nat} (hM : M ≤ 60) (hx : x ≤ M) (h0 : ∀ y, y < M → g_ar S1 716 y = t0 y) (hP : ∀ y, y < M → t3 y = -1 ∨ ∃ p, p < y ∧ t3 y = nI p) (h : tl S1 M t3 t4 T q st S) (hs : x = 0 ∨ sk t0 t3 t4 (x - 1) x q st) : ∃ S' q' st', f_X7_closeBodies m S (nI x) = f_X7_closeBodies_47 m S' (nI x) ∧ tl S1 M t3 t4 T q' st' S' ∧ sk t0 t3 t4 x x q' st' := by
  obtain ⟨h1, h2, h3, h4, h5, h6⟩ := id h
  by_cases e : x = 0
  · subst e
    refine ⟨s_sc S 734 0, 0, st, ?_, ⟨fun x y a b => h1 x y a b, fun x a b => (y_sn _ _ _ _ b).trans (h2 x a b), (y_sn _ _ _ _ (by decide)).trans h3, h4, y_sc _ _ _, fun i hi => absurd hi (Nat.not_lt_zero _)⟩, fun i j _ hj => absurd hj (Nat.not_lt_zero _), fun e => ⟨fun ⟨i, hi, _⟩ => absurd hi (Nat.not_lt_zero _), fun z => absurd z.1 (Nat.not_lt_zero _)⟩⟩
    unfold f_X7_closeBodies f_X7_closeBodies_9
    rw [if_pos (show nI 0 = 0 from rfl), x_l_e, if_pos (show nI 0 ≤ 0 by decide)]
  · have hs := hs.resolve_left e
    have ql := sk_le hs
    have x2 : x - 1 < 2 ^ 31 := by omega
    have cx := k_in (i := x - 1) (L := 200) (by omega) (by decide)
    have ex : nI x - 1 = nI (x - 1) := by have := nI_pred (x - 1); rw [show x - 1 + 1 = x by omega] at this; exact this
    have e6 : g_ar S 716 (x - 1) = t0 (x - 1) := (h1 716 _ (by decide) (by decide)).trans (h0 _ (by omega))
    have c0 := cnt0_self (t4 := t4) hP hM (show 0 < x by omega) hx
    by_cases e2 : t0 (x - 1) = 2
    · have cq := k_in (i := q) (L := 200) (by omega) (by decide)
      refine ⟨s_sc (s_ar S 735 q (nI (x - 1))) 734 (nI (q + 1)), q + 1, fun i => if i = q then x - 1 else st i, ?_, ⟨fun x' y a b => ?_, fun x' a b => (y_sn _ _ _ _ b).trans (h2 x' a b), (y_sn _ _ _ _ (by decide)).trans h3, fun i t ht => ?_, y_sc _ _ _, fun i hi => ?_⟩, fun i j hij hj => ?_, fun e' => ?_⟩
      · unfold f_X7_closeBodies f_X7_closeBodies_9
        rw [if_neg (nI_ne0 (by omega) (by omega)), if_neg (show ¬ nI x ≤ 0 from nI_ge (a := 0) (by omega) (by omega)), ex, x_gt cx, nI_clamp x2, x_l_e, e6, if_pos e2, x_l_e, h5, x_gt cq, nI_clamp (by omega), x_l_e, x_l_e, q_sc_ar, h5, nI_1, x_l_e]
      · rw [q_ar_sc, q_ar_ar, if_neg (fun z => b z.1)]; exact h1 x' y a b
      · rw [q_ar_sc, q_ar_ar, if_neg (by omega)]; exact h4 i t ht
      · rw [q_ar_sc, q_ar_ar]
        show (if 735 = 735 ∧ i = q then nI (x - 1) else g_ar S 735 i) = nI (if i = q then x - 1 else st i)
        by_cases z : i = q
        · rw [if_pos ⟨rfl, z⟩, if_pos z]
        · rw [if_neg (fun w => z w.2), if_neg z]; exact h6 i (by omega)
      · show (if i = q then x - 1 else st i) < (if j = q then x - 1 else st j)
        rw [if_neg (show ¬ i = q by omega)]
        by_cases z : j = q
        · rw [if_pos z]; exact ((hs.2 (st i)).mp ⟨i, by omega, rfl⟩).1
        · rw [if_neg z]; exact hs.1 i j hij (by omega)
      · constructor
        · rintro ⟨i, hi, rfl⟩
          show (if i = q then x - 1 else st i) < x ∧ t0 (if i = q then x - 1 else st i) = 2 ∧ tx_cnt t3 t4 (nI (if i = q then x - 1 else st i)) 1 x = 0
          by_cases z : i = q
          · rw [if_pos z]; exact ⟨by omega, e2, c0⟩
          · rw [if_neg z]
            obtain ⟨a, b⟩ := (hs.2 (st i)).mp ⟨i, by omega, rfl⟩
            exact ⟨by omega, b⟩
        · rintro ⟨a, b, c⟩
          by_cases z : e' = x - 1
          · exact ⟨q, by omega, (if_pos rfl).trans z.symm⟩
          · obtain ⟨i, i1, i2⟩ := (hs.2 e').mpr ⟨by omega, b, c⟩
            exact ⟨i, by omega, (if_neg (by omega)).trans i2⟩
    · refine ⟨S, q, st, ?_, h, hs.1, fun e' => ?_⟩
      · unfold f_X7_closeBodies f_X7_closeBodies_9
        rw [if_neg (nI_ne0 (by omega) (by omega)), if_neg (show ¬ nI x ≤ 0 from nI_ge (a := 0) (by omega) (by omega)), ex, x_gt cx, nI_clamp x2, x_l_e, e6, if_neg e2]
      · rw [hs.2]
        constructor
        · rintro ⟨a, b⟩
          exact ⟨by omega, b⟩
        · rintro ⟨a, b, c⟩
          have : e' ≠ x - 1 := fun z => e2 (z ▸ b)
          exact ⟨by omega, b, c⟩
theorem cl_0 (x : Int32) (k : Nat) : x_loop (fun rec z => f_X7_closeBodies_60 m rec z.1 z.2.1 z.2.2) (k + 1) (S, x, 0) = some S := by
  rw [x_loop_s]
  generalize x_loop (fun rec z => f_X7_closeBodies_60 m rec z.1 z.2.1 z.2.2) k = R
  show f_X7_closeBodies_60 m R S x 0 = _
  unfold f_X7_closeBodies_60
  rw [if_pos rfl]
theorem cnt_step (a : Int32) (x : Nat) : tx_cnt t3 t4 a 1 (x + 1) = tx_cnt t3 t4 a 1 x + (if t3 x = a ∧ t4 x = 1 then 1 else 0) := rfl
theorem cl_all {x : Nat} (hm : 1000 ≤ m) (hM : M ≤ 60) (hx : x < M) (h715 : g_sc S1 715 = nI M) (h0 : ∀ y, y < M → g_ar S1 716 y = t0 y) (h9 : ∀ x, x < M → g_ar S1 719 x = t3 x) (h20 : ∀ x, x < M → g_ar S1 720 x = t4 x) (hP : ∀ y, y < M → t3 y = -1 ∨ ∃ p, p < y ∧ t3 y = nI p) (hE : ∀ x, x < M → ∀ e, e < x → t0 e = 2 → tx_cnt t3 t4 (nI e) 1 x = 0 → (t3 x = nI e ∧ t4 x = 1) ∨ r_an t3 t4 e x) (hF : ∀ x, x < M → t4 x = 1 → ∃ e, e < x ∧ t3 x = nI e ∧ t0 e = 2) (h : tl S1 M t3 t4 T q st S) (hT : T.length < 1000) (hs : x = 0 ∨ sk t0 t3 t4 (x - 1) x q st) : ∃ S' q' st', f_X7_closeBodies m S (nI x) = some S' ∧ tl S1 M t3 t4 (T ++ tx_pre t3 t4 x) q' st' S' ∧ sk t0 t3 t4 x (x + 1) q' st' := by
  have hS : ∀ {S : x_S} {T : List tx_T} {q : Nat} {st : Nat → Nat}, tl S1 M t3 t4 T q st S → g_sc S 715 = nI M ∧ (∀ x, x < M → g_ar S 719 x = t3 x) ∧ ∀ x, x < M → g_ar S 720 x = t4 x := fun h => ⟨(h.2.1 715 (by decide) (by decide)).trans h715, fun x hx => (h.1 719 x (by decide) (by decide)).trans (h9 x hx), fun x hx => (h.1 720 x (by decide) (by decide)).trans (h20 x hx)⟩
  obtain ⟨S', q', st', z1, z2, z3⟩ := cl_push (m := m) hM (show x ≤ M by omega) h0 hP h hs
  obtain ⟨k, rfl⟩ : ∃ k, m = k + 3 := ⟨m - 3, by omega⟩
  have ql := sk_le z3
  obtain ⟨b1, b2, b3⟩ := hS z2
  rw [z1]
  unfold f_X7_closeBodies_47 f_X7_closeBodies_59
  rw [x_l_e, z2.2.2.2.2.1]
  by_cases q0 : q' = 0
  · subst q0
    have np : ∀ e, e < x → t0 e = 2 → ¬ tx_cnt t3 t4 (nI e) 1 x = 0 := fun e a b c => by
      obtain ⟨i, hi, -⟩ := (z3.2 e).mpr ⟨a, b, c⟩
      exact absurd hi (Nat.not_lt_zero _)
    refine ⟨S', 0, st', ?_, ?_, fun i j _ hj => absurd hj (Nat.not_lt_zero _), fun e => ⟨fun ⟨i, hi, _⟩ => absurd hi (Nat.not_lt_zero _), fun ⟨a, b, c⟩ => ?_⟩⟩
    · rw [if_pos (show nI 0 ≤ 0 by decide)]
      exact cl_0 _ _
    · have e : tx_pre t3 t4 x = [] := by
        unfold tx_pre
        rw [if_neg]
        rintro ⟨a, b⟩
        obtain ⟨e, e1, e2, e3⟩ := hF x hx a
        rw [e2] at b
        exact np e e1 e3 b
      rw [e, List.append_nil]
      exact z2
    · rw [cnt_step] at c
      exact absurd (show tx_cnt t3 t4 (nI e) 1 x = 0 by omega) (np e a b)
  · obtain ⟨e1, e2, e3⟩ := (z3.2 (st' (q' - 1))).mp ⟨q' - 1, by omega, rfl⟩
    rw [if_neg (show ¬ nI q' ≤ 0 from nI_ge (a := 0) (show 0 < q' by omega) (by omega)), x_loop_s]
    rcases hE x hx _ e1 e2 e3 with ⟨ha, hb⟩ | ha
    · obtain ⟨S2, w1, w2⟩ := cl_pop (m := k + 3) (R60 := x_loop (fun rec z => f_X7_closeBodies_60 (k + 3) rec z.1 z.2.1 z.2.2) (k + 2)) hm hM hx b1 b2 b3 z2 hT (by omega) (by omega) (by omega) ha hb
      obtain ⟨c1, c2, c3⟩ := hS w2
      refine ⟨S2, q' - 1, st', ?_, ?_, fun i j hij hj => z3.1 i j hij (by omega), fun e' => ⟨?_, ?_⟩⟩
      · show f_X7_closeBodies_60 (k + 3) (x_loop (fun rec z => f_X7_closeBodies_60 (k + 3) rec z.1 z.2.1 z.2.2) (k + 2)) S' (nI x) 1 = _
        rw [w1]
        by_cases q1 : q' = 1
        · rw [if_pos q1]
          exact cl_0 _ _
        · rw [if_neg q1, x_loop_s]
          obtain ⟨f1, f2, f3⟩ := (z3.2 (st' (q' - 1 - 1))).mp ⟨q' - 1 - 1, by omega, rfl⟩
          have lt := z3.1 (q' - 1 - 1) (q' - 1) (by omega) (by omega)
          have an : r_an t3 t4 (st' (q' - 1 - 1)) x := by
            rcases hE x hx _ f1 f2 f3 with ⟨y, -⟩ | y
            · rw [ha, nI_eq (by omega) (by omega)] at y
              omega
            · exact y
          have sp := cl_stop (m := k + 3) (R60 := x_loop (fun rec z => f_X7_closeBodies_60 (k + 3) rec z.1 z.2.1 z.2.2) (k + 1)) hm hM hx c1 c2 c3 w2 (by omega) (by omega) (by omega) an
          show f_X7_closeBodies_60 (k + 3) (x_loop (fun rec z => f_X7_closeBodies_60 (k + 3) rec z.1 z.2.1 z.2.2) (k + 1)) S2 (nI x) 1 = _
          rw [sp]
          exact cl_0 _ _
      · have e : tx_pre t3 t4 x = [(1, nI (st' (q' - 1)), 1)] := by
          unfold tx_pre
          rw [if_pos ⟨hb, by rw [ha]; exact e3⟩, ha]
        rw [e]
        exact w2
      · rintro ⟨i, hi, rfl⟩
        obtain ⟨f1, f2, f3⟩ := (z3.2 (st' i)).mp ⟨i, by omega, rfl⟩
        have lt := z3.1 i (q' - 1) (by omega) (by omega)
        refine ⟨f1, f2, ?_⟩
        rw [cnt_step, f3, if_neg]
        rintro ⟨y, -⟩
        rw [ha, nI_eq (by omega) (by omega)] at y
        omega
      · rintro ⟨a, b, c⟩
        rw [cnt_step] at c
        obtain ⟨i, i1, i2⟩ := (z3.2 e').mpr ⟨a, b, by omega⟩
        by_cases iq : i = q' - 1
        · rw [iq] at i2
          rw [i2] at ha
          rw [if_pos ⟨ha, hb⟩] at c
          omega
        · exact ⟨i, by omega, i2⟩
    · have noA : ∀ e', (∃ i, i < q' ∧ st' i = e') → ¬ (t3 x = nI e' ∧ t4 x = 1) := by
        rintro e' ⟨i, hi, rfl⟩ ⟨p1, p2⟩
        obtain ⟨kk, g, k1, g0, g1, g2, g3, g4⟩ := ha
        have f1 := ((z3.2 (st' i)).mp ⟨i, hi, rfl⟩).1
        by_cases k0 : kk = 0
        · subst k0
          rw [g0, p2] at g4
          exact absurd g4 (by decide)
        · obtain ⟨y1, y2⟩ : t3 (g 0) = nI (g 1) ∧ g 1 ≠ st' (q' - 1) := g2 0 (by omega)
          have gb := g1 1 (by omega)
          rw [g0, p1, nI_eq (by omega) (by omega)] at y1
          have dec : ∀ j, 1 ≤ j → j ≤ kk → g j ≤ g 1 := by
            intro j
            induction j with
            | zero => intro a; omega
            | succ j ih =>
              intro a b
              by_cases j0 : j = 0
              · subst j0; exact Nat.le_refl _
              · have := ih (by omega) (by omega)
                obtain ⟨u1, u2⟩ := g2 j (by omega)
                have gj := g1 j (by omega)
                have gj1 := g1 (j + 1) (by omega)
                rcases hP (g j) (by omega) with v | ⟨p, v1, v2⟩
                · rw [v] at u1; exact absurd u1.symm (nI_m1 (by omega))
                · rw [v2, nI_eq (by omega) (by omega)] at u1
                  omega
          have d1 := dec kk (by omega) (Nat.le_refl _)
          have gk := g1 kk (Nat.le_refl _)
          have lt2 : st' (q' - 1) < g kk := by
            rcases hP (g kk) (by omega) with v | ⟨p, v1, v2⟩
            · rw [v] at g3; exact absurd g3.symm (nI_m1 (by omega))
            · rw [v2, nI_eq (by omega) (by omega)] at g3
              omega
          have ne : i ≠ q' - 1 := fun z => y2 (by rw [← y1, z])
          have := z3.1 i (q' - 1) (by omega) (by omega)
          omega
      have sp := cl_stop (m := k + 3) (R60 := x_loop (fun rec z => f_X7_closeBodies_60 (k + 3) rec z.1 z.2.1 z.2.2) (k + 2)) hm hM hx b1 b2 b3 z2 (by omega) (by omega) (by omega) ha
      refine ⟨S', q', st', ?_, ?_, z3.1, fun e' => ⟨fun z => ?_, fun ⟨a, b, c⟩ => ?_⟩⟩
      · show f_X7_closeBodies_60 (k + 3) (x_loop (fun rec z => f_X7_closeBodies_60 (k + 3) rec z.1 z.2.1 z.2.2) (k + 2)) S' (nI x) 1 = _
        rw [sp]
        exact cl_0 _ _
      · have e : tx_pre t3 t4 x = [] := by
          unfold tx_pre
          rw [if_neg]
          rintro ⟨a, b⟩
          obtain ⟨e, y1, y2, y3⟩ := hF x hx a
          rw [y2] at b
          exact noA e ((z3.2 e).mpr ⟨y1, y3, b⟩) ⟨y2, a⟩
        rw [e, List.append_nil]
        exact z2
      · obtain ⟨a, b, c⟩ := (z3.2 e').mp z
        refine ⟨a, b, ?_⟩
        rw [cnt_step, c, if_neg (noA e' z)]
      · rw [cnt_step] at c
        exact (z3.2 e').mpr ⟨a, b, by omega⟩
theorem cl_end (hm : 1000 ≤ m) (hM : M ≤ 60) (h0 : ∀ y, y < M → g_ar S1 716 y = t0 y) (hP : ∀ y, y < M → t3 y = -1 ∨ ∃ p, p < y ∧ t3 y = nI p) (hD : ∀ e, e < M → t0 e = 2 → ¬ tx_cnt t3 t4 (nI e) 1 M = 0) (h : tl S1 M t3 t4 T q st S) (hs : M = 0 ∨ sk t0 t3 t4 (M - 1) M q st) : ∃ S' q' st', f_X7_closeBodies m S (nI M) = some S' ∧ tl S1 M t3 t4 T q' st' S' := by
  obtain ⟨S', q', st', z1, z2, z3⟩ := cl_push (m := m) hM (Nat.le_refl M) h0 hP h hs
  obtain ⟨k, rfl⟩ : ∃ k, m = k + 1 := ⟨m - 1, by omega⟩
  have q0 : q' = 0 := by
    by_cases e : q' = 0
    · exact e
    · obtain ⟨a, b, c⟩ := (z3.2 (st' 0)).mp ⟨0, by omega, rfl⟩
      exact absurd c (hD _ a b)
  subst q0
  refine ⟨S', 0, st', ?_, z2⟩
  rw [z1]
  unfold f_X7_closeBodies_47 f_X7_closeBodies_59
  rw [x_l_e, z2.2.2.2.2.1, if_pos (show nI 0 ≤ 0 by decide)]
  exact cl_0 _ _
end
