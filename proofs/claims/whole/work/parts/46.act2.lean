/-! judgeWhole, act, alter -/
theorem s_ps_ps (S : x_S) (k i : Nat) (a b : Int32) : s_ps (s_ps S k i a) k i b = s_ps S k i b := by
  unfold s_ps
  have : va_up (va_up S.2.2.2.1 k (upd (S.2.2.2.1 k) i a)) k (upd (va_up S.2.2.2.1 k (upd (S.2.2.2.1 k) i a) k) i b) = va_up S.2.2.2.1 k (upd (S.2.2.2.1 k) i b) := by
    funext x
    unfold va_up
    by_cases h : x = k
    · subst h
      simp only [if_true]
      funext y
      unfold upd
      by_cases h2 : y = i <;> simp [h2]
    · simp [h]
  simp only [this]
def jw_P (E : Nat → Prop) (L j : Nat) (x v : Int32) : Prop := (v = x ∧ ∀ l, j ≤ l → l < L → E l) ∨ (v = 0 ∧ ∃ l, j ≤ l ∧ l < L ∧ ¬ E l)
theorem e_judgeL (n : Nat) (S : x_S) (i L : Nat) (hi : i < g_np S) (hL : L ≤ 60) (h4 : g_ps S 4 i = nI L) : ∀ (d j k : Nat) (x : Int32), j ≤ L → L - j = d → d < k → ∃ v, jw_P (fun l => g_pa S 3 i l ≤ nI L) L j x v ∧ x_loop (fun rec z => f_X2_judgeWhole_7 n rec z.1 z.2.1 z.2.2) k (s_ps S 5 i x, i, nI j) = some (s_ps S 5 i v) := by
  have p1 : ∀ x : Int32, g_ps (s_ps S 5 i x) 4 i = nI L := fun x => by simp [q_ps_ps, h4]
  have p2 : ∀ (x : Int32), i < g_np (s_ps S 5 i x) := fun x => hi
  intro d
  induction d with
  | zero =>
    intro j k x hjL hd hk
    obtain ⟨k, rfl⟩ : ∃ z, k = z + 1 := ⟨k - 1, by omega⟩
    refine ⟨x, Or.inl ⟨rfl, fun l a b => by omega⟩, ?_⟩
    rw [x_loop_s]
    simp only [f_X2_judgeWhole_7, x_gt (p2 x), x_l_e, p1, if_pos (nI_le (show L ≤ j by omega) (by omega))]
  | succ d ih =>
    intro j k x hjL hd hk
    obtain ⟨k, rfl⟩ : ∃ z, k = z + 1 := ⟨k - 1, by omega⟩
    have hj : j < L := by omega
    have hj2 : j < 2 ^ 31 := by omega
    have c3 := k_in2 (show j < 60 by omega) hj2
    have c4 := nI_clamp hj2
    rw [x_loop_s]
    simp only [f_X2_judgeWhole_7, f_X2_judgeWhole_33, x_gt (p2 x), x_l_e, p1, if_neg (nI_ge hj (by omega)), c4, x_gt c3, q_pa_ps, nI_1, true_or, x_gT, s_ps_ps]
    by_cases e : g_pa S 3 i j ≤ nI L
    · rw [if_pos e]
      obtain ⟨v, hv, he⟩ := ih (j + 1) k x (by omega) (by omega) (by omega)
      refine ⟨v, ?_, he⟩
      rcases hv with ⟨a, b⟩ | ⟨a, l, b, c, f⟩
      · refine Or.inl ⟨a, fun l h1 h2 => ?_⟩
        rcases Nat.lt_or_ge j l with q | q
        · exact b l q h2
        · have : l = j := by omega
          rw [this]; exact e
      · exact Or.inr ⟨a, l, by omega, c, f⟩
    · rw [if_neg e]
      obtain ⟨v, hv, he⟩ := ih (j + 1) k 0 (by omega) (by omega) (by omega)
      refine ⟨v, ?_, he⟩
      refine Or.inr ⟨?_, j, Nat.le_refl _, hj, e⟩
      rcases hv with ⟨a, b⟩ | ⟨a, b⟩
      · exact a
      · exact a
theorem e_judge (n : Nat) (hn : 1000 ≤ n) (S : x_S) (i L : Nat) (hi : i < g_np S) (hL : L ≤ 60) (h4 : g_ps S 4 i = nI L) : ∃ v, ((v = 1 ∧ ∀ l, l < L → g_pa S 3 i l ≤ nI L) ∨ (v = 0 ∧ ¬ ∀ l, l < L → g_pa S 3 i l ≤ nI L)) ∧ f_X2_judgeWhole n S i = some (s_ps S 5 i v) := by
  obtain ⟨v, hv, he⟩ := e_judgeL n S i L hi hL h4 L 0 n 1 (Nat.zero_le _) rfl (by omega)
  refine ⟨v, ?_, ?_⟩
  · rcases hv with ⟨a, b⟩ | ⟨a, l, b, c, d⟩
    · exact Or.inl ⟨a, fun l hl => b l (Nat.zero_le _) hl⟩
    · exact Or.inr ⟨a, fun q => d (q l c)⟩
  · unfold f_X2_judgeWhole
    rw [x_gt hi, z_g1, x_l_e]
    exact he
theorem iv_change {N r L M j : Nat} {Sc Sm Sc1 Sm1 : x_S} {k a b c : Int32} (hN : iv_N N Sc Sm) (hr : r < N) (hL : iv_one L r Sc Sm) (hM : M ≤ 60) (hj : j < M) (hML : ∀ i, i < M → i ≠ j → i < L) (hok : okA k a b c)
    (s1 : ∀ x, x ≠ 603 → g_sc Sc1 x = g_sc Sc x) (s603 : g_sc Sc1 603 = -1) (ar1 : ∀ x y, g_ar Sc1 x y = g_ar Sc x y) (np1 : g_np Sc1 = g_np Sc) (rf1 : ∀ x, g_rf Sc1 x = g_rf Sc x) (ra1 : ∀ x y, g_ra Sc1 x y = g_ra Sc x y)
    (ps1 : ∀ x q, q ≠ r + 1 → g_ps Sc1 x q = g_ps Sc x q) (ps4 : g_ps Sc1 4 (r + 1) = nI M) (pa1 : ∀ x q i, (q ≠ r + 1 ∨ i ≠ j) → g_pa Sc1 x q i = g_pa Sc x q i) (pj : g_pa Sc1 0 (r + 1) j = k ∧ g_pa Sc1 1 (r + 1) j = n_a k a ∧ g_pa Sc1 2 (r + 1) j = n_b k b ∧ g_pa Sc1 3 (r + 1) j = n_c k c)
    (wh : (g_ps Sc1 5 (r + 1) = 1 ∧ ∀ i, i < M → g_pa Sc1 3 (r + 1) i ≤ nI M) ∨ (g_ps Sc1 5 (r + 1) = 0 ∧ ¬ ∀ i, i < M → g_pa Sc1 3 (r + 1) i ≤ nI M))
    (m1 : ∀ x, g_sc Sm1 x = g_sc Sm x) (ma : ∀ x y, ¬ (x = 701 ∧ y = r) → ¬ ((x = 702 ∨ x = 703 ∨ x = 704 ∨ x = 705) ∧ y = 60 * r + j) → g_ar Sm1 x y = g_ar Sm x y) (m701 : g_ar Sm1 701 r = nI M) (mj : g_ar Sm1 702 (60 * r + j) = k ∧ g_ar Sm1 703 (60 * r + j) = n_a k a ∧ g_ar Sm1 704 (60 * r + j) = n_b k b ∧ g_ar Sm1 705 (60 * r + j) = n_c k c) : INV Sc1 Sm1 := by
  obtain ⟨⟨h1, h2, h3, h4, h5, h6, h7⟩, ⟨k2, k2b⟩, ⟨t, t1, t2, t3, t4⟩, k4, ⟨r1, r2, ⟨o, o1, o2, o3, o4⟩, r4⟩, k6, k7⟩ := hN
  have mx : ∀ x y, x ≠ 701 → ¬ (x = 702 ∨ x = 703 ∨ x = 704 ∨ x = 705) → g_ar Sm1 x y = g_ar Sm x y := fun x y e1 e2 => ma x y (fun q => e1 q.1) (fun q => e2 q.1)
  obtain ⟨l1, l2, l3, l4, l5⟩ := hL
  have hmi : ∀ i, i ≠ j → ∀ x, (x = 702 ∨ x = 703 ∨ x = 704 ∨ x = 705) → g_ar Sm1 x (60 * r + i) = g_ar Sm x (60 * r + i) := fun i hi x hx => ma x _ (fun q => by rcases hx with e | e | e | e <;> omega) (fun q => hi (by omega))
  have hact : iv_acts M r Sc1 Sm1 := by
    intro i hi
    by_cases e : i = j
    · subst e
      obtain ⟨p1, p2, p3, p4⟩ := pj
      obtain ⟨q1, q2, q3, q4⟩ := mj
      rw [p1, p2, p3, p4, q1, q2, q3, q4]
      exact ⟨rfl, rfl, rfl, rfl, okA_ok hok⟩
    · rw [pa1 0 _ i (Or.inr e), pa1 1 _ i (Or.inr e), pa1 2 _ i (Or.inr e), pa1 3 _ i (Or.inr e), hmi i e 702 (by decide), hmi i e 703 (by decide), hmi i e 704 (by decide), hmi i e 705 (by decide)]
      exact l4 i (hML i hi e)
  have hwh : iv_whole M r Sm1 ↔ ∀ i, i < M → g_pa Sc1 3 (r + 1) i ≤ nI M := by
    constructor
    · intro q i hi
      rw [(hact i hi).2.2.2.1]
      exact q i hi
    · intro q i hi
      rw [← (hact i hi).2.2.2.1]
      exact q i hi
  refine ⟨N, ⟨h1, (m1 700).trans h2, (s1 601 (by decide)).trans h3, np1.trans h4, fun q hq => (ra1 600 q).trans (h5 q hq), fun q hq => (ra1 600 q).trans (h6 q hq), fun q hq => ?_⟩, ⟨fun x i hi => ?_, fun x y i hi => ?_⟩, ⟨t, t1, (s1 606 (by decide)).trans t2, (m1 708).trans t3, fun i hi => ?_⟩, fun i hi => ?_, ⟨?_, ?_, ⟨o, o1, (s1 302 (by decide)).trans o2, (m1 712).trans o3, fun i hi => ?_⟩, fun i hi => ?_⟩, ?_, Or.inl s603⟩
  · by_cases e : q = r
    · subst e
      refine ⟨M, hM, m701, ps4, hact, ?_⟩
      rw [hwh]
      exact wh
    · obtain ⟨L2, hL2⟩ := h7 q hq
      refine ⟨L2, iv_one_mono hL2 (ma 701 q (fun z => e z.2) (fun z => by rcases z.1 with y | y | y | y <;> omega)) (fun x => ps1 x _ (by omega)) (fun x i => pa1 x _ i (Or.inl (by omega))) (fun i hi => ?_)⟩
      have hz : ∀ x, (x = 702 ∨ x = 703 ∨ x = 704 ∨ x = 705) → g_ar Sm1 x (60 * q + i) = g_ar Sm x (60 * q + i) := fun x hx => ma x _ (fun z => by rcases hx with y | y | y | y <;> omega) (fun z => by omega)
      exact ⟨hz 702 (by decide), hz 703 (by decide), hz 704 (by decide), hz 705 (by decide)⟩
  · rw [np1]; rw [rf1] at hi; exact k2 x i hi
  · rw [np1]; rw [ra1] at hi; exact k2b x y i hi
  · rw [ar1, mx 707 i (by decide) (by decide)]; exact t4 i hi
  · rw [ar1, mx 706 i (by decide) (by decide)]; exact k4 i hi
  · rw [s1 300 (by decide), m1]; exact r1
  · rw [s1 301 (by decide), m1]; exact r2
  · rw [ar1, mx 713 i (by decide) (by decide)]; exact o4 i hi
  · rw [ar1, mx 714 i (by decide) (by decide)]; exact r4 i hi
  · rw [s1 608 (by decide), m1]; exact k6
theorem e_change (n : Nat) (hn : 1000 ≤ n) (S : x_S) (i j L : Nat) (k a b c : Int32) (hi : i < g_np S) (hj : j < 60) (hL : L ≤ 60) (h4 : g_ps S 4 i = nI L) : ∃ v, ((v = 1 ∧ ∀ l, l < L → g_pa (s_put S i j k a b c) 3 i l ≤ nI L) ∨ (v = 0 ∧ ¬ ∀ l, l < L → g_pa (s_put S i j k a b c) 3 i l ≤ nI L)) ∧ f_X6_change n S i (nI j) k a b c = some (s_sc (s_ps (s_put S i j k a b c) 5 i v) 603 (-1)) := by
  have hi2 : i < g_np (s_put S i j k a b c) := hi
  have h42 : g_ps (s_put S i j k a b c) 4 i = nI L := h4
  obtain ⟨v, hv, he⟩ := e_judge n hn (s_put S i j k a b c) i L hi2 hL h42
  refine ⟨v, hv, ?_⟩
  unfold f_X6_change
  rw [x_gt hi, e_put n S i j k a b c hi hj, x_b_s, x_gt hi2, he, x_b_s, x_l_e]
