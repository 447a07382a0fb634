/-! write: a BODY is over -/
/-- endLoop: from lo up to hi -/
def c_fl (lo hi : Nat) (bh bk : Int32) (S T : x_S) : Prop := frw S T ∧ (∀ j, g_sc T j = g_sc S j) ∧ (∀ j, g_rf T j = g_rf S j) ∧ (∀ j i, j ≠ 508 → g_ar T j i = g_ar S j i) ∧ (∀ j i, j ≠ 3 → g_pa T j 0 i = g_pa S j 0 i) ∧ (∀ i, g_ar T 508 i = if lo ≤ i ∧ i < hi ∧ ¬ g_ar S 508 i = -1 then -1 else g_ar S 508 i) ∧ ∀ i, g_pa T 3 0 i = if lo ≤ i ∧ i < hi ∧ ¬ g_ar S 508 i = -1 then (if g_ar S 508 i = 6 then bh else bk) else g_pa S 3 0 i
theorem c_fl_0 {lo hi : Nat} (h : hi ≤ lo) (bh bk : Int32) (S : x_S) : c_fl lo hi bh bk S S := ⟨frw_rf S, fun _ => rfl, fun _ => rfl, fun _ _ _ => rfl, fun _ _ _ => rfl, fun i => by rw [if_neg (by omega)], fun i => by rw [if_neg (by omega)]⟩
theorem c_fl_n {lo hi : Nat} {bh bk : Int32} {S T : x_S} (h : c_fl (lo + 1) hi bh bk S T) (e : g_ar S 508 lo = -1) : c_fl lo hi bh bk S T := by
  obtain ⟨h1, h2, h3, h4, h5, h6, h7⟩ := h
  refine ⟨h1, h2, h3, h4, h5, fun i => ?_, fun i => ?_⟩
  · rw [h6]
    by_cases q : i = lo
    · subst q
      rw [if_neg (by omega), if_neg (fun z => z.2.2 e)]
    · have : (lo + 1 ≤ i ∧ i < hi ∧ ¬ g_ar S 508 i = -1) ↔ (lo ≤ i ∧ i < hi ∧ ¬ g_ar S 508 i = -1) := ⟨fun z => ⟨by omega, z.2⟩, fun z => ⟨by omega, z.2⟩⟩
      simp only [this]
  · rw [h7]
    by_cases q : i = lo
    · subst q
      rw [if_neg (by omega), if_neg (fun z => z.2.2 e)]
    · have : (lo + 1 ≤ i ∧ i < hi ∧ ¬ g_ar S 508 i = -1) ↔ (lo ≤ i ∧ i < hi ∧ ¬ g_ar S 508 i = -1) := ⟨fun z => ⟨by omega, z.2⟩, fun z => ⟨by omega, z.2⟩⟩
      simp only [this]
theorem c_fl_y {lo hi : Nat} {bh bk : Int32} {S T : x_S} (hlo : lo < hi) (e : ¬ g_ar S 508 lo = -1) (h : c_fl (lo + 1) hi bh bk (s_ar (s_pa S 3 0 lo (if g_ar S 508 lo = 6 then bh else bk)) 508 lo (-1)) T) : c_fl lo hi bh bk S T := by
  obtain ⟨h1, h2, h3, h4, h5, h6, h7⟩ := h
  refine ⟨((frw_pa S 3 lo _).tr (frw_ar _ 508 lo _ (by decide) (by decide))).tr h1, fun j => h2 j, fun j => h3 j, fun j i hj => ?_, fun j i hj => ?_, fun i => ?_, fun i => ?_⟩
  · rw [h4 j i hj, q_ar_ar, if_neg (fun q => hj q.1), q_ar_pa]
  · rw [h5 j i hj, q_pa_ar, q_pa_pa, if_neg (fun q => hj q.1)]
  · rw [h6]
    simp only [q_ar_ar, q_ar_pa, true_and]
    by_cases q : i = lo
    · subst q
      rw [if_pos rfl, if_neg (by omega), if_pos ⟨Nat.le_refl _, hlo, e⟩]
    · simp only [if_neg q]
      have : (lo + 1 ≤ i ∧ i < hi ∧ ¬ g_ar S 508 i = -1) ↔ (lo ≤ i ∧ i < hi ∧ ¬ g_ar S 508 i = -1) := ⟨fun z => ⟨by omega, z.2⟩, fun z => ⟨by omega, z.2⟩⟩
      simp only [this]
  · rw [h7]
    simp only [q_ar_ar, q_ar_pa, q_pa_ar, q_pa_pa, true_and]
    by_cases q : i = lo
    · subst q
      have p1 : i ≤ i ∧ i < hi ∧ ¬ g_ar S 508 i = -1 := ⟨Nat.le_refl _, hlo, e⟩
      have n1 : ¬ i + 1 ≤ i := by omega
      simp only [n1, false_and, if_false, if_true]
      rw [if_pos p1]
    · simp only [if_neg q]
      have : (lo + 1 ≤ i ∧ i < hi ∧ ¬ g_ar S 508 i = -1) ↔ (lo ≤ i ∧ i < hi ∧ ¬ g_ar S 508 i = -1) := ⟨fun z => ⟨by omega, z.2⟩, fun z => ⟨by omega, z.2⟩⟩
      simp only [this]
theorem c_aim {n : Nat} {S : x_S} {s : Nat} (hs : s < 2 ^ 31) (h8 : 0 < g_np S) (v : Int32) : f_X5_aim n S (nI s) v = some (if s < 60 then s_pa S 3 0 s v else S) := by
  unfold f_X5_aim
  rw [if_neg (nI_pos hs)]
  by_cases e : s < 60
  · have c1 : ¬ (60 : Int32) ≤ nI s := nI_ge (a := s) (b := 60) e (by decide)
    have c3 := k_in (i := s) (L := 60) e (by omega)
    rw [if_neg c1, x_gt h8, x_gt h8, x_gt c3, nI_clamp hs, x_l_e, if_pos e]
  · have c1 : (60 : Int32) ≤ nI s := nI_le (a := 60) (by omega) hs
    rw [if_pos c1, if_neg e]
theorem c_l12 {n a : Nat} (ha : a < 1000) (bk : Int32) : ∀ k i : Nat, min a 60 - i = k → i < 2 ^ 31 → ∀ m : Nat, k < m → ∀ S : x_S, g_sc S 505 = nI a → 0 < g_np S → ∃ T, x_loop (fun rec z => f_X5_endLoop_12 n rec z.1 z.2.1 z.2.2) m (S, bk, nI i) = some T ∧ c_fl i (min a 60) (nI a) bk S T := by
  intro k
  induction k with
  | zero =>
    intro i hi hi2 m hm S h5 h8
    obtain ⟨m, rfl⟩ : ∃ q, m = q + 1 := ⟨m - 1, by omega⟩
    rw [x_loop_s]
    refine ⟨S, ?_, c_fl_0 (by omega) _ _ _⟩
    generalize x_loop (fun rec z => f_X5_endLoop_12 n rec z.1 z.2.1 z.2.2) m = R
    show f_X5_endLoop_12 n R S bk (nI i) = some S
    unfold f_X5_endLoop_12
    rw [x_l_e, h5]
    by_cases q : a ≤ i
    · rw [if_pos (nI_le q hi2)]
    · rw [if_neg (nI_ge (by omega) (by omega)), if_pos (show (60 : Int32) ≤ nI i from nI_le (a := 60) (by omega) hi2)]
  | succ k ih =>
    intro i hi hi2 m hm S h5 h8
    obtain ⟨m, rfl⟩ : ∃ q, m = q + 1 := ⟨m - 1, by omega⟩
    rw [x_loop_s]
    generalize hL : x_loop (fun rec z => f_X5_endLoop_12 n rec z.1 z.2.1 z.2.2) m = R
    have ih' := ih (i + 1) (by omega) (by omega) m (by omega)
    rw [hL] at ih'
    have c1 : ¬ nI a ≤ nI i := nI_ge (by omega) (by omega)
    have c2 : ¬ (60 : Int32) ≤ nI i := nI_ge (a := i) (b := 60) (by omega) (by decide)
    have c3 := k_in (i := i) (L := 60) (by omega) (by omega)
    have c4 := nI_clamp hi2
    show ∃ T, f_X5_endLoop_12 n R S bk (nI i) = some T ∧ _
    unfold f_X5_endLoop_12
    rw [x_l_e, h5, if_neg c1, if_neg c2, x_gt c3, c4, x_l_e]
    by_cases e : g_ar S 508 i = -1
    · rw [if_pos e]
      unfold f_X5_endLoop_67
      rw [nI_1]
      obtain ⟨T, t1, t2⟩ := ih' S h5 h8
      exact ⟨T, t1, c_fl_n t2 e⟩
    · rw [if_neg e]
      have hi60 : i < 60 := by omega
      have e57 : ∀ v : Int32, f_X5_endLoop_57 n R S bk (nI i) v (nI i) = R (s_ar (s_pa S 3 0 i v) 508 i (-1), bk, nI (i + 1)) := by
        intro v
        unfold f_X5_endLoop_57 f_X5_endLoop_67
        rw [c_aim hi2 h8, x_b_s, x_gt c3, c4, x_l_e, nI_1, if_pos hi60]
      obtain ⟨T, t1, t2⟩ := ih' (s_ar (s_pa S 3 0 i (if g_ar S 508 i = 6 then nI a else bk)) 508 i (-1)) h5 h8
      refine ⟨T, ?_, c_fl_y (by omega) e t2⟩
      rw [x_l_e, x_l_e, x_gt (show ¬ (nI i < 0 ∨ 60 ≤ i) from k_in2 hi60 hi2), e57, e57, ← t1]
      by_cases q : g_ar S 508 i = 6
      · rw [if_pos q, if_pos q]
      · rw [if_neg q, if_neg q]
theorem c_endLoop {n a g : Nat} (ha : a < 1000) (hg : g ≤ a) (hn : 1000 ≤ n) (bk : Int32) {S : x_S} (h5 : g_sc S 505 = nI a) (h8 : 0 < g_np S) : ∃ T, f_X5_endLoop n S (nI g) bk = some T ∧ c_fl g (min a 60) (nI a) bk (s_sc S 507 (g_sc S 507 - 1)) T := by
  unfold f_X5_endLoop
  rw [x_l_e, x_l_e]
  exact c_l12 ha bk _ g rfl (by omega) n (by omega) _ ((y_sn _ _ _ _ (by decide)).trans h5) h8
/-- close -/
def m_fl (lo hi : Nat) (w bh bk : Int32) (S T : x_S) : Prop := fr_m S T ∧ (∀ j, g_sc T j = g_sc S j) ∧ (∀ j i, j ≠ 742 → j ≠ 743 → g_ar T j i = g_ar S j i) ∧ (∀ i, g_ar T 743 i = if lo ≤ i ∧ i < hi ∧ ¬ g_ar S 743 i ≤ 0 ∧ g_ar S 744 i = w then 0 else g_ar S 743 i) ∧ ∀ i, g_ar T 742 i = if lo ≤ i ∧ i < hi ∧ ¬ g_ar S 743 i ≤ 0 ∧ g_ar S 744 i = w then (if g_ar S 743 i = 1 then bh else bk) else g_ar S 742 i
theorem m_fl_0 {lo hi : Nat} (h : hi ≤ lo) (w bh bk : Int32) (S : x_S) : m_fl lo hi w bh bk S S := ⟨fr_m_rf S, fun _ => rfl, fun _ _ _ _ => rfl, fun i => by rw [if_neg (by omega)], fun i => by rw [if_neg (by omega)]⟩
theorem m_fl_n {lo hi : Nat} {w bh bk : Int32} {S T : x_S} (h : m_fl (lo + 1) hi w bh bk S T) (e : ¬ (¬ g_ar S 743 lo ≤ 0 ∧ g_ar S 744 lo = w)) : m_fl lo hi w bh bk S T := by
  obtain ⟨h1, h2, h4, h6, h7⟩ := h
  refine ⟨h1, h2, h4, fun i => ?_, fun i => ?_⟩
  · rw [h6]
    by_cases q : i = lo
    · subst q
      rw [if_neg (by omega), if_neg (fun z => e z.2.2)]
    · have : (lo + 1 ≤ i ∧ i < hi ∧ ¬ g_ar S 743 i ≤ 0 ∧ g_ar S 744 i = w) ↔ (lo ≤ i ∧ i < hi ∧ ¬ g_ar S 743 i ≤ 0 ∧ g_ar S 744 i = w) := ⟨fun z => ⟨by omega, z.2⟩, fun z => ⟨by omega, z.2⟩⟩
      simp only [this]
  · rw [h7]
    by_cases q : i = lo
    · subst q
      rw [if_neg (by omega), if_neg (fun z => e z.2.2)]
    · have : (lo + 1 ≤ i ∧ i < hi ∧ ¬ g_ar S 743 i ≤ 0 ∧ g_ar S 744 i = w) ↔ (lo ≤ i ∧ i < hi ∧ ¬ g_ar S 743 i ≤ 0 ∧ g_ar S 744 i = w) := ⟨fun z => ⟨by omega, z.2⟩, fun z => ⟨by omega, z.2⟩⟩
      simp only [this]
theorem m_fl_y {lo hi : Nat} {w bh bk : Int32} {S T : x_S} (hlo : lo < hi) (e : ¬ g_ar S 743 lo ≤ 0 ∧ g_ar S 744 lo = w) (h : m_fl (lo + 1) hi w bh bk (s_ar (s_ar S 742 lo (if g_ar S 743 lo = 1 then bh else bk)) 743 lo 0) T) : m_fl lo hi w bh bk S T := by
  obtain ⟨h1, h2, h4, h6, h7⟩ := h
  refine ⟨((fr_m_ar S 742 lo _ (by decide)).tr (fr_m_ar _ 743 lo _ (by decide))).tr h1, fun j => h2 j, fun j i hj hj2 => ?_, fun i => ?_, fun i => ?_⟩
  · rw [h4 j i hj hj2, q_ar_ar, if_neg (fun q => hj2 q.1), q_ar_ar, if_neg (fun q => hj q.1)]
  · rw [h6]
    simp only [q_ar_ar, Nat.reduceEqDiff, false_and, if_false, true_and]
    by_cases q : i = lo
    · subst q
      rw [if_pos rfl, if_neg (by omega), if_pos ⟨Nat.le_refl _, hlo, e⟩]
    · simp only [if_neg q]
      have : (lo + 1 ≤ i ∧ i < hi ∧ ¬ g_ar S 743 i ≤ 0 ∧ g_ar S 744 i = w) ↔ (lo ≤ i ∧ i < hi ∧ ¬ g_ar S 743 i ≤ 0 ∧ g_ar S 744 i = w) := ⟨fun z => ⟨by omega, z.2⟩, fun z => ⟨by omega, z.2⟩⟩
      simp only [this]
  · rw [h7]
    simp only [q_ar_ar, Nat.reduceEqDiff, false_and, if_false, true_and]
    by_cases q : i = lo
    · subst q
      have p1 : i ≤ i ∧ i < hi ∧ ¬ g_ar S 743 i ≤ 0 ∧ g_ar S 744 i = w := ⟨Nat.le_refl _, hlo, e⟩
      have n1 : ¬ i + 1 ≤ i := by omega
      simp only [n1, false_and, if_false, if_true]
      rw [if_pos p1]
    · simp only [if_neg q]
      have : (lo + 1 ≤ i ∧ i < hi ∧ ¬ g_ar S 743 i ≤ 0 ∧ g_ar S 744 i = w) ↔ (lo ≤ i ∧ i < hi ∧ ¬ g_ar S 743 i ≤ 0 ∧ g_ar S 744 i = w) := ⟨fun z => ⟨by omega, z.2⟩, fun z => ⟨by omega, z.2⟩⟩
      simp only [this]
theorem m_l2 {n a d : Nat} (ha : a ≤ 400) (bh bk : Int32) : ∀ k i : Nat, i + k = a → ∀ m : Nat, k < m → ∀ S : x_S, g_sc S 738 = nI a → g_sc S 745 = nI (d + 1) → ∃ T, x_loop (fun rec z => f_X7_close_2 n rec z.1 z.2.1 z.2.2.1 z.2.2.2) m (S, bh, bk, nI i) = some T ∧ m_fl i a (nI d) bh bk S T := by
  intro k
  induction k with
  | zero =>
    intro i hi m hm S h5 h7
    obtain ⟨m, rfl⟩ : ∃ q, m = q + 1 := ⟨m - 1, by omega⟩
    rw [x_loop_s]
    refine ⟨S, ?_, m_fl_0 (by omega) _ _ _ _⟩
    generalize x_loop (fun rec z => f_X7_close_2 n rec z.1 z.2.1 z.2.2.1 z.2.2.2) m = R
    show f_X7_close_2 n R S bh bk (nI i) = some S
    unfold f_X7_close_2
    rw [x_l_e, h5, if_pos (nI_le (by omega) (by omega))]
  | succ k ih =>
    intro i hi m hm S h5 h7
    obtain ⟨m, rfl⟩ : ∃ q, m = q + 1 := ⟨m - 1, by omega⟩
    rw [x_loop_s]
    generalize hL : x_loop (fun rec z => f_X7_close_2 n rec z.1 z.2.1 z.2.2.1 z.2.2.2) m = R
    have ih' := ih (i + 1) (by omega) m (by omega)
    rw [hL] at ih'
    have hi2 : i < 2 ^ 31 := by omega
    have c1 : ¬ nI a ≤ nI i := nI_ge (by omega) (by omega)
    have c3 := k_in (i := i) (L := 400) (by omega) (by omega)
    have c4 := nI_clamp hi2
    show ∃ T, f_X7_close_2 n R S bh bk (nI i) = some T ∧ _
    unfold f_X7_close_2
    rw [x_l_e, h5, if_neg c1, x_gt c3, c4, x_l_e]
    have e62 : ∀ T, f_X7_close_62 n R T bh bk (nI i) = R (T, bh, bk, nI (i + 1)) := by
      intro T
      unfold f_X7_close_62
      rw [nI_1]
    by_cases e : g_ar S 743 i ≤ 0
    · rw [if_pos e, e62]
      obtain ⟨T, t1, t2⟩ := ih' S h5 h7
      exact ⟨T, t1, m_fl_n t2 (fun q => q.1 e)⟩
    · have c5 := k_in2 (show i < 400 by omega) hi2
      rw [if_neg e, x_gt c5, x_l_e, x_l_e, h7, nI_pred]
      by_cases e2 : g_ar S 744 i = nI d
      · have e54 : ∀ v : Int32, f_X7_close_54 n R S bh bk (nI i) v (nI i) = R (s_ar (s_ar S 742 i v) 743 i 0, bh, bk, nI (i + 1)) := by
          intro v
          unfold f_X7_close_54
          rw [x_gt c3, c4, x_l_e, x_gt c5, x_l_e, e62]
        obtain ⟨T, t1, t2⟩ := ih' (s_ar (s_ar S 742 i (if g_ar S 743 i = 1 then bh else bk)) 743 i 0) h5 h7
        refine ⟨T, ?_, m_fl_y (by omega) ⟨e, e2⟩ t2⟩
        rw [if_pos e2, x_gt c5, x_l_e, e54, e54, ← t1]
        by_cases q : g_ar S 743 i = 1
        · rw [if_pos q, if_pos q]
        · rw [if_neg q, if_neg q]
      · rw [if_neg e2, e62]
        obtain ⟨T, t1, t2⟩ := ih' S h5 h7
        exact ⟨T, t1, m_fl_n t2 (fun q => e2 q.2)⟩
theorem m_close {n a d : Nat} (ha : a ≤ 400) (hn : 1000 ≤ n) (bh bk : Int32) {S : x_S} (h5 : g_sc S 738 = nI a) (h7 : g_sc S 745 = nI (d + 1)) : ∃ T, f_X7_close n S bh bk = some T ∧ m_fl 0 a (nI d) bh bk S T := by
  unfold f_X7_close
  exact m_l2 ha bh bk a 0 (by omega) n (by omega) S h5 h7
