/-! the class's Reach -/
def rc_cl (L : Nat) (K C : Nat → Int32) (S : x_S) (a : Nat) : Prop := ∀ b, cm_edge K C a b → b < L → g_ar S 0 b = 1
def rc_i (L : Nat) (K C : Nat → Int32) (t : Nat) (X : Nat → Prop) (S : x_S) : Prop := ∃ w, g_sc S 2 = nI w ∧ g_sc S 3 = nI (cm_cnt (fun i => g_ar S 0 i) L) ∧ w + t = cm_cnt (fun i => g_ar S 0 i) L ∧ (∀ i, i < L → g_ar S 0 i = 0 ∨ g_ar S 0 i = 1) ∧ (∀ i, i < L → g_ar S 0 i = 1 → cm_R L K C i) ∧ (∀ j, j < w → ∃ k, k < L ∧ g_ar S 1 j = nI k ∧ g_ar S 0 k = 1) ∧ ∀ a, a < L → g_ar S 0 a = 1 → X a ∨ (∃ j, j < w ∧ g_ar S 1 j = nI a) ∨ rc_cl L K C S a
/-- a ROUTINE as Reach sees it -/
def rc_s (L i : Nat) (K C : Nat → Int32) (S : x_S) : Prop := L ≤ 60 ∧ i < g_np S ∧ g_ps S 4 i = nI L ∧ (∀ j, g_pa S 0 i j = K j) ∧ ∀ j, g_pa S 3 i j = C j
theorem rc_s.fr {L i : Nat} {K C : Nat → Int32} {S S1 : x_S} (h : rc_s L i K C S) (f : fr_c S S1) : rc_s L i K C S1 := ⟨h.1, by rw [f.2.2.1]; exact h.2.1, (f.2.2.2.1 4 i).trans h.2.2.1, fun j => (f.2.2.2.2.1 0 i j).trans (h.2.2.2.1 j), fun j => (f.2.2.2.2.1 3 i j).trans (h.2.2.2.2 j)⟩
theorem rc_meet (n : Nat) {L i k t : Nat} {K C : Nat → Int32} {X : Nat → Prop} {S : x_S} (hs : rc_s L i K C S) (hc : rc_i L K C t X S) (hk : k < 2 ^ 31) (hR : cm_R L K C k) : ∃ S1, f_X0_meet n S i (nI k) = some S1 ∧ fr_c S S1 ∧ rc_i L K C t X S1 ∧ (k < L → g_ar S1 0 k = 1) ∧ ∀ j, g_ar S 0 j = 1 → g_ar S1 0 j = 1 := by
  obtain ⟨s1, s2, s3, s4, s5⟩ := hs
  obtain ⟨w, w1, w2, w3, w4, w5, w6, w7⟩ := id hc
  by_cases hkL : k < L
  · have c3 := k_in2 (show k < 60 by omega) hk
    have c4 := nI_clamp hk
    have eh := e_has n s2 s3 hkL s1
    rcases w4 k hkL with h0 | h1
    · obtain ⟨u1, u2⟩ := cm_cnt_set (f := fun i => g_ar S 0 i) h0 L hkL
      have hw : w < 60 := by omega
      have hw2 : w < 2 ^ 31 := by omega
      have d3 := k_in2 hw hw2
      have d4 := nI_clamp hw2
      have eA : ∀ j, g_ar (s_sc (s_ar (s_sc (s_ar S 0 k 1) 3 (nI (cm_cnt (fun i => g_ar S 0 i) L + 1))) 1 w (nI k)) 2 (nI (w + 1))) 0 j = if j = k then 1 else g_ar S 0 j := by
        intro j
        simp only [q_ar_sc, q_ar_ar, Nat.reduceEqDiff, Nat.zero_ne_one, false_and, if_false, true_and]
      have eB : ∀ j, g_ar (s_sc (s_ar (s_sc (s_ar S 0 k 1) 3 (nI (cm_cnt (fun i => g_ar S 0 i) L + 1))) 1 w (nI k)) 2 (nI (w + 1))) 1 j = if j = w then nI k else g_ar S 1 j := by
        intro j
        simp only [q_ar_sc, q_ar_ar, Nat.one_ne_zero, false_and, if_false, true_and]
      refine ⟨s_sc (s_ar (s_sc (s_ar S 0 k 1) 3 (nI (cm_cnt (fun i => g_ar S 0 i) L + 1))) 1 w (nI k)) 2 (nI (w + 1)), ?_, ?_, ?_, fun _ => ?_, fun j hj => ?_⟩
      · simp only [f_X0_meet, x_gt s2, eh, x_b2_s, if_neg i_10, c4, x_gt c3, x_l_e, h0, if_true, q_sc_ar, w2, nI_1, q_sc_sc, Nat.reduceEqDiff, if_false, w1, d4, x_gt d3]
      · exact (((fr_c_ar S 0 k 1 (by decide)).tr (fr_c_sc _ 3 _ (by decide))).tr (fr_c_ar _ 1 w _ (by decide))).tr (fr_c_sc _ 2 _ (by decide))
      · refine ⟨w + 1, rfl, ?_, ?_, fun j hj => ?_, fun j hj h => ?_, fun j hj => ?_, fun a ha h => ?_⟩
        · rw [funext eA, u1]; rfl
        · rw [funext eA, u1]; omega
        · rw [eA]
          by_cases e : j = k
          · rw [if_pos e]; exact Or.inr rfl
          · rw [if_neg e]; exact w4 j hj
        · rw [eA] at h
          by_cases e : j = k
          · rw [e]; exact hR
          · rw [if_neg e] at h; exact w5 j hj h
        · rw [eB]
          by_cases e : j = w
          · rw [if_pos e]; exact ⟨k, hkL, rfl, by rw [eA, if_pos rfl]⟩
          · rw [if_neg e]
            obtain ⟨y, y1, y2, y3⟩ := w6 j (by omega)
            refine ⟨y, y1, y2, ?_⟩
            rw [eA]
            by_cases e3 : y = k
            · rw [if_pos e3]
            · rw [if_neg e3]; exact y3
        · by_cases e : a = k
          · refine Or.inr (Or.inl ⟨w, by omega, ?_⟩)
            rw [eB, if_pos rfl, e]
          · rw [eA, if_neg e] at h
            rcases w7 a ha h with q | ⟨j, j1, j2⟩ | q
            · exact Or.inl q
            · refine Or.inr (Or.inl ⟨j, by omega, ?_⟩)
              rw [eB, if_neg (by omega)]; exact j2
            · refine Or.inr (Or.inr (fun b hb hbL => ?_))
              rw [eA]
              by_cases e2 : b = k
              · rw [if_pos e2]
              · rw [if_neg e2]; exact q b hb hbL
      · rw [eA, if_pos rfl]
      · rw [eA]
        by_cases e : j = k
        · rw [if_pos e]
        · rw [if_neg e]; exact hj
    · refine ⟨S, ?_, fr_c_rf S, hc, fun _ => h1, fun j hj => hj⟩
      simp only [f_X0_meet, x_gt s2, eh, x_b2_s, if_neg i_10, c4, x_gt c3, x_l_e, h1]
  · refine ⟨S, ?_, fr_c_rf S, hc, fun q => absurd q hkL, fun j hj => hj⟩
    have eh := e_has_no n s2 s3 (Or.inr (nI_le (show L ≤ k by omega) hk))
    simp only [f_X0_meet, x_gt s2, eh, x_b2_s, if_true]
theorem rc_follow (n : Nat) {L i k t : Nat} {K C : Nat → Int32} {X : Nat → Prop} {S : x_S} (hs : rc_s L i K C S) (hc : rc_i L K C t X S) (hk : k < L) (hR : cm_R L K C k) (hC : (K k = 2 ∨ K k = 3) → ∃ c, c < 2 ^ 31 ∧ C k = nI c) : ∃ S1, f_X0_follow n S i (nI k) = some S1 ∧ fr_c S S1 ∧ rc_i L K C t X S1 ∧ rc_cl L K C S1 k ∧ ∀ j, g_ar S 0 j = 1 → g_ar S1 0 j = 1 := by
  obtain ⟨s1, s2, s3, s4, s5⟩ := id hs
  have hk2 : k < 2 ^ 31 := by omega
  have c3 := k_in2 (show k < 60 by omega) hk2
  have c4 := nI_clamp hk2
  -- the second half
  have half : ∀ S0, rc_s L i K C S0 → rc_i L K C t X S0 → ∃ S1, f_X0_follow_25 n S0 i (nI k) (K k) = some S1 ∧ fr_c S0 S1 ∧ rc_i L K C t X S1 ∧ ((¬ K k = 2 ∧ ¬ K k = 4) → k + 1 < L → g_ar S1 0 (k + 1) = 1) ∧ ∀ j, g_ar S0 0 j = 1 → g_ar S1 0 j = 1 := by
    intro S0 hs0 hc0
    by_cases e2 : K k = 2
    · exact ⟨S0, by simp only [f_X0_follow_25, e2, if_true], fr_c_rf _, hc0, fun q => absurd e2 q.1, fun _ h => h⟩
    · by_cases e4 : K k = 4
      · exact ⟨S0, by simp only [f_X0_follow_25, if_neg e2, e4, if_true]; rfl, fr_c_rf _, hc0, fun q => absurd e4 q.2, fun _ h => h⟩
      · obtain ⟨S1, z1, z2, z3, z4, z5⟩ := rc_meet n (k := k + 1) hs0 hc0 (by omega) (cm_Rs hk hR (Or.inl ⟨e2, e4, rfl⟩))
        exact ⟨S1, by simp only [f_X0_follow_25, if_neg e2, if_neg e4, nI_1, z1, x_b_s], z2, z3, fun _ h => z4 h, z5⟩
  by_cases hj : K k = 2 ∨ K k = 3
  · obtain ⟨c, hc2, hcc⟩ := hC hj
    obtain ⟨S1, z1, z2, z3, z4, z5⟩ := rc_meet n (k := c) hs hc hc2 (cm_Rs hk hR (Or.inr ⟨hj, hcc⟩))
    obtain ⟨S2, y1, y2, y3, y4, y5⟩ := half S1 (hs.fr z2) z3
    refine ⟨S2, ?_, z2.tr y2, y3, ?_, fun j h => y5 j (z5 j h)⟩
    · simp only [f_X0_follow, x_gt s2, c4, x_gt c3, x_l_e, s4, e_isJump, if_pos hj, x_b_s, if_neg i_10, s5, hcc, z1, y1]
    · intro b hb hbL
      rcases hb with ⟨b1, b2, rfl⟩ | ⟨b1, b2⟩
      · exact y4 ⟨b1, b2⟩ hbL
      · have : b = c := by
          rw [hcc] at b2
          exact ((nI_eq hc2 (by omega)).mp b2).symm
        subst this
        exact y5 b (z4 hbL)
  · obtain ⟨S2, y1, y2, y3, y4, y5⟩ := half S hs hc
    refine ⟨S2, ?_, y2, y3, ?_, y5⟩
    · simp only [f_X0_follow, x_gt s2, c4, x_gt c3, x_l_e, s4, e_isJump, if_neg hj, x_b_s, if_true, y1]
    · intro b hb hbL
      rcases hb with ⟨b1, b2, rfl⟩ | ⟨b1, b2⟩
      · exact y4 ⟨b1, b2⟩ hbL
      · exact absurd b1 hj
theorem rc_loop (n : Nat) {L i : Nat} {K C : Nat → Int32} (hC : ∀ k, k < L → (K k = 2 ∨ K k = 3) → ∃ c, c < 2 ^ 31 ∧ C k = nI c) : ∀ (d t k : Nat) (S : x_S), t + d = 60 → d < k → rc_s L i K C S → rc_i L K C t (fun _ => False) S → ∃ S1, x_loop (fun rec z => f_X0_explore_39 n rec z.1 z.2.1 z.2.2) k (S, i, nI t) = some S1 ∧ fr_c S S1 ∧ rc_i L K C (cm_cnt (fun i => g_ar S1 0 i) L) (fun _ => False) S1 ∧ ∀ j, g_ar S 0 j = 1 → g_ar S1 0 j = 1 := by
  intro d
  induction d with
  | zero =>
    intro t k S ht hk hs hc
    obtain ⟨k, rfl⟩ : ∃ z, k = z + 1 := ⟨k - 1, by omega⟩
    obtain ⟨w, w1, w2, w3, w4⟩ := id hc
    have hle := cm_cnt_le (fun i => g_ar S 0 i) L
    have s1 := hs.1
    have ht60 : t = 60 := by omega
    subst ht60
    refine ⟨S, ?_, fr_c_rf S, ?_, fun _ h => h⟩
    · rw [x_loop_s]
      simp only [f_X0_explore_39, if_pos (show (60 : Int32) ≤ nI 60 by decide)]
    · have : cm_cnt (fun i => g_ar S 0 i) L = 60 := by omega
      rw [this]
      exact hc
  | succ d ih =>
    intro t k S ht hk hs hc
    obtain ⟨k, rfl⟩ : ∃ z, k = z + 1 := ⟨k - 1, by omega⟩
    obtain ⟨w, w1, w2, w3, w4, w5, w6, w7⟩ := id hc
    have hle := cm_cnt_le (fun i => g_ar S 0 i) L
    have s1 := hs.1
    have c1 : ¬ (60 : Int32) ≤ nI t := nI_ge (a := t) (b := 60) (by omega) (by decide)
    cases w with
    | zero =>
      refine ⟨S, ?_, fr_c_rf S, ?_, fun _ h => h⟩
      · rw [x_loop_s]
        simp only [f_X0_explore_39, if_neg c1, x_l_e, w1, if_pos (show nI 0 ≤ 0 by decide)]
      · have : cm_cnt (fun i => g_ar S 0 i) L = t := by omega
        rw [this]
        exact hc
    | succ v =>
      have c2 : ¬ nI (v + 1) ≤ 0 := nI_nle (by omega) (by omega)
      have v2 : v < 2 ^ 31 := by omega
      have d3 := k_in2 (show v < 60 by omega) v2
      have d4 := nI_clamp v2
      obtain ⟨a, ha, hav, hamet⟩ := w6 v (by omega)
      have hs2 : rc_s L i K C (s_sc S 2 (nI v)) := hs.fr (fr_c_sc S 2 _ (by decide))
      have hc2 : rc_i L K C (t + 1) (fun x => x = a) (s_sc S 2 (nI v)) := by
        refine ⟨v, rfl, w2, by show v + (t + 1) = cm_cnt (fun i => g_ar S 0 i) L; omega, w4, w5, fun j hj => w6 j (by omega), fun b hb h => ?_⟩
        rcases w7 b hb h with q | ⟨j, j1, j2⟩ | q
        · exact absurd q id
        · by_cases e : j = v
          · subst e
            have : nI b = nI a := j2.symm.trans hav
            exact Or.inl ((nI_eq (by omega) (by omega)).mp this)
          · exact Or.inr (Or.inl ⟨j, by omega, j2⟩)
        · exact Or.inr (Or.inr q)
      obtain ⟨S1, z1, z2, z3, z4, z5⟩ := rc_follow n hs2 hc2 ha (w5 a ha hamet) (hC a ha)
      have hc3 : rc_i L K C (t + 1) (fun _ => False) S1 := by
        obtain ⟨w', y1, y2, y3, y4, y5, y6, y7⟩ := z3
        refine ⟨w', y1, y2, y3, y4, y5, y6, fun b hb h => ?_⟩
        rcases y7 b hb h with q | q | q
        · rw [q]; exact Or.inr (Or.inr z4)
        · exact Or.inr (Or.inl q)
        · exact Or.inr (Or.inr q)
      have f1 : fr_c S S1 := (fr_c_sc S 2 _ (by decide)).tr z2
      obtain ⟨S2, x1, x2, x3, x4⟩ := ih (t + 1) k S1 (by omega) (by omega) (hs.fr f1) hc3
      refine ⟨S2, ?_, f1.tr x2, x3, fun j h => x4 j (z5 j h)⟩
      rw [x_loop_s]
      have g2 : g_sc (s_sc S 2 (nI v)) 2 = nI v := rfl
      have g1 : g_ar (s_sc S 2 (nI v)) 1 v = nI a := hav
      simp only [f_X0_explore_39, if_neg c1, x_l_e, w1, if_neg c2, nI_pred, g2, d4, x_gt d3, g1, z1, x_b_s, nI_1]
      exact x1
theorem rc_zero (n : Nat) {i : Nat} : ∀ (d t k : Nat) (S : x_S), t + d = 60 → d < k → (∀ j, j < t → g_ar S 0 j = 0) → ∃ S1, fr_c S S1 ∧ (∀ j, j < 60 → g_ar S1 0 j = 0) ∧ x_loop (fun rec z => f_X0_explore_2 n rec z.1 z.2.1 z.2.2) k (S, i, nI t) = x_let (s_sc (s_sc S1 2 0) 3 0) (fun S => x_b (f_X0_meet n S i 0) (fun S => x_loop (fun rec z => f_X0_explore_39 n rec z.1 z.2.1 z.2.2) n (S, i, 0))) := by
  intro d
  induction d with
  | zero =>
    intro t k S ht hk h0
    obtain ⟨k, rfl⟩ : ∃ z, k = z + 1 := ⟨k - 1, by omega⟩
    have ht60 : t = 60 := by omega
    subst ht60
    refine ⟨S, fr_c_rf S, h0, ?_⟩
    rw [x_loop_s]
    simp only [f_X0_explore_2, if_pos (show (60 : Int32) ≤ nI 60 by decide), x_l_e]
  | succ d ih =>
    intro t k S ht hk h0
    obtain ⟨k, rfl⟩ : ∃ z, k = z + 1 := ⟨k - 1, by omega⟩
    have c1 : ¬ (60 : Int32) ≤ nI t := nI_ge (a := t) (b := 60) (by omega) (by decide)
    have t2 : t < 2 ^ 31 := by omega
    have d3 := k_in2 (show t < 60 by omega) t2
    have d4 := nI_clamp t2
    obtain ⟨S1, z1, z2, z3⟩ := ih (t + 1) k (s_ar S 0 t 0) (by omega) (by omega) (fun j hj => by
      rw [q_ar_ar]
      by_cases e : j = t
      · simp [e]
      · rw [if_neg (fun q => e q.2)]; exact h0 j (by omega))
    refine ⟨S1, (fr_c_ar S 0 t 0 (by decide)).tr z1, z2, ?_⟩
    rw [x_loop_s]
    simp only [f_X0_explore_2, if_neg c1, d4, x_gt d3, x_l_e, nI_1]
    exact z3
/-- explore: the class's rows say what is COME TO -/
theorem e_explore (n : Nat) (hn : 1000 ≤ n) {L i : Nat} {K C : Nat → Int32} {S : x_S} (hs : rc_s L i K C S) (hC : ∀ k, k < L → (K k = 2 ∨ K k = 3) → ∃ c, c < 2 ^ 31 ∧ C k = nI c) : ∃ S1, f_X0_explore n S i = some S1 ∧ fr_c S S1 ∧ g_sc S1 3 = nI (cm_cnt (fun i => g_ar S1 0 i) L) ∧ ∀ j, j < L → (g_ar S1 0 j = 1 ∧ cm_R L K C j) ∨ (g_ar S1 0 j = 0 ∧ ¬ cm_R L K C j) := by
  obtain ⟨S1, z1, z2, z3⟩ := rc_zero n (i := i) 60 0 n S rfl (by omega) (fun j hj => absurd hj (by omega))
  have s1 := hs.1
  have f1 : fr_c S (s_sc (s_sc S1 2 0) 3 0) := (z1.tr (fr_c_sc _ 2 _ (by decide))).tr (fr_c_sc _ 3 _ (by decide))
  have hcnt : ∀ M, M ≤ 60 → cm_cnt (fun i => g_ar (s_sc (s_sc S1 2 0) 3 0) 0 i) M = 0 := by
    intro M
    induction M with
    | zero => intro _; rfl
    | succ M ih =>
      intro hM
      unfold cm_cnt
      rw [ih (by omega)]
      have : g_ar (s_sc (s_sc S1 2 0) 3 0) 0 M = 0 := z2 M (by omega)
      rw [this]
      rfl
  have hc0 : rc_i L K C 0 (fun _ => False) (s_sc (s_sc S1 2 0) 3 0) := ⟨0, rfl, by rw [hcnt L s1]; rfl, by rw [hcnt L s1], fun j hj => Or.inl (z2 j (by omega)), fun j hj h => absurd ((z2 j (by omega)).symm.trans h) (by decide), fun j hj => absurd hj (by omega), fun a ha h => absurd ((z2 a (by omega)).symm.trans h) (by decide)⟩
  obtain ⟨S2, y1, y2, y3, y4, y5⟩ := rc_meet n (k := 0) (hs.fr f1) hc0 (by decide) cm_R0
  obtain ⟨S3, x1, x2, x3, x4⟩ := rc_loop n hC 60 0 n S2 rfl (by omega) ((hs.fr f1).fr y2) y3
  refine ⟨S3, ?_, (f1.tr y2).tr x2, ?_, fun j hj => ?_⟩
  · unfold f_X0_explore
    show x_loop (fun rec z => f_X0_explore_2 n rec z.1 z.2.1 z.2.2) n (S, i, nI 0) = _
    rw [z3, x_l_e]
    show x_b (f_X0_meet n _ i (nI 0)) _ = _
    rw [y1, x_b_s]
    exact x1
  · obtain ⟨w, w1, w2, w3, w4⟩ := x3
    exact w2
  · obtain ⟨w, w1, w2, w3, w4, w5, w6, w7⟩ := x3
    have hw : w = 0 := by omega
    subst hw
    have hcl : ∀ a, a < L → g_ar S3 0 a = 1 → rc_cl L K C S3 a := by
      intro a ha h
      rcases w7 a ha h with q | ⟨y, q, _⟩ | q
      · exact absurd q id
      · exact absurd q (by omega)
      · exact q
    rcases w4 j hj with h | h
    · refine Or.inr ⟨h, fun hR => ?_⟩
      have := hR (fun x => x < L → g_ar S3 0 x = 1) (fun h0 => x4 0 (y4 h0)) (fun a b ha hPa he hb => hcl a ha (hPa ha) b he hb) hj
      exact absurd (h.symm.trans this) (by decide)
    · exact Or.inl ⟨h, w5 j hj h⟩
