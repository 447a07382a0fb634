theorem cm_cnt_mono {f g : Nat → Int32} : ∀ L, (∀ x, x < L → f x = 1 → g x = 1) → cm_cnt f L ≤ cm_cnt g L
  | 0, _ => Nat.le_refl _
  | L + 1, h => by
    have := cm_cnt_mono L (fun x hx => h x (by omega))
    unfold cm_cnt
    by_cases e : f L = 1
    · rw [if_pos e, if_pos (h L (by omega) e)]; omega
    · rw [if_neg e]; split <;> omega
theorem cm_cnt_lt {f g : Nat → Int32} {k : Nat} (hf : ¬ f k = 1) (hg : g k = 1) : ∀ L, k < L → (∀ x, x < L → f x = 1 → g x = 1) → cm_cnt f L < cm_cnt g L
  | 0, h, _ => absurd h (by omega)
  | L + 1, hk, h => by
    unfold cm_cnt
    by_cases e : k = L
    · subst e
      have := cm_cnt_mono k (fun x hx => h x (by omega))
      rw [if_neg hf, if_pos hg]; omega
    · have := cm_cnt_lt hf hg L (by omega) (fun x hx => h x (by omega))
      by_cases e2 : f L = 1
      · rw [if_pos e2, if_pos (h L (by omega) e2)]; omega
      · rw [if_neg e2]; split <;> omega
/-- a ROUTINE as come sees it -/
def cm_s (L r : Nat) (K C : Nat → Int32) (S : x_S) : Prop := L ≤ 60 ∧ r < 12 ∧ (∀ i, i < L → g_ar S 702 (60 * r + i) = K i ∧ g_ar S 705 (60 * r + i) = C i) ∧ ∀ i, i < L → ∃ c, c < 61 ∧ C i = nI c
theorem cm_s.fr {L r : Nat} {K C : Nat → Int32} {S S1 : x_S} (h : cm_s L r K C S) (f : fr_m S S1) : cm_s L r K C S1 := ⟨h.1, h.2.1, fun i hi => ⟨(f.2 702 _ (by decide)).trans (h.2.2.1 i hi).1, (f.2 705 _ (by decide)).trans (h.2.2.1 i hi).2⟩, h.2.2.2⟩
def cm_sub (L : Nat) (K C : Nat → Int32) (S : x_S) : Prop := ∀ x, x < 61 → g_ar S 733 x = 1 → cm_R L K C x
theorem cm_step (n : Nat) {L r i : Nat} {K C : Nat → Int32} {S : x_S} {m : Int32} {rec38 : x_S × Int32 × Int32 × Int32 → Option (x_S)} {rec47 : x_S × Int32 × Int32 × Int32 × Int32 → Option (x_S)} (hs : cm_s L r K C S) (hv : cm_v S) (hR : cm_sub L K C S) (hi : i < L) (hm : m = 0 ∨ m = 1) : ∃ S2 m2, fr_m S S2 ∧ cm_v S2 ∧ cm_sub L K C S2 ∧ (∀ x, x < 61 → g_ar S 733 x = 1 → g_ar S2 733 x = 1) ∧ (m2 = 0 ∨ m2 = 1) ∧ (m2 = 0 → m = 0 ∧ (∀ x, x < 61 → g_ar S2 733 x = g_ar S 733 x) ∧ (g_ar S 733 i = 1 → ∀ b, cm_edge K C i b → b < 61 → g_ar S 733 b = 1)) ∧ (m2 = 1 → m = 1 ∨ cm_cnt (fun x => g_ar S 733 x) 61 < cm_cnt (fun x => g_ar S2 733 x) 61) ∧ f_X7_come_47 n rec38 rec47 S (nI r) (nI L) m (nI i) = rec47 (S2, nI r, nI L, m2, nI (i + 1)) := by
  obtain ⟨s1, s2, s3, s4⟩ := hs
  obtain ⟨k1, k2⟩ := s3 i hi
  obtain ⟨c, hc, hcc⟩ := s4 i hi
  have i2 : i < 2 ^ 31 := by omega
  have d3 := k_in2 (show i < 61 by omega) i2
  have d4 := nI_clamp i2
  have t2 : 60 * r + i < 2 ^ 31 := by omega
  have t3 := k_in2 (show 60 * r + i < 720 by omega) t2
  have t4 := nI_clamp t2
  have c1 : ¬ nI L ≤ nI i := nI_ge hi (by omega)
  by_cases e0 : g_ar S 733 i = 0
  · refine ⟨S, m, fr_m_rf S, hv, hR, fun _ _ h => h, hm, fun e => ⟨e, fun _ _ => rfl, fun q => absurd (e0.symm.trans q) (by decide)⟩, fun e => Or.inl e, ?_⟩
    simp only [f_X7_come_47, f_X7_come_224, if_neg c1, d4, x_gt d3, x_l_e, e0, if_true, nI_1]
  · have e1 : g_ar S 733 i = 1 := (hv i (by omega)).resolve_left e0
    have key : ∀ a6 : Int32, (¬ a6 = 0 ↔ cm_on (K i)) → f_X7_come_47 n rec38 rec47 S (nI r) (nI L) m (nI i) = f_X7_come_99 n rec38 rec47 S (nI r) (nI L) m (nI i) (nI (60 * r + i)) a6 → ∃ S2 m2, fr_m S S2 ∧ cm_v S2 ∧ cm_sub L K C S2 ∧ (∀ x, x < 61 → g_ar S 733 x = 1 → g_ar S2 733 x = 1) ∧ (m2 = 0 ∨ m2 = 1) ∧ (m2 = 0 → m = 0 ∧ (∀ x, x < 61 → g_ar S2 733 x = g_ar S 733 x) ∧ (g_ar S 733 i = 1 → ∀ b, cm_edge K C i b → b < 61 → g_ar S 733 b = 1)) ∧ (m2 = 1 → m = 1 ∨ cm_cnt (fun x => g_ar S 733 x) 61 < cm_cnt (fun x => g_ar S2 733 x) 61) ∧ f_X7_come_47 n rec38 rec47 S (nI r) (nI L) m (nI i) = rec47 (S2, nI r, nI L, m2, nI (i + 1)) := by
      intro a6 h6 hf
      obtain ⟨S2, m2, y1, y2, y3, y4, y5, y6⟩ := cm_99 (n := n) (rec38 := rec38) (rec47 := rec47) (i := i) (m := m) S (nI r) (nI L) a6 (60 * r + i) (by omega) (by omega) hv hc (k2.trans hcc) hm
      rw [k1] at y4 y5
      rw [h6] at y4
      have mono : ∀ x, x < 61 → g_ar S 733 x = 1 → g_ar S2 733 x = 1 := fun x hx h => (y5 x hx).mpr (Or.inl h)
      refine ⟨S2, m2, y1, y2, fun x hx h => ?_, mono, y3, fun e => ?_, fun e => ?_, by rw [hf, y6]⟩
      · rcases (y5 x hx).mp h with q | ⟨q, rfl⟩ | ⟨q, rfl⟩
        · exact hR x hx q
        · exact cm_Rs hi (hR i (by omega) e1) (Or.inl ⟨(h6.mp q).1, (h6.mp q).2, rfl⟩)
        · exact cm_Rs hi (hR i (by omega) e1) (Or.inr ⟨q, hcc⟩)
      · have hn1 : ¬ m2 = 1 := by rw [e]; decide
        have hz := fun q => hn1 (y4.mpr q)
        have hon : cm_on (K i) → g_ar S 733 (i + 1) = 1 := fun q => (hv (i + 1) (by omega)).resolve_left (fun z => hz (Or.inr (Or.inl ⟨q, z⟩)))
        have hld : cm_ld (K i) → g_ar S 733 c = 1 := fun q => (hv c hc).resolve_left (fun z => hz (Or.inr (Or.inr ⟨q, z⟩)))
        refine ⟨hm.resolve_right (fun q => hz (Or.inl q)), fun x hx => ?_, fun _ b hb hb61 => ?_⟩
        · rcases hv x hx with q | q
          · rcases y2 x hx with z | z
            · rw [q, z]
            · rcases (y5 x hx).mp z with w | ⟨w, rfl⟩ | ⟨w, rfl⟩
              · rw [z, w]
              · rw [z, hon (h6.mp w)]
              · rw [z, hld w]
          · rw [q, mono x hx q]
        · rcases hb with ⟨b1, b2, rfl⟩ | ⟨b1, b2⟩
          · exact hon ⟨b1, b2⟩
          · have : b = c := by
              rw [hcc] at b2
              exact ((nI_eq (by omega) (by omega)).mp b2).symm
            subst this
            exact hld b1
      · rcases y4.mp e with q | ⟨q, z⟩ | ⟨q, z⟩
        · exact Or.inl q
        · exact Or.inr (cm_cnt_lt (k := i + 1) (by rw [z]; decide) ((y5 (i + 1) (by omega)).mpr (Or.inr (Or.inl ⟨h6.mpr q, rfl⟩))) 61 (by omega) mono)
        · exact Or.inr (cm_cnt_lt (k := c) (by rw [z]; decide) ((y5 c hc).mpr (Or.inr (Or.inr ⟨q, rfl⟩))) 61 hc mono)
    by_cases q2 : K i = 2
    · refine key 0 ⟨fun q => absurd rfl q, fun q => absurd q2 q.1⟩ ?_
      simp only [f_X7_come_47, f_X7_come_98, if_neg c1, d4, x_gt d3, x_l_e, if_neg e0, k_at s2 (show i < 60 by omega), t4, x_gt t3, k1, q2, if_true]
    · by_cases q4 : K i = 4
      · refine key 0 ⟨fun q => absurd rfl q, fun q => absurd q4 q.2⟩ ?_
        simp only [f_X7_come_47, f_X7_come_98, if_neg c1, d4, x_gt d3, x_l_e, if_neg e0, k_at s2 (show i < 60 by omega), t4, x_gt t3, k1, if_neg q2, q4, if_true]
        rfl
      · refine key 1 ⟨fun _ => ⟨q2, q4⟩, fun _ => by decide⟩ ?_
        simp only [f_X7_come_47, f_X7_come_98, if_neg c1, d4, x_gt d3, x_l_e, if_neg e0, k_at s2 (show i < 60 by omega), t4, x_gt t3, k1, if_neg q2, if_neg q4]
theorem cm_pass (n : Nat) {L r : Nat} {K C : Nat → Int32} {rec38 : x_S × Int32 × Int32 × Int32 → Option (x_S)} : ∀ (d i k : Nat) (S : x_S) (m : Int32), i + d = L → d < k → cm_s L r K C S → cm_v S → cm_sub L K C S → (m = 0 ∨ m = 1) → ∃ S1 m1, fr_m S S1 ∧ cm_v S1 ∧ cm_sub L K C S1 ∧ (∀ x, x < 61 → g_ar S 733 x = 1 → g_ar S1 733 x = 1) ∧ (m1 = 0 ∨ m1 = 1) ∧ (m1 = 0 → m = 0 ∧ (∀ x, x < 61 → g_ar S1 733 x = g_ar S 733 x) ∧ ∀ a, i ≤ a → a < L → g_ar S 733 a = 1 → ∀ b, cm_edge K C a b → b < 61 → g_ar S 733 b = 1) ∧ (m1 = 1 → m = 1 ∨ cm_cnt (fun x => g_ar S 733 x) 61 < cm_cnt (fun x => g_ar S1 733 x) 61) ∧ x_loop (fun rec z => f_X7_come_47 n rec38 rec z.1 z.2.1 z.2.2.1 z.2.2.2.1 z.2.2.2.2) k (S, nI r, nI L, m, nI i) = rec38 (S1, nI r, nI L, m1) := by
  intro d
  induction d with
  | zero =>
    intro i k S m hi hk hs hv hR hm
    obtain ⟨k, rfl⟩ : ∃ z, k = z + 1 := ⟨k - 1, by omega⟩
    have s1 := hs.1
    refine ⟨S, m, fr_m_rf S, hv, hR, fun _ _ h => h, hm, fun e => ⟨e, fun _ _ => rfl, fun a h1 h2 => absurd h1 (by omega)⟩, fun e => Or.inl e, ?_⟩
    rw [x_loop_s]
    simp only [f_X7_come_47, if_pos (nI_le (show L ≤ i by omega) (by omega))]
  | succ d ih =>
    intro i k S m hi hk hs hv hR hm
    obtain ⟨k, rfl⟩ : ∃ z, k = z + 1 := ⟨k - 1, by omega⟩
    obtain ⟨S2, m2, y1, y2, y3, y4, y5, y6, y7, y8⟩ := cm_step n (rec38 := rec38) (rec47 := x_loop (fun rec z => f_X7_come_47 n rec38 rec z.1 z.2.1 z.2.2.1 z.2.2.2.1 z.2.2.2.2) k) (m := m) hs hv hR (show i < L by omega) hm
    obtain ⟨S1, m1, z1, z2, z3, z4, z5, z6, z7, z8⟩ := ih (i + 1) k S2 m2 (by omega) (by omega) (hs.fr y1) y2 y3 y5
    refine ⟨S1, m1, y1.tr z1, z2, z3, fun x hx h => z4 x hx (y4 x hx h), z5, fun e => ?_, fun e => ?_, ?_⟩
    · obtain ⟨a1, a2, a3⟩ := z6 e
      obtain ⟨b1, b2, b3⟩ := y6 a1
      refine ⟨b1, fun x hx => (a2 x hx).trans (b2 x hx), fun a h1 h2 h3 b hb hb61 => ?_⟩
      by_cases e2 : a = i
      · subst e2
        exact b3 h3 b hb hb61
      · have := a3 a (by omega) h2 ((b2 a (by have := hs.1; omega)).trans h3) b hb hb61
        rw [b2 b hb61] at this
        exact this
    · have l1 := cm_cnt_mono (f := fun x => g_ar S 733 x) (g := fun x => g_ar S2 733 x) 61 y4
      have l2 := cm_cnt_mono (f := fun x => g_ar S2 733 x) (g := fun x => g_ar S1 733 x) 61 z4
      rcases z7 e with q | q
      · rcases y7 q with w | w
        · exact Or.inl w
        · exact Or.inr (by omega)
      · exact Or.inr (by omega)
    · rw [x_loop_s]
      show f_X7_come_47 n rec38 _ S (nI r) (nI L) m (nI i) = _
      rw [y8]
      exact z8
theorem cm_outer (n : Nat) (hn : 1000 ≤ n) {L r : Nat} {K C : Nat → Int32} : ∀ (d k : Nat) (S : x_S), 61 ≤ cm_cnt (fun x => g_ar S 733 x) 61 + d → d + 1 < k → cm_s L r K C S → cm_v S → cm_sub L K C S → ∃ S1, fr_m S S1 ∧ cm_v S1 ∧ cm_sub L K C S1 ∧ (∀ x, x < 61 → g_ar S 733 x = 1 → g_ar S1 733 x = 1) ∧ (∀ a, a < L → g_ar S1 733 a = 1 → ∀ b, cm_edge K C a b → b < 61 → g_ar S1 733 b = 1) ∧ x_loop (fun rec z => f_X7_come_38 n rec z.1 z.2.1 z.2.2.1 z.2.2.2) k (S, nI r, nI L, 1) = some S1 := by
  intro d
  induction d with
  | zero =>
    intro k S hd hk hs hv hR
    obtain ⟨k, rfl⟩ : ∃ z, k = z + 2 := ⟨k - 2, by omega⟩
    have s1 := hs.1
    obtain ⟨S1, m1, z1, z2, z3, z4, z5, z6, z7, z8⟩ := cm_pass n (rec38 := x_loop (fun rec z => f_X7_come_38 n rec z.1 z.2.1 z.2.2.1 z.2.2.2) (k + 1)) L 0 n S 0 (by omega) (by omega) hs hv hR (Or.inl rfl)
    have hle := cm_cnt_le (fun x => g_ar S1 733 x) 61
    have hm0 : m1 = 0 := by
      refine z5.resolve_right (fun q => ?_)
      rcases z7 q with w | w
      · exact absurd w (by decide)
      · omega
    subst hm0
    obtain ⟨a1, a2, a3⟩ := z6 rfl
    refine ⟨S1, z1, z2, z3, z4, fun a h1 h2 b hb hb61 => ?_, ?_⟩
    · rw [a2 a (by omega)] at h2
      rw [a2 b hb61]
      exact a3 a (Nat.zero_le _) h1 h2 b hb hb61
    · rw [x_loop_s]
      simp only [f_X7_come_38, if_neg i_10]
      refine (show _ = _ from z8).trans ?_
      rw [x_loop_s]
      simp only [f_X7_come_38, if_true]
  | succ d ih =>
    intro k S hd hk hs hv hR
    obtain ⟨k, rfl⟩ : ∃ z, k = z + 2 := ⟨k - 2, by omega⟩
    have s1 := hs.1
    obtain ⟨S1, m1, z1, z2, z3, z4, z5, z6, z7, z8⟩ := cm_pass n (rec38 := x_loop (fun rec z => f_X7_come_38 n rec z.1 z.2.1 z.2.2.1 z.2.2.2) (k + 1)) L 0 n S 0 (by omega) (by omega) hs hv hR (Or.inl rfl)
    have hl : x_loop (fun rec z => f_X7_come_38 n rec z.1 z.2.1 z.2.2.1 z.2.2.2) (k + 2) (S, nI r, nI L, 1) = x_loop (fun rec z => f_X7_come_38 n rec z.1 z.2.1 z.2.2.1 z.2.2.2) (k + 1) (S1, nI r, nI L, m1) := by
      rw [x_loop_s]
      simp only [f_X7_come_38, if_neg i_10]
      exact z8
    rcases z5 with rfl | rfl
    · obtain ⟨a1, a2, a3⟩ := z6 rfl
      refine ⟨S1, z1, z2, z3, z4, fun a h1 h2 b hb hb61 => ?_, ?_⟩
      · rw [a2 a (by omega)] at h2
        rw [a2 b hb61]
        exact a3 a (Nat.zero_le _) h1 h2 b hb hb61
      · rw [hl, x_loop_s]
        simp only [f_X7_come_38, if_true]
    · have hlt : cm_cnt (fun x => g_ar S 733 x) 61 < cm_cnt (fun x => g_ar S1 733 x) 61 := (z7 rfl).resolve_left (by decide)
      obtain ⟨S2, y1, y2, y3, y4, y5, y6⟩ := ih (k + 1) S1 (by omega) (by omega) (hs.fr z1) z2 z3
      exact ⟨S2, z1.tr y1, y2, y3, fun x hx h => y4 x hx (z4 x hx h), y5, by rw [hl]; exact y6⟩
theorem cm_init (n : Nat) {a1 a2 : Int32} : ∀ (d i k : Nat) (S : x_S), i + d = 61 → d < k → (∀ x, x < i → g_ar S 733 x = if x = 0 then 1 else 0) → ∃ S1, fr_m S S1 ∧ (∀ x, x < 61 → g_ar S1 733 x = if x = 0 then 1 else 0) ∧ x_loop (fun rec z => f_X7_come_9 n rec z.1 z.2.1 z.2.2.1 z.2.2.2) k (S, a1, a2, nI i) = x_loop (fun rec z => f_X7_come_38 n rec z.1 z.2.1 z.2.2.1 z.2.2.2) n (S1, a1, a2, 1) := by
  intro d
  induction d with
  | zero =>
    intro i k S hi hk h
    obtain ⟨k, rfl⟩ : ∃ z, k = z + 1 := ⟨k - 1, by omega⟩
    have : i = 61 := by omega
    subst this
    refine ⟨S, fr_m_rf S, h, ?_⟩
    rw [x_loop_s]
    simp only [f_X7_come_9, if_pos (show (60 : Int32) < nI 61 by decide)]
  | succ d ih =>
    intro i k S hi hk h
    obtain ⟨k, rfl⟩ : ∃ z, k = z + 1 := ⟨k - 1, by omega⟩
    have i2 : i < 2 ^ 31 := by omega
    have d3 := k_in2 (show i < 61 by omega) i2
    have d4 := nI_clamp i2
    have c1 : ¬ (60 : Int32) < nI i := nI_nlt (a := 60) (b := i) (by omega) (by decide)
    obtain ⟨S1, z1, z2, z3⟩ := ih (i + 1) k (s_ar S 733 i (if i = 0 then 1 else 0)) (by omega) (by omega) (fun x hx => by
      rw [q_ar_ar]
      by_cases e : x = i
      · simp [e]
      · rw [if_neg (fun q => e q.2)]; exact h x (by omega))
    refine ⟨S1, (fr_m_ar S 733 i _ (by decide)).tr z1, z2, ?_⟩
    rw [x_loop_s]
    by_cases e : i = 0
    · subst e
      rw [if_pos rfl] at z3
      simp only [f_X7_come_9, f_X7_come_29, if_neg c1, if_pos (show nI 0 = 0 from rfl), d4, x_gt d3, z_gv (Or.inr rfl), or_true, x_gT, x_l_e, nI_1]
      exact z3
    · rw [if_neg e] at z3
      have c2 : ¬ nI i = 0 := nI_ne0 (by omega) i2
      simp only [f_X7_come_9, f_X7_come_29, if_neg c1, if_neg c2, d4, x_gt d3, true_or, x_gT, x_l_e, nI_1]
      exact z3
/-- come: the reference's row says what is COME TO -/
theorem e_come (n : Nat) (hn : 1000 ≤ n) {L r : Nat} {K C : Nat → Int32} {S : x_S} (hs : cm_s L r K C S) (h1 : g_ar S 701 r = nI L) : ∃ S1, f_X7_come n S (nI r) = some S1 ∧ fr_m S S1 ∧ ∀ j, j < L → (g_ar S1 733 j = 1 ∧ cm_R L K C j) ∨ (g_ar S1 733 j = 0 ∧ ¬ cm_R L K C j) := by
  have s1 := hs.1
  have hr2 : r < 2 ^ 31 := by have := hs.2.1; omega
  have g3 := k_in2 hs.2.1 hr2
  have g4 := nI_clamp hr2
  obtain ⟨S1, z1, z2, z3⟩ := cm_init n (a1 := nI r) (a2 := nI L) 61 0 n S rfl (by omega) (fun x hx => absurd hx (by omega))
  have hv : cm_v S1 := fun x hx => by
    rw [z2 x hx]
    by_cases e : x = 0
    · rw [if_pos e]; exact Or.inr rfl
    · rw [if_neg e]; exact Or.inl rfl
  have hR : cm_sub L K C S1 := fun x hx h => by
    rw [z2 x hx] at h
    by_cases e : x = 0
    · rw [e]; exact cm_R0
    · rw [if_neg e] at h; exact absurd h (by decide)
  obtain ⟨S2, y1, y2, y3, y4, y5, y6⟩ := cm_outer n hn 61 n S1 (by omega) (by omega) (hs.fr z1) hv hR
  refine ⟨S2, ?_, z1.tr y1, fun j hj => ?_⟩
  · unfold f_X7_come
    rw [g4, x_gt g3, x_l_e, h1]
    show x_loop (fun rec z => f_X7_come_9 n rec z.1 z.2.1 z.2.2.1 z.2.2.2) n (S, nI r, nI L, nI 0) = _
    rw [z3]
    exact y6
  · rcases y2 j (by omega) with h | h
    · refine Or.inr ⟨h, fun q => ?_⟩
      have := q (fun x => x < 61 → g_ar S2 733 x = 1) (fun h0 => y4 0 h0 (by rw [z2 0 h0]; rfl)) (fun a b ha hPa he hb => y5 a ha (hPa (by omega)) b he hb) (by omega)
      exact absurd (h.symm.trans this) (by decide)
    · exact Or.inl ⟨h, y3 j (by omega) h⟩
