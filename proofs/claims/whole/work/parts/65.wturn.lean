/-! write: the relation between states, and what a turn does to it -/
def w_R (a d : Nat) (sk be : Nat → Nat) (Sc Sm : x_S) : Prop := w_a a (fun i => g_pa Sc 0 0 i) (fun i => g_pa Sc 1 0 i) (fun i => g_pa Sc 2 0 i) (fun i => g_pa Sc 3 0 i) (fun i => g_ar Sc 508 i) (fun i => g_ar Sm 739 i) (fun i => g_ar Sm 740 i) (fun i => g_ar Sm 741 i) (fun i => g_ar Sm 742 i) (fun i => g_ar Sm 743 i) ∧ (∀ b, b < d → w_bd (sk b) (be b) (g_ar Sc 510 b) (g_ar Sc 511 b) (g_ar Sc 512 b) (g_ar Sc 513 b) (g_ar Sc 514 b) (g_ar Sc 515 b) (g_ar Sm 746 b) (g_ar Sm 747 b) (g_ar Sm 748 b) (g_ar Sm 749 b) (g_ar Sm 750 b) (g_ar Sm 751 b)) ∧ w_w a d be (fun i => g_ar Sm 739 i) (fun i => g_ar Sm 742 i) (fun i => g_ar Sm 743 i) (fun i => g_ar Sm 744 i) (fun i => g_ar Sm 747 i) ∧ w_s a d sk (fun i => g_ar Sm 739 i) (fun i => g_ar Sm 742 i) (fun i => g_ar Sm 743 i) (fun i => g_ar Sm 747 i) ∧ w_g a d be (fun i => g_ar Sm 747 i) ∧ w_h a (g_sc Sc 506) (fun i => g_ar Sm 742 i) ∧ g_sc Sc 507 = nI (w_lc (fun i => g_ar Sm 747 i) d)
def w_W (S0 S1 : x_S) (tl pl a d : Nat) (sk be : Nat → Nat) (Sc Sm : x_S) : Prop := c_b S0 tl pl a d Sc ∧ m_b S1 tl pl a d Sm ∧ w_R a d sk be Sc Sm ∧ a + d ≤ pl
/-- what a turn must lead to -/
def w_T (S0 S1 : x_S) (tl pl d : Nat) (Sc Sm : x_S) : Prop := (∃ pl' a' d' sk' be', w_W S0 S1 tl pl' a' d' sk' be' Sc Sm ∧ 2 * pl + d' + 1 ≤ 2 * pl' + d) ∨ w_G S0 S1 Sc Sm
section
variable {a d : Nat} {sk be : Nat → Nat} {Sc Sm Tc Tm : x_S} {k x y z f : Int32}
theorem w_a_congr {P0 P1 P2 P3 W K A B C F P0' P1' P2' P3' W' K' A' B' C' F' : Nat → Int32} (h : w_a a P0 P1 P2 P3 W K A B C F) (hp : ∀ i, i < 60 → P0' i = P0 i ∧ P1' i = P1 i ∧ P2' i = P2 i ∧ P3' i = P3 i ∧ W' i = W i) (hm : ∀ i, K' i = K i ∧ A' i = A i ∧ B' i = B i ∧ C' i = C i ∧ F' i = F i) : w_a a P0' P1' P2' P3' W' K' A' B' C' F' := by
  intro i hi
  obtain ⟨h1, h2, h3⟩ := h i hi
  obtain ⟨m1, m2, m3, m4, m5⟩ := hm i
  rw [m1, m2, m3, m4, m5]
  refine ⟨fun h6 => ?_, h2, h3⟩
  obtain ⟨p1, p2, p3, p4, p5⟩ := hp i h6
  rw [p1, p2, p3, p4, p5]
  exact h1 h6
theorem w_R.same (h : w_R a d sk be Sc Sm) (hp : ∀ i, i < 60 → g_pa Tc 0 0 i = g_pa Sc 0 0 i ∧ g_pa Tc 1 0 i = g_pa Sc 1 0 i ∧ g_pa Tc 2 0 i = g_pa Sc 2 0 i ∧ g_pa Tc 3 0 i = g_pa Sc 3 0 i ∧ g_ar Tc 508 i = g_ar Sc 508 i) (hc : ∀ j i, 510 ≤ j → j < 516 → g_ar Tc j i = g_ar Sc j i) (hm : ∀ j i, 739 ≤ j → g_ar Tm j i = g_ar Sm j i) (h6 : g_sc Tc 506 = g_sc Sc 506) (h7 : g_sc Tc 507 = g_sc Sc 507) : w_R a d sk be Tc Tm := by
  obtain ⟨r1, r2, r3, r4, r5, r6, r7⟩ := h
  have e : ∀ j, 739 ≤ j → (fun i => g_ar Tm j i) = (fun i => g_ar Sm j i) := fun j hj => funext (fun i => hm j i hj)
  unfold w_R
  rw [e 739 (by decide), e 740 (by decide), e 741 (by decide), e 742 (by decide), e 743 (by decide), e 744 (by decide), e 747 (by decide), h6, h7]
  refine ⟨w_a_congr r1 hp (fun i => ⟨rfl, rfl, rfl, rfl, rfl⟩), fun b hb => ?_, r3, r4, r5, r6, r7⟩
  rw [hc 510 b (by decide) (by decide), hc 511 b (by decide) (by decide), hc 512 b (by decide) (by decide), hc 513 b (by decide) (by decide), hc 514 b (by decide) (by decide), hc 515 b (by decide) (by decide), hm 746 b (by decide), hm 747 b (by decide), hm 748 b (by decide), hm 749 b (by decide), hm 750 b (by decide), hm 751 b (by decide)]
  exact r2 b hb
theorem w_R.emit (h : w_R a d sk be Sc Sm) (ha : a < 1000) (p : ∀ i, i < 60 → (g_pa Tc 0 0 i = if i = a then k else g_pa Sc 0 0 i) ∧ (g_pa Tc 1 0 i = if i = a then x else g_pa Sc 1 0 i) ∧ (g_pa Tc 2 0 i = if i = a then y else g_pa Sc 2 0 i) ∧ (g_pa Tc 3 0 i = if i = a then z else g_pa Sc 3 0 i)) (w1 : ∀ i, i < 60 → ¬ i = a → g_ar Tc 508 i = g_ar Sc 508 i) (w2 : a < 60 → w_aw f (g_ar Tc 508 a)) (c : ∀ j i, 510 ≤ j → j < 516 → g_ar Tc j i = g_ar Sc j i) (m : ∀ i, (g_ar Tm 739 i = if i = a then k else g_ar Sm 739 i) ∧ (g_ar Tm 740 i = if i = a then x else g_ar Sm 740 i) ∧ (g_ar Tm 741 i = if i = a then y else g_ar Sm 741 i) ∧ (g_ar Tm 742 i = if i = a then z else g_ar Sm 742 i) ∧ (g_ar Tm 743 i = if i = a then f else g_ar Sm 743 i)) (mT : ∀ i, ¬ i = a → g_ar Tm 744 i = g_ar Sm 744 i) (mo : ∀ j i, 745 ≤ j → g_ar Tm j i = g_ar Sm j i) (l : g_sc Tc 507 = g_sc Sc 507) (ok : w_ok k x y z) (of : f = 0 ∨ f = 1 ∨ f = 2) (hn : ¬ f = 0 → z = 0 ∧ (k = 2 ∨ k = 3) ∧ ∃ w, w < d ∧ g_ar Tm 744 a = nI w ∧ w_lp (g_ar Sm 747 w) ∧ be w ≤ a ∧ ∀ b, w < b → b < d → w_lp (g_ar Sm 747 b) → a < be b) (hzb : z ≤ nI (a + 1) ∨ z ≤ g_sc Tc 506) (hH : g_sc Tc 506 = g_sc Sc 506 ∨ (g_sc Sc 506 ≤ g_sc Tc 506 ∧ g_sc Tc 506 = z)) : w_R (a + 1) d sk be Tc Tm := by
  obtain ⟨r1, r2, r3, r4, r5, r6, r7⟩ := h
  have e : (fun i => g_ar Tm 747 i) = (fun i => g_ar Sm 747 i) := funext (fun i => mo 747 i (by decide))
  unfold w_R
  rw [e, l]
  refine ⟨r1.emit (fun i => (m i).1) (fun i => (m i).2.1) (fun i => (m i).2.2.1) (fun i => (m i).2.2.2.1) (fun i => (m i).2.2.2.2) ok of p w1 w2, fun b hb => ?_, r3.emit (fun i => (m i).1) (fun i => (m i).2.2.2.1) (fun i => (m i).2.2.2.2) mT hn, r4.emit (fun i => (m i).1) (fun i => (m i).2.2.2.1) (fun i => (m i).2.2.2.2), r5.emit, r6.emit ha (fun i => (m i).2.2.2.1) hzb hH, r7⟩
  rw [c 510 b (by decide) (by decide), c 511 b (by decide) (by decide), c 512 b (by decide) (by decide), c 513 b (by decide) (by decide), c 514 b (by decide) (by decide), c 515 b (by decide) (by decide), mo 746 b (by decide), mo 747 b (by decide), mo 748 b (by decide), mo 749 b (by decide), mo 750 b (by decide), mo 751 b (by decide)]
  exact r2 b hb
/-- an ACT that waits for nothing -/
theorem w_R.emit0 (h : w_R a d sk be Sc Sm) (ha : a < 1000) {Xc Xm : x_S} (hp : ∀ j i, g_pa Xc j 0 i = g_pa Sc j 0 i) (hc : ∀ j i, g_ar Xc j i = g_ar Sc j i) (hm : ∀ j i, g_ar Xm j i = g_ar Sm j i) (h7 : g_sc Xc 507 = g_sc Sc 507) (ok : w_ok k x y z) (hzb : z ≤ nI (a + 1) ∨ z ≤ g_sc Xc 506) (hH : g_sc Xc 506 = g_sc Sc 506 ∨ (g_sc Sc 506 ≤ g_sc Xc 506 ∧ g_sc Xc 506 = z)) : w_R (a + 1) d sk be (w_e Xc a k x y z) (w_m Xm a k x y z) := by
  obtain ⟨n1, n2, n3⟩ := w_ok_n ok
  have e6 : g_sc (w_e Xc a k x y z) 506 = g_sc Xc 506 := we_sc _ _ _ _ _ _ _ (by decide)
  refine h.emit (k := k) (x := x) (y := y) (z := z) (f := 0) ha (fun i hi => ?_) (fun i hi e => ?_) (fun a6 => ?_) (fun j i hj hj2 => ?_) (fun i => ?_) (fun i hi => ?_) (fun j i hj => ?_) ?_ ok (Or.inl rfl) (fun q => absurd rfl q) (by rw [e6]; exact hzb) (by rw [e6]; exact hH)
  · have := we_pa Xc a k x y z i hi
    rw [n1, n2, n3, hp, hp, hp, hp] at this
    exact this
  · rw [we_aw _ _ _ _ _ _ i hi, if_neg e, hc]
  · rw [we_aw _ _ _ _ _ _ a a6, if_pos rfl]
    exact Or.inl ⟨rfl, rfl⟩
  · rw [we_ar _ _ _ _ _ _ j i (by omega), hc]
  · have := wm_ac Xm a k x y z i
    rw [hm, hm, hm, hm, hm] at this
    exact this
  · rw [wm_ar _ _ _ _ _ _ 744 i (by omega), hm]
  · rw [wm_ar _ _ _ _ _ _ j i (by omega), hm]
  · rw [we_sc _ _ _ _ _ _ _ (by decide), h7]
/-- a BODY more -/
theorem w_R.opn (h : w_R a d sk be Sc Sm) (s g : Nat) (hp : ∀ i, i < 60 → g_pa Tc 0 0 i = g_pa Sc 0 0 i ∧ g_pa Tc 1 0 i = g_pa Sc 1 0 i ∧ g_pa Tc 2 0 i = g_pa Sc 2 0 i ∧ g_pa Tc 3 0 i = g_pa Sc 3 0 i ∧ g_ar Tc 508 i = g_ar Sc 508 i) (hm : ∀ j i, 739 ≤ j → j < 746 → g_ar Tm j i = g_ar Sm j i) (hc : ∀ j i, 510 ≤ j → j < 516 → ¬ i = d → g_ar Tc j i = g_ar Sc j i) (ho : ∀ j i, 746 ≤ j → ¬ i = d → g_ar Tm j i = g_ar Sm j i) (hb : w_bd s g (g_ar Tc 510 d) (g_ar Tc 511 d) (g_ar Tc 512 d) (g_ar Tc 513 d) (g_ar Tc 514 d) (g_ar Tc 515 d) (g_ar Tm 746 d) (g_ar Tm 747 d) (g_ar Tm 748 d) (g_ar Tm 749 d) (g_ar Tm 750 d) (g_ar Tm 751 d)) (hl : w_lp (g_ar Tm 747 d) → g ≤ a ∧ ∀ i, i < a → ¬ g_ar Sm 743 i = 0 → i < g) (hs : w_sk (g_ar Tm 747 d) → s < a ∧ g_ar Sm 742 s = 0 ∧ (g_ar Sm 739 s = 2 ∨ g_ar Sm 739 s = 3) ∧ g_ar Sm 743 s = 0 ∧ ∀ b, b < d → w_sk (g_ar Sm 747 b) → sk b < s) (h6 : g_sc Tc 506 = g_sc Sc 506) (h7 : g_sc Tc 507 = g_sc Sc 507 + (if 3 ≤ g_ar Tm 747 d ∧ g_ar Tm 747 d ≤ 5 then 1 else 0)) : w_R a (d + 1) (fun b => if b = d then s else sk b) (fun b => if b = d then g else be b) Tc Tm := by
  obtain ⟨r1, r2, r3, r4, r5, r6, r7⟩ := h
  have e : ∀ j, 739 ≤ j → j < 746 → (fun i => g_ar Tm j i) = (fun i => g_ar Sm j i) := fun j h1 h2 => funext (fun i => hm j i h1 h2)
  have oo : ∀ b, b < d → g_ar Tm 747 b = g_ar Sm 747 b := fun b hb => ho 747 b (by decide) (by omega)
  unfold w_R
  rw [e 739 (by decide) (by decide), e 740 (by decide) (by decide), e 741 (by decide) (by decide), e 742 (by decide) (by decide), e 743 (by decide) (by decide), e 744 (by decide) (by decide), h6]
  refine ⟨w_a_congr r1 hp (fun i => ⟨rfl, rfl, rfl, rfl, rfl⟩), fun b hb' => ?_, r3.opn oo (fun b hb => if_neg (by omega)) ?_, r4.opn oo (fun b hb => if_neg (by omega)) ?_, r5.opn oo (fun b hb => if_neg (by omega)) ?_, r6, ?_⟩
  · by_cases e : b = d
    · subst e
      simp only [if_true]
      exact hb
    · simp only [if_neg e]
      rw [hc 510 b (by decide) (by decide) e, hc 511 b (by decide) (by decide) e, hc 512 b (by decide) (by decide) e, hc 513 b (by decide) (by decide) e, hc 514 b (by decide) (by decide) e, hc 515 b (by decide) (by decide) e, ho 746 b (by decide) e, ho 747 b (by decide) e, ho 748 b (by decide) e, ho 749 b (by decide) e, ho 750 b (by decide) e, ho 751 b (by decide) e]
      exact r2 b (by omega)
  · intro q
    rw [if_pos rfl]
    exact (hl q).2
  · intro q
    rw [if_pos rfl]
    exact hs q
  · intro q
    rw [if_pos rfl]
    exact (hl q).1
  · rw [h7, r7]
    have el : w_lc (fun i => g_ar Tm 747 i) (d + 1) = w_lc (fun i => g_ar Tm 747 i) d + (if 3 ≤ g_ar Tm 747 d ∧ g_ar Tm 747 d ≤ 5 then 1 else 0) := rfl
    rw [el, w_lc_eq d (O := fun i => g_ar Tm 747 i) (O' := fun i => g_ar Sm 747 i) oo]
    by_cases q : 3 ≤ g_ar Tm 747 d ∧ g_ar Tm 747 d ≤ 5
    · rw [if_pos q, if_pos q, nI_1]
    · rw [if_neg q, if_neg q]
      exact Int32.add_zero _
theorem oc_ar (S : x_S) (d a : Nat) (k s x y m : Int32) (j i : Nat) (h : j < 510 ∨ 515 < j ∨ ¬ i = d) : g_ar (w_oc S d a k s x y m) j i = g_ar S j i := by
  unfold w_oc
  rw [q_ar_sc, q_ar_ar, if_neg (by omega), q_ar_ar, if_neg (by omega), q_ar_ar, if_neg (by omega), q_ar_ar, if_neg (by omega), q_ar_ar, if_neg (by omega), q_ar_ar, if_neg (by omega)]
theorem oc_at (S : x_S) (d a : Nat) (k s x y m : Int32) : g_ar (w_oc S d a k s x y m) 510 d = m ∧ g_ar (w_oc S d a k s x y m) 511 d = k ∧ g_ar (w_oc S d a k s x y m) 512 d = nI a ∧ g_ar (w_oc S d a k s x y m) 513 d = s ∧ g_ar (w_oc S d a k s x y m) 514 d = x ∧ g_ar (w_oc S d a k s x y m) 515 d = y := by
  unfold w_oc
  simp only [q_ar_sc, q_ar_ar, Nat.reduceEqDiff, false_and, if_false, true_and, if_true, and_self]
theorem om_ar (S : x_S) (d a : Nat) (k x y s m : Int32) (j i : Nat) (h : j < 746 ∨ 751 < j ∨ ¬ i = d) : g_ar (w_om S d a k x y s m) j i = g_ar S j i := by
  unfold w_om
  rw [q_ar_sc, q_ar_ar, if_neg (by omega), q_ar_ar, if_neg (by omega), q_ar_ar, if_neg (by omega), q_ar_ar, if_neg (by omega), q_ar_ar, if_neg (by omega), q_ar_ar, if_neg (by omega)]
theorem om_at (S : x_S) (d a : Nat) (k x y s m : Int32) : g_ar (w_om S d a k x y s m) 746 d = m ∧ g_ar (w_om S d a k x y s m) 747 d = k ∧ g_ar (w_om S d a k x y s m) 748 d = nI a ∧ g_ar (w_om S d a k x y s m) 749 d = x ∧ g_ar (w_om S d a k x y s m) 750 d = y ∧ g_ar (w_om S d a k x y s m) 751 d = s := by
  unfold w_om
  simp only [q_ar_sc, q_ar_ar, Nat.reduceEqDiff, false_and, if_false, true_and, if_true, and_self]
theorem oc_sc (S : x_S) (d a : Nat) (k s x y m : Int32) (j : Nat) (h : j ≠ 509) : g_sc (w_oc S d a k s x y m) j = g_sc S j := by
  unfold w_oc
  rw [y_sn _ _ _ _ h]
  rfl
end
