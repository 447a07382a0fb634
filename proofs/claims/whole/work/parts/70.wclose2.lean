/-! write: a BODY is over, in both -/
/-- the relation while a BODY goes: its own leading ACT is no more open -/
def w_Q (a d : Nat) (sk be : Nat → Nat) (Sc Sm : x_S) : Prop := w_a a (fun i => g_pa Sc 0 0 i) (fun i => g_pa Sc 1 0 i) (fun i => g_pa Sc 2 0 i) (fun i => g_pa Sc 3 0 i) (fun i => g_ar Sc 508 i) (fun i => g_ar Sm 739 i) (fun i => g_ar Sm 740 i) (fun i => g_ar Sm 741 i) (fun i => g_ar Sm 742 i) (fun i => g_ar Sm 743 i) ∧ (∀ b, b < d → w_bd (sk b) (be b) (g_ar Sc 510 b) (g_ar Sc 511 b) (g_ar Sc 512 b) (g_ar Sc 513 b) (g_ar Sc 514 b) (g_ar Sc 515 b) (g_ar Sm 746 b) (g_ar Sm 747 b) (g_ar Sm 748 b) (g_ar Sm 749 b) (g_ar Sm 750 b) (g_ar Sm 751 b)) ∧ w_w a (d + 1) be (fun i => g_ar Sm 739 i) (fun i => g_ar Sm 742 i) (fun i => g_ar Sm 743 i) (fun i => g_ar Sm 744 i) (fun i => g_ar Sm 747 i) ∧ w_s a d sk (fun i => g_ar Sm 739 i) (fun i => g_ar Sm 742 i) (fun i => g_ar Sm 743 i) (fun i => g_ar Sm 747 i) ∧ w_g a d be (fun i => g_ar Sm 747 i) ∧ w_h a (g_sc Sc 506) (fun i => g_ar Sm 742 i) ∧ g_sc Sc 507 = nI (w_lc (fun i => g_ar Sm 747 i) (d + 1))
section
variable {a d : Nat} {sk be : Nat → Nat} {Sc Sm Tc Tm : x_S}
theorem w_R.q (h : w_R a (d + 1) sk be Sc Sm) : w_Q a d sk be Sc Sm := by
  obtain ⟨r1, r2, r3, r4, r5, r6, r7⟩ := h
  exact ⟨r1, fun b hb => r2 b (by omega), r3, r4.pop, r5.pop, r6, r7⟩
/-- the ACT s, of the BODY that goes, learns where it leads -/
theorem w_Q.aim {s : Nat} {v : Int32} (h : w_Q a d sk be Sc Sm) (h6 : g_sc Tc 506 = g_sc Sc 506) (h7 : g_sc Tc 507 = g_sc Sc 507) (hc : ∀ j i, g_ar Tc j i = g_ar Sc j i) (hp : ∀ j i, j ≠ 3 → g_pa Tc j 0 i = g_pa Sc j 0 i) (hp3 : ∀ i, i < 60 → g_pa Tc 3 0 i = if i = s then v else g_pa Sc 3 0 i) (hm : ∀ j i, j ≠ 742 → g_ar Tm j i = g_ar Sm j i) (hm2 : ∀ i, g_ar Tm 742 i = if i = s then v else g_ar Sm 742 i) (hk : g_ar Sm 739 s = 2 ∨ g_ar Sm 739 s = 3) (hf : g_ar Sm 743 s = 0) (hC : g_ar Sm 742 s = 0) (hs : ∀ b, b < d → w_sk (g_ar Sm 747 b) → sk b < s) (hv : 0 ≤ v) (hv2 : v ≤ nI a) : w_Q a d sk be Tc Tm := by
  obtain ⟨r1, r2, r3, r4, r5, r6, r7⟩ := h
  have e : ∀ j, j ≠ 742 → (fun i => g_ar Tm j i) = (fun i => g_ar Sm j i) := fun j hj => funext (fun i => hm j i hj)
  have p : ∀ j, j ≠ 3 → (fun i => g_pa Tc j 0 i) = (fun i => g_pa Sc j 0 i) := fun j hj => funext (fun i => hp j i hj)
  have w : (fun i => g_ar Tc 508 i) = (fun i => g_ar Sc 508 i) := funext (fun i => hc 508 i)
  unfold w_Q
  rw [e 739 (by decide), e 740 (by decide), e 741 (by decide), e 743 (by decide), e 744 (by decide), e 747 (by decide), p 0 (by decide), p 1 (by decide), p 2 (by decide), w, h6, h7]
  refine ⟨r1.aim hm2 hp3 hk hv, fun b hb => ?_, r3.aim hm2 hf, r4.aim hm2 (fun b hb ho => ?_), r5, r6.aim hm2 hC hv2, r7⟩
  · rw [hc, hc, hc, hc, hc, hc, hm 746 b (by decide), hm 747 b (by decide), hm 748 b (by decide), hm 749 b (by decide), hm 750 b (by decide), hm 751 b (by decide)]
    exact r2 b hb
  · have := hs b hb ho
    omega
/-- it goes, and was no loop -/
theorem w_Q.pop (h : w_Q a d sk be Sc Sm) (ho : ¬ w_lp (g_ar Sm 747 d)) (hsc : ∀ j, j ≠ 509 → g_sc Tc j = g_sc Sc j) (hc : ∀ j i, g_ar Tc j i = g_ar Sc j i) (hp : ∀ j i, g_pa Tc j 0 i = g_pa Sc j 0 i) (hm : ∀ j i, g_ar Tm j i = g_ar Sm j i) : w_R a d sk be Tc Tm := by
  obtain ⟨r1, r2, r3, r4, r5, r6, r7⟩ := h
  have el : w_lc (fun i => g_ar Sm 747 i) (d + 1) = w_lc (fun i => g_ar Sm 747 i) d + (if 3 ≤ g_ar Sm 747 d ∧ g_ar Sm 747 d ≤ 5 then 1 else 0) := rfl
  rw [el, if_neg (fun q => ho (w_lpi.mpr q)), Nat.add_zero] at r7
  have R : w_R a d sk be Sc Sm := ⟨r1, r2, r3.pop (fun i _ _ _ => ho), r4, r5, r6, r7⟩
  exact R.same (fun i _ => ⟨hp 0 i, hp 1 i, hp 2 i, hp 3 i, hc 508 i⟩) (fun j i _ _ => hc j i) (fun j i _ => hm j i) (hsc 506 (by decide)) (hsc 507 (by decide))
/-- it goes, and was a loop -/
theorem w_Q.cls {bk : Int32} (ha : a < 1000) (hd : d < 100) (h : w_Q a d sk be Sc Sm) (ho : w_lp (g_ar Sm 747 d)) (hc : c_fl (be d) (min a 60) (nI a) bk (s_sc Sc 507 (g_sc Sc 507 - 1)) Tc) (hm : m_fl 0 a (nI d) (nI a) bk Sm Tm) (v1 : 0 ≤ bk) (v2 : bk ≤ nI a) : w_R a d sk be Tc Tm := by
  obtain ⟨r1, r2, r3, r4, r5, r6, r7⟩ := h
  obtain ⟨c1, c2, c3, c4, c5, c6, c7⟩ := hc
  obtain ⟨m1, m2, m3, m4, m5⟩ := hm
  have el : w_lc (fun i => g_ar Sm 747 i) (d + 1) = w_lc (fun i => g_ar Sm 747 i) d + (if 3 ≤ g_ar Sm 747 d ∧ g_ar Sm 747 d ≤ 5 then 1 else 0) := rfl
  rw [el, if_pos (w_lpi.mp ho)] at r7
  have e : ∀ j, j ≠ 742 → j ≠ 743 → (fun i => g_ar Tm j i) = (fun i => g_ar Sm j i) := fun j h1 h2 => funext (fun i => m3 j i h1 h2)
  have p : ∀ j, j ≠ 3 → (fun i => g_pa Tc j 0 i) = (fun i => g_pa Sc j 0 i) := fun j hj => funext (fun i => c5 j i hj)
  have f0 : ∀ i, i < a → (¬ g_ar Sm 743 i ≤ 0 ↔ ¬ g_ar Sm 743 i = 0) := by
    intro i hi
    have := (r1 i hi).2.2
    simp only at this
    rcases this with q | q | q <;> rw [q] <;> decide
  have Q1 : ∀ i, i < a → ((0 ≤ i ∧ i < a ∧ ¬ g_ar Sm 743 i ≤ 0 ∧ g_ar Sm 744 i = nI d) ↔ (¬ g_ar Sm 743 i = 0 ∧ g_ar Sm 744 i = nI d)) := fun i hi => ⟨fun q => ⟨(f0 i hi).mp q.2.2.1, q.2.2.2⟩, fun q => ⟨by omega, hi, (f0 i hi).mpr q.1, q.2⟩⟩
  have hC : ∀ i, i < a → g_ar Tm 742 i = if (¬ g_ar Sm 743 i = 0 ∧ g_ar Sm 744 i = nI d) then (if g_ar Sm 743 i = 1 then nI a else bk) else g_ar Sm 742 i := by
    intro i hi
    rw [m5 i]
    simp only [Q1 i hi]
  have hF : ∀ i, i < a → g_ar Tm 743 i = if (¬ g_ar Sm 743 i = 0 ∧ g_ar Sm 744 i = nI d) then 0 else g_ar Sm 743 i := by
    intro i hi
    rw [m4 i]
    simp only [Q1 i hi]
  have aw : ∀ i, i < 60 → i < a → (¬ g_ar Sc 508 i = -1 ↔ ¬ g_ar Sm 743 i = 0) ∧ (¬ g_ar Sm 743 i = 0 → (g_ar Sc 508 i = 6 ↔ g_ar Sm 743 i = 1)) := by
    intro i h6 hi
    have := ((r1 i hi).1 h6).2.2.2.2
    simp only at this
    rcases this with ⟨q1, q2⟩ | ⟨q1, q2⟩ | ⟨q1, q2⟩ <;> rw [q1, q2] <;> decide
  have Q2 : ∀ i, i < 60 → i < a → ((be d ≤ i ∧ i < min a 60 ∧ ¬ g_ar Sc 508 i = -1) ↔ (¬ g_ar Sm 743 i = 0 ∧ g_ar Sm 744 i = nI d)) := by
    intro i h6 hi
    constructor
    · rintro ⟨q1, q2, q3⟩
      have q4 := (aw i h6 hi).1.mp q3
      obtain ⟨-, -, w, w1, w2, w3, w4, w5⟩ := r3 i hi q4
      by_cases ew : w = d
      · subst ew; exact ⟨q4, w2⟩
      · have := w5 d (by omega) (by omega) ho
        omega
    · rintro ⟨q1, q2⟩
      obtain ⟨-, -, w, w1, w2, w3, w4, w5⟩ := r3 i hi q1
      have w2' : nI w = nI d := w2.symm.trans q2
      rw [nI_eq (by omega) (by omega)] at w2'
      subst w2'
      exact ⟨w4, by omega, (aw i h6 hi).1.mpr q1⟩
  have hP : ∀ i, i < 60 → i < a → g_pa Tc 3 0 i = if (¬ g_ar Sm 743 i = 0 ∧ g_ar Sm 744 i = nI d) then (if g_ar Sm 743 i = 1 then nI a else bk) else g_pa Sc 3 0 i := by
    intro i h6 hi
    have z := c7 i
    simp only [q_ar_sc, q_pa_sc, Q2 i h6 hi] at z
    rw [z]
    by_cases q : ¬ g_ar Sm 743 i = 0 ∧ g_ar Sm 744 i = nI d
    · rw [if_pos q, if_pos q]
      simp only [(aw i h6 hi).2 q.1]
    · rw [if_neg q, if_neg q]
  have hW : ∀ i, i < 60 → i < a → g_ar Tc 508 i = if (¬ g_ar Sm 743 i = 0 ∧ g_ar Sm 744 i = nI d) then -1 else g_ar Sc 508 i := by
    intro i h6 hi
    have z := c6 i
    simp only [q_ar_sc, Q2 i h6 hi] at z
    exact z
  have hQ : ∀ i, i < a → (¬ g_ar Sm 743 i = 0 ∧ g_ar Sm 744 i = nI d) → ¬ g_ar Sm 743 i = 0 ∧ (g_ar Sm 739 i = 2 ∨ g_ar Sm 739 i = 3) := fun i hi q => ⟨q.1, (r3 i hi q.1).2.1⟩
  unfold w_R
  rw [e 739 (by decide) (by decide), e 740 (by decide) (by decide), e 741 (by decide) (by decide), e 744 (by decide) (by decide), e 747 (by decide) (by decide), p 0 (by decide), p 1 (by decide), p 2 (by decide), c2, c2, y_sc, y_sn _ _ _ _ (by decide)]
  have R3 := r3.cls (Q := fun i => ¬ g_ar Sm 743 i = 0 ∧ g_ar Sm 744 i = nI d) (bh := nI a) (bk := bk) (C' := fun i => g_ar Tm 742 i) (F' := fun i => g_ar Tm 743 i) hC hF
  refine ⟨r1.cls (Q := fun i => ¬ g_ar Sm 743 i = 0 ∧ g_ar Sm 744 i = nI d) hQ hC hF hP hW (nI_pos' (by omega)) v1, fun b hb => ?_, R3.pop (fun i hi hf ht => ?_), r4.cls (Q := fun i => ¬ g_ar Sm 743 i = 0 ∧ g_ar Sm 744 i = nI d) (bh := nI a) (bk := bk) (fun i hi q => q.1) hC hF, r5, r6.cls (Q := fun i => ¬ g_ar Sm 743 i = 0 ∧ g_ar Sm 744 i = nI d) (F := fun i => g_ar Sm 743 i) (fun i hi q => (r3 i hi q.1).1) hC (Int32.le_refl _) v2, ?_⟩
  · rw [c4 _ _ (by decide), c4 _ _ (by decide), c4 _ _ (by decide), c4 _ _ (by decide), c4 _ _ (by decide), c4 _ _ (by decide), m3 746 b (by decide) (by decide), m3 747 b (by decide) (by decide), m3 748 b (by decide) (by decide), m3 749 b (by decide) (by decide), m3 750 b (by decide) (by decide), m3 751 b (by decide) (by decide)]
    exact r2 b hb
  · exfalso
    have hf' := hf
    simp only [hF i hi] at hf'
    by_cases q : ¬ g_ar Sm 743 i = 0 ∧ g_ar Sm 744 i = nI d
    · rw [if_pos q] at hf'; exact hf' rfl
    · rw [if_neg q] at hf'; exact q ⟨hf', ht⟩
  · rw [r7, nI_pred]
end
