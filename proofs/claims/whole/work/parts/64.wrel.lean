/-! write: the relation, as it speaks of rows alone -/
def w_sk (o : Int32) : Prop := o = 1 ∨ o = 2 ∨ o = 4 ∨ o = -1
def w_aw (f w : Int32) : Prop := (f = 0 ∧ w = -1) ∨ (f = 1 ∧ w = 6) ∨ (f = 2 ∧ w = 7)
def w_bd (sk be : Nat) (c0 c1 c2 c3 c4 c5 m0 m1 m2 m3 m4 m5 : Int32) : Prop := c0 = m0 ∧ 0 ≤ m0 ∧ c4 = m3 ∧ c5 = m4 ∧ (0 ≤ m3 ∧ m3 ≤ 3) ∧ (0 ≤ m4 ∧ m4 ≤ 5) ∧ ((m1 = 0 ∧ c1 = -1) ∨ (m1 = 1 ∧ c1 = 1 ∧ c3 = nI sk ∧ m5 = nI sk) ∨ (m1 = 2 ∧ c1 = 2 ∧ c3 = nI sk ∧ m5 = nI sk) ∨ (m1 = -1 ∧ c1 = 1 ∧ c3 = nI sk ∧ m5 = nI sk) ∨ (m1 = 3 ∧ c1 = 3 ∧ c2 = nI be ∧ m2 = nI be) ∨ (m1 = 4 ∧ c1 = 4 ∧ c2 = nI be ∧ c3 = nI sk ∧ m5 = nI sk ∧ sk = be) ∨ (m1 = 5 ∧ c1 = 5 ∧ c2 = nI be ∧ m2 = nI be))
def w_a (a : Nat) (P0 P1 P2 P3 W K A B C F : Nat → Int32) : Prop := ∀ i, i < a → (i < 60 → P0 i = K i ∧ P1 i = A i ∧ P2 i = B i ∧ P3 i = C i ∧ w_aw (F i) (W i)) ∧ w_ok (K i) (A i) (B i) (C i) ∧ (F i = 0 ∨ F i = 1 ∨ F i = 2)
def w_w (a d : Nat) (be : Nat → Nat) (K C F T O : Nat → Int32) : Prop := ∀ i, i < a → ¬ F i = 0 → C i = 0 ∧ (K i = 2 ∨ K i = 3) ∧ ∃ w, w < d ∧ T i = nI w ∧ w_lp (O w) ∧ be w ≤ i ∧ ∀ b, w < b → b < d → w_lp (O b) → i < be b
def w_s (a d : Nat) (sk : Nat → Nat) (K C F O : Nat → Int32) : Prop := ∀ b, b < d → w_sk (O b) → sk b < a ∧ C (sk b) = 0 ∧ (K (sk b) = 2 ∨ K (sk b) = 3) ∧ F (sk b) = 0 ∧ ∀ b', b' < b → w_sk (O b') → sk b' < sk b
def w_g (a d : Nat) (be : Nat → Nat) (O : Nat → Int32) : Prop := ∀ b, b < d → w_lp (O b) → be b ≤ a
def w_h (a : Nat) (H : Int32) (C : Nat → Int32) : Prop := 0 ≤ H ∧ (∀ i, i < a → C i ≤ nI a ∨ C i ≤ H) ∧ (H = 0 ∨ ∃ i, i < a ∧ C i = H)
def w_lc (O : Nat → Int32) : Nat → Nat
  | 0 => 0
  | b + 1 => w_lc O b + (if 3 ≤ O b ∧ O b ≤ 5 then 1 else 0)
theorem w_lpi {o : Int32} : w_lp o ↔ 3 ≤ o ∧ o ≤ 5 := by
  constructor
  · rintro (rfl | rfl | rfl) <;> decide
  · rintro ⟨h1, h2⟩
    rcases k_arg o (N := 6) (by decide) with h | ⟨j, hj, rfl⟩
    · rw [Int32.le_iff_toInt_le] at h1 h2
      have e3 : (3 : Int32).toInt = 3 := rfl
      have e5 : (5 : Int32).toInt = 5 := rfl
      have e0 : (0 : Int32).toInt = 0 := rfl
      have e6 : (nI 6).toInt = 6 := rfl
      rcases h with h | h
      · rw [Int32.lt_iff_toInt_lt] at h; omega
      · rw [Int32.le_iff_toInt_le] at h; omega
    · rcases (show j = 0 ∨ j = 1 ∨ j = 2 ∨ j = 3 ∨ j = 4 ∨ j = 5 by omega) with rfl | rfl | rfl | rfl | rfl | rfl
      · exact absurd h1 (by decide)
      · exact absurd h1 (by decide)
      · exact absurd h1 (by decide)
      · exact Or.inl rfl
      · exact Or.inr (Or.inl rfl)
      · exact Or.inr (Or.inr rfl)
theorem w_lc_eq {O O' : Nat → Int32} : ∀ d, (∀ b, b < d → O b = O' b) → w_lc O d = w_lc O' d
  | 0, _ => rfl
  | d + 1, h => by
    unfold w_lc
    rw [w_lc_eq d (fun b hb => h b (by omega)), h d (by omega)]
theorem w_lc_le (O : Nat → Int32) : ∀ d, w_lc O d ≤ d
  | 0 => Nat.le_refl _
  | d + 1 => by
    unfold w_lc
    have := w_lc_le O d
    split <;> omega
/-- innermost() against loops -/
theorem w_inm_d (O : Nat → Int32) : ∀ d, d ≤ 61 → (w_lc O d = 0 ∧ w_inm O d = -1) ∨ (0 < w_lc O d ∧ ∃ w, w < d ∧ w_inm O d = nI w ∧ w_lp (O w) ∧ ∀ b, w < b → b < d → ¬ w_lp (O b))
  | 0, _ => Or.inl ⟨rfl, rfl⟩
  | d + 1, hd => by
    unfold w_lc w_inm
    by_cases h : 3 ≤ O d ∧ O d ≤ 5
    · rw [if_pos h, if_pos h]
      exact Or.inr ⟨by omega, d, by omega, rfl, w_lpi.mpr h, fun b h1 h2 => absurd h1 (by omega)⟩
    · rw [if_neg h, if_neg h]
      rcases w_inm_d O d (by omega) with ⟨h1, h2⟩ | ⟨h1, w, w1, w2, w3, w4⟩
      · exact Or.inl ⟨by omega, h2⟩
      · refine Or.inr ⟨by omega, w, by omega, w2, w3, fun b b1 b2 => ?_⟩
        by_cases e : b = d
        · subst e; exact fun q => h (w_lpi.mp q)
        · exact w4 b b1 (by omega)
section
variable {a d : Nat} {sk be sk' be' : Nat → Nat} {P0 P1 P2 P3 W K A B C F T O P0' P1' P2' P3' W' K' A' B' C' F' T' O' : Nat → Int32} {H H' k x y z f t o : Int32}
/-- E: an ACT more -/
theorem w_a.emit (h : w_a a P0 P1 P2 P3 W K A B C F) (hk : ∀ i, K' i = if i = a then k else K i) (hx : ∀ i, A' i = if i = a then x else A i) (hy : ∀ i, B' i = if i = a then y else B i) (hz : ∀ i, C' i = if i = a then z else C i) (hf : ∀ i, F' i = if i = a then f else F i) (ok : w_ok k x y z) (of : f = 0 ∨ f = 1 ∨ f = 2) (hp : ∀ i, i < 60 → (P0' i = if i = a then k else P0 i) ∧ (P1' i = if i = a then x else P1 i) ∧ (P2' i = if i = a then y else P2 i) ∧ (P3' i = if i = a then z else P3 i)) (hw : ∀ i, i < 60 → ¬ i = a → W' i = W i) (hwa : a < 60 → w_aw f (W' a)) : w_a (a + 1) P0' P1' P2' P3' W' K' A' B' C' F' := by
  intro i hi
  rw [hk, hx, hy, hz, hf]
  by_cases e : i = a
  · subst e
    simp only [if_true]
    refine ⟨fun h6 => ?_, ok, of⟩
    have := hp i h6
    simp only [if_true] at this
    exact ⟨this.1, this.2.1, this.2.2.1, this.2.2.2, hwa h6⟩
  · simp only [if_neg e]
    obtain ⟨h1, h2, h3⟩ := h i (by omega)
    refine ⟨fun h6 => ?_, h2, h3⟩
    have := hp i h6
    simp only [if_neg e] at this
    rw [this.1, this.2.1, this.2.2.1, this.2.2.2, hw i h6 e]
    exact h1 h6
theorem w_w.emit (h : w_w a d be K C F T O) (hk : ∀ i, K' i = if i = a then k else K i) (hz : ∀ i, C' i = if i = a then z else C i) (hf : ∀ i, F' i = if i = a then f else F i) (hT : ∀ i, ¬ i = a → T' i = T i) (hn : ¬ f = 0 → z = 0 ∧ (k = 2 ∨ k = 3) ∧ ∃ w, w < d ∧ T' a = nI w ∧ w_lp (O w) ∧ be w ≤ a ∧ ∀ b, w < b → b < d → w_lp (O b) → a < be b) : w_w (a + 1) d be K' C' F' T' O := by
  intro i hi
  rw [hk, hz, hf]
  by_cases e : i = a
  · subst e
    simp only [if_true]
    exact hn
  · simp only [if_neg e]
    rw [hT i e]
    exact h i (by omega)
theorem w_s.emit (h : w_s a d sk K C F O) (hk : ∀ i, K' i = if i = a then k else K i) (hz : ∀ i, C' i = if i = a then z else C i) (hf : ∀ i, F' i = if i = a then f else F i) : w_s (a + 1) d sk K' C' F' O := by
  intro b hb ho
  obtain ⟨h1, h2⟩ := h b hb ho
  have e : ¬ sk b = a := by omega
  rw [hk, hz, hf, if_neg e, if_neg e, if_neg e]
  exact ⟨by omega, h2⟩
theorem w_g.emit (h : w_g a d be O) : w_g (a + 1) d be O := fun b hb ho => by have := h b hb ho; omega
theorem w_h.emit (ha : a < 1000) (h : w_h a H C) (hz : ∀ i, C' i = if i = a then z else C i) (hzb : z ≤ nI (a + 1) ∨ z ≤ H') (hH : H' = H ∨ (H ≤ H' ∧ H' = z)) : w_h (a + 1) H' C' := by
  obtain ⟨h1, h2, h3⟩ := h
  have hle : H ≤ H' := by
    rcases hH with rfl | h
    · exact Int32.le_refl _
    · exact h.1
  refine ⟨Int32.le_trans h1 hle, fun i hi => ?_, ?_⟩
  · rw [hz]
    by_cases e : i = a
    · rw [if_pos e]; exact hzb
    · rw [if_neg e]
      rcases h2 i (by omega) with q | q
      · exact Or.inl (Int32.le_trans q (nI_le (by omega) (by omega)))
      · exact Or.inr (Int32.le_trans q hle)
  · rcases hH with rfl | h
    · rcases h3 with h3 | ⟨i, i1, i2⟩
      · exact Or.inl h3
      · exact Or.inr ⟨i, by omega, by rw [hz, if_neg (by omega)]; exact i2⟩
    · exact Or.inr ⟨a, by omega, by rw [hz, if_pos rfl]; exact h.2.symm⟩
/-- B: a BODY more -/
theorem w_w.opn (h : w_w a d be K C F T O) (hO : ∀ b, b < d → O' b = O b) (hb : ∀ b, b < d → be' b = be b) (hn : w_lp (O' d) → ∀ i, i < a → ¬ F i = 0 → i < be' d) : w_w a (d + 1) be' K C F T O' := by
  intro i hi hf
  obtain ⟨h1, h2, w, w1, w2, w3, w4, w5⟩ := h i hi hf
  refine ⟨h1, h2, w, by omega, w2, by rw [hO w w1]; exact w3, by rw [hb w w1]; exact w4, fun b b1 b2 b3 => ?_⟩
  by_cases e : b = d
  · subst e; exact hn b3 i hi hf
  · rw [hb b (by omega)]
    exact w5 b b1 (by omega) (by rw [hO b (by omega)] at b3; exact b3)
theorem w_s.opn (h : w_s a d sk K C F O) (hO : ∀ b, b < d → O' b = O b) (hs : ∀ b, b < d → sk' b = sk b) (hn : w_sk (O' d) → sk' d < a ∧ C (sk' d) = 0 ∧ (K (sk' d) = 2 ∨ K (sk' d) = 3) ∧ F (sk' d) = 0 ∧ ∀ b', b' < d → w_sk (O b') → sk b' < sk' d) : w_s a (d + 1) sk' K C F O' := by
  intro b hb ho
  by_cases e : b = d
  · subst e
    obtain ⟨h1, h2, h3, h4, h5⟩ := hn ho
    exact ⟨h1, h2, h3, h4, fun b' h6 h7 => by rw [hs b' h6]; exact h5 b' h6 (by rw [hO b' h6] at h7; exact h7)⟩
  · rw [hO b (by omega)] at ho
    rw [hs b (by omega)]
    obtain ⟨h1, h2, h3, h4, h5⟩ := h b (by omega) ho
    exact ⟨h1, h2, h3, h4, fun b' h6 h7 => by rw [hs b' (by omega)]; exact h5 b' h6 (by rw [hO b' (by omega)] at h7; exact h7)⟩
theorem w_g.opn (h : w_g a d be O) (hO : ∀ b, b < d → O' b = O b) (hb : ∀ b, b < d → be' b = be b) (hn : w_lp (O' d) → be' d ≤ a) : w_g a (d + 1) be' O' := by
  intro b hb1 ho
  by_cases e : b = d
  · subst e; exact hn ho
  · rw [hO b (by omega)] at ho
    rw [hb b (by omega)]
    exact h b (by omega) ho
/-- P: the topmost BODY goes -/
theorem w_w.pop (h : w_w a (d + 1) be K C F T O) (hn : ∀ i, i < a → ¬ F i = 0 → T i = nI d → ¬ w_lp (O d)) : w_w a d be K C F T O := by
  intro i hi hf
  obtain ⟨h1, h2, w, w1, w2, w3, w4, w5⟩ := h i hi hf
  have e : ¬ w = d := fun q => by subst q; exact hn i hi hf w2 w3
  exact ⟨h1, h2, w, by omega, w2, w3, w4, fun b b1 b2 => w5 b b1 (by omega)⟩
theorem w_s.pop (h : w_s a (d + 1) sk K C F O) : w_s a d sk K C F O := fun b hb => h b (by omega)
theorem w_g.pop (h : w_g a (d + 1) be O) : w_g a d be O := fun b hb => h b (by omega)
/-- C: an ACT that leads past a BODY learns where that is -/
theorem w_ok_c {k x y z v : Int32} (h : w_ok k x y z) (hk : k = 2 ∨ k = 3) (hv : 0 ≤ v) : w_ok k x y v := by
  rcases h with ⟨rfl, -⟩ | ⟨rfl, -⟩ | ⟨rfl, h1, h2, -⟩ | ⟨rfl, h1, h2, -⟩ | ⟨rfl, -⟩ | ⟨rfl, -⟩
  · exact absurd hk (by decide)
  · exact absurd hk (by decide)
  · exact Or.inr (Or.inr (Or.inl ⟨rfl, h1, h2, hv⟩))
  · exact Or.inr (Or.inr (Or.inr (Or.inl ⟨rfl, h1, h2, hv⟩)))
  · exact absurd hk (by decide)
  · exact absurd hk (by decide)
theorem w_a.aim {s : Nat} {v : Int32} (h : w_a a P0 P1 P2 P3 W K A B C F) (hC : ∀ i, C' i = if i = s then v else C i) (hP : ∀ i, i < 60 → P3' i = if i = s then v else P3 i) (hs : K s = 2 ∨ K s = 3) (hv : 0 ≤ v) : w_a a P0 P1 P2 P3' W K A B C' F := by
  intro i hi
  obtain ⟨h1, h2, h3⟩ := h i hi
  rw [hC]
  by_cases e : i = s
  · subst e
    rw [if_pos rfl]
    refine ⟨fun h6 => ?_, w_ok_c h2 hs hv, h3⟩
    rw [hP i h6, if_pos rfl]
    obtain ⟨q1, q2, q3, q4, q5⟩ := h1 h6
    exact ⟨q1, q2, q3, rfl, q5⟩
  · rw [if_neg e]
    refine ⟨fun h6 => ?_, h2, h3⟩
    rw [hP i h6, if_neg e]
    exact h1 h6
theorem w_w.aim {s : Nat} {v : Int32} (h : w_w a d be K C F T O) (hC : ∀ i, C' i = if i = s then v else C i) (hs : F s = 0) : w_w a d be K C' F T O := by
  intro i hi hf
  have e : ¬ i = s := fun q => hf (by rw [q]; exact hs)
  rw [hC, if_neg e]
  exact h i hi hf
theorem w_s.aim {s : Nat} {v : Int32} (h : w_s a d sk K C F O) (hC : ∀ i, C' i = if i = s then v else C i) (hs : ∀ b, b < d → w_sk (O b) → ¬ sk b = s) : w_s a d sk K C' F O := by
  intro b hb ho
  rw [hC, if_neg (hs b hb ho)]
  exact h b hb ho
theorem w_h.aim {s : Nat} {v : Int32} (h : w_h a H C) (hC : ∀ i, C' i = if i = s then v else C i) (hs : C s = 0) (hv : v ≤ nI a) : w_h a H C' := by
  obtain ⟨h1, h2, h3⟩ := h
  refine ⟨h1, fun i hi => ?_, ?_⟩
  · rw [hC]
    by_cases e : i = s
    · rw [if_pos e]; exact Or.inl hv
    · rw [if_neg e]; exact h2 i hi
  · rcases h3 with h3 | ⟨i, i1, i2⟩
    · exact Or.inl h3
    · by_cases e : i = s
      · subst e; exact Or.inl (by rw [← i2, hs])
      · exact Or.inr ⟨i, i1, by rw [hC, if_neg e]; exact i2⟩
/-- L: those that wait for the topmost BODY learn where it leads -/
theorem w_a.cls {bh bk : Int32} {Q : Nat → Prop} [DecidablePred Q] (h : w_a a P0 P1 P2 P3 W K A B C F) (hQ : ∀ i, i < a → Q i → ¬ F i = 0 ∧ (K i = 2 ∨ K i = 3)) (hC : ∀ i, i < a → C' i = if Q i then (if F i = 1 then bh else bk) else C i) (hF : ∀ i, i < a → F' i = if Q i then 0 else F i) (hP : ∀ i, i < 60 → i < a → P3' i = if Q i then (if F i = 1 then bh else bk) else P3 i) (hW : ∀ i, i < 60 → i < a → W' i = if Q i then -1 else W i) (v1 : 0 ≤ bh) (v2 : 0 ≤ bk) : w_a a P0 P1 P2 P3' W' K A B C' F' := by
  intro i hi
  obtain ⟨h1, h2, h3⟩ := h i hi
  rw [hC i hi, hF i hi]
  by_cases e : Q i
  · rw [if_pos e, if_pos e]
    have v3 : 0 ≤ (if F i = 1 then bh else bk) := by split <;> assumption
    refine ⟨fun h6 => ?_, w_ok_c h2 (hQ i hi e).2 v3, Or.inl rfl⟩
    rw [hP i h6 hi, hW i h6 hi, if_pos e, if_pos e]
    obtain ⟨q1, q2, q3, q4, q5⟩ := h1 h6
    exact ⟨q1, q2, q3, rfl, Or.inl ⟨rfl, rfl⟩⟩
  · rw [if_neg e, if_neg e]
    refine ⟨fun h6 => ?_, h2, h3⟩
    rw [hP i h6 hi, hW i h6 hi, if_neg e, if_neg e]
    exact h1 h6
theorem w_w.cls {bh bk : Int32} {Q : Nat → Prop} [DecidablePred Q] (h : w_w a d be K C F T O) (hC : ∀ i, i < a → C' i = if Q i then (if F i = 1 then bh else bk) else C i) (hF : ∀ i, i < a → F' i = if Q i then 0 else F i) : w_w a d be K C' F' T O := by
  intro i hi hf
  rw [hF i hi] at hf
  by_cases e : Q i
  · rw [if_pos e] at hf; exact absurd rfl hf
  · rw [if_neg e] at hf
    rw [hC i hi, if_neg e]
    exact h i hi hf
theorem w_s.cls {bh bk : Int32} {Q : Nat → Prop} [DecidablePred Q] (h : w_s a d sk K C F O) (hQ : ∀ i, i < a → Q i → ¬ F i = 0) (hC : ∀ i, i < a → C' i = if Q i then (if F i = 1 then bh else bk) else C i) (hF : ∀ i, i < a → F' i = if Q i then 0 else F i) : w_s a d sk K C' F' O := by
  intro b hb ho
  obtain ⟨h1, h2, h3, h4, h5⟩ := h b hb ho
  have e : ¬ Q (sk b) := fun q => hQ _ h1 q h4
  rw [hC _ h1, hF _ h1, if_neg e, if_neg e]
  exact ⟨h1, h2, h3, h4, h5⟩
theorem w_h.cls {bh bk : Int32} {Q : Nat → Prop} [DecidablePred Q] (h : w_h a H C) (hQ : ∀ i, i < a → Q i → C i = 0) (hC : ∀ i, i < a → C' i = if Q i then (if F i = 1 then bh else bk) else C i) (v1 : bh ≤ nI a) (v2 : bk ≤ nI a) : w_h a H C' := by
  obtain ⟨h1, h2, h3⟩ := h
  refine ⟨h1, fun i hi => ?_, ?_⟩
  · rw [hC i hi]
    by_cases e : Q i
    · rw [if_pos e]
      left
      split <;> assumption
    · rw [if_neg e]; exact h2 i hi
  · rcases h3 with h3 | ⟨i, i1, i2⟩
    · exact Or.inl h3
    · by_cases e : Q i
      · exact Or.inl (by rw [← i2, hQ i i1 e])
      · exact Or.inr ⟨i, i1, by rw [hC i i1, if_neg e]; exact i2⟩
end
