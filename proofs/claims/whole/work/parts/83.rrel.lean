/-! READING: the relation between the two readers -/
abbrev r_wt (So : Nat → Int32) (ow : Nat → Nat) (sd : Nat → Int32) (c : Nat) : Prop := So (ow c) = 2 ∧ sd c = 0
def r_un (So : Nat → Int32) (ow : Nat → Nat) (sd : Nat → Int32) : Nat → Nat
  | 0 => 0
  | c + 1 => r_un So ow sd c + (if r_wt So ow sd c then 1 else 0)
def r_sz (So : Nat → Int32) (ow : Nat → Nat) (sd : Nat → Int32) (kk en : Nat → Nat) : Nat → Nat
  | 0 => 0
  | c + 1 => r_sz So ow sd kk en c + (en c - kk c) + (if r_wt So ow sd c then kk (c - 1) - en c - 1 else 0)
section
variable {So So' sd sd' : Nat → Int32} {ow ow' kk en kk' en' : Nat → Nat}
theorem r_un_eq : ∀ d, (∀ c, c < d → (r_wt So' ow' sd' c ↔ r_wt So ow sd c)) → r_un So' ow' sd' d = r_un So ow sd d
  | 0, _ => rfl
  | d + 1, h => by
    unfold r_un
    rw [r_un_eq d (fun c hc => h c (by omega))]
    simp only [h d (by omega)]
theorem r_un_mono : ∀ j c, r_un So ow sd c ≤ r_un So ow sd (c + j)
  | 0, c => Nat.le_refl _
  | j + 1, c => by
    have := r_un_mono j c
    show _ ≤ r_un So ow sd (c + j) + _
    omega
theorem r_sz_eq : ∀ d, (∀ c, c < d → (r_wt So' ow' sd' c ↔ r_wt So ow sd c) ∧ kk' c = kk c ∧ en' c = en c) → r_sz So' ow' sd' kk' en' d = r_sz So ow sd kk en d
  | 0, _ => rfl
  | d + 1, h => by
    unfold r_sz
    obtain ⟨h1, h2, h3⟩ := h d (by omega)
    rw [r_sz_eq d (fun c hc => h c (by omega)), h2, h3]
    cases d with
    | zero => simp only [h1, Nat.zero_sub, h2]
    | succ d =>
      rw [Nat.add_sub_cancel, (h d (by omega)).2.1]
      simp only [h1]
end
/-- the frames that the reference keeps: those of the class, and below the first of two BODIES the second, which waits -/
def r_fr (d : Nat) (kk en : Nat → Nat) (un : Nat → Nat) (wt : Nat → Prop) (e0 b0 a0 os sd mK mJ mB mC mI mY : Nat → Int32) : Prop := ∀ c, c < d → e0 c = nI (en c) ∧ mK (c + un (c + 1)) = nI (kk c) ∧ mJ (c + un (c + 1)) = nI (en c) ∧ mB (c + un (c + 1)) = b0 c ∧ mC (c + un (c + 1)) = a0 c ∧ mI (c + un (c + 1)) = os c ∧ mY (c + un (c + 1)) = sd c ∧ (wt c → 0 < c ∧ mK (c + un c) = nI (en c + 1) ∧ mJ (c + un c) = nI (kk (c - 1)) ∧ mB (c + un c) = b0 c ∧ mC (c + un c) = a0 c ∧ mI (c + un c) = os c ∧ mY (c + un c) = 1)
/-- whose the BODIES are -/
def r_ow (n d : Nat) (kk ow fm : Nat → Nat) (So Fr Be Bo os sd : Nat → Int32) : Prop := (0 < d → os 0 = -1 ∧ sd 0 = -1) ∧ ∀ c, 0 < c → c < d → ow c < n ∧ os c = nI (ow c) ∧ Bo (ow c) = sd (c - 1) ∧ Be (ow c) = nI (kk (c - 1)) ∧ r_cmp (So (ow c)) ∧ (sd c = 0 ∨ (sd c = 1 ∧ So (ow c) = 2)) ∧ Fr (ow c) = nI (fm c) ∧ fm c ≤ kk c ∧ (¬ (So (ow c) = 3 ∨ So (ow c) = 5) → fm c < kk c) ∧ ∀ c', c < c' → c' < d → fm c < kk c'
/-- second BODIES and how many STATEMENTS they have so far -/
def r_Z (n d : Nat) (kk en ow : Nat → Nat) (So Pa Bo os sd : Nat → Int32) : Prop := (∀ c, c + 1 < d → sd c = 1 → 0 < tx_cnt Pa Bo (os c) 1 n) ∧ (0 < d → sd (d - 1) = 1 → tx_cnt Pa Bo (os (d - 1)) 1 n = 0 → kk (d - 1) < en (d - 1)) ∧ ∀ c, c < d → r_wt So ow sd c → tx_cnt Pa Bo (os c) 1 n = 0
section
variable {n d beh kk0 en0 : Nat} {kk en ow fm kk' en' ow' fm' : Nat → Nat} {So Fr Be Pa Bo So' Fr' Be' Pa' Bo' os sd os' sd' : Nat → Int32}
theorem r_ow.top (h : r_ow n d kk ow fm So Fr Be Bo os sd) (hd : 0 < d) : os (d - 1) = r_top d ow := by
  unfold r_top
  by_cases e : d = 1
  · subst e; rw [if_pos rfl]; exact (h.1 hd).1
  · rw [if_neg e]; exact (h.2 (d - 1) (by omega) (by omega)).2.1
/-- a STATEMENT without a BODY -/
theorem r_ow.leaf (h : r_ow n d kk ow fm So Fr Be Bo os sd) (hd : 0 < d) (hkb : kk (d - 1) ≤ beh) (hk : ∀ c, kk' c = if c = d - 1 then beh else kk c) (hA : ∀ s, s < n → So' s = So s ∧ Fr' s = Fr s ∧ Be' s = Be s ∧ Bo' s = Bo s) : r_ow (n + 1) d kk' ow fm So' Fr' Be' Bo' os sd := by
  refine ⟨h.1, fun c c1 c2 => ?_⟩
  obtain ⟨q1, q2, q3, q4, q5, q6, q7, q8, q9, q10⟩ := h.2 c c1 c2
  obtain ⟨a1, a2, a3, a4⟩ := hA (ow c) q1
  rw [a1, a2, a3, a4, hk (c - 1), if_neg (show ¬ c - 1 = d - 1 by omega), hk c]
  refine ⟨by omega, q2, q3, q4, q5, q6, q7, ?_, ?_, fun c' c3 c4 => ?_⟩
  · split
    · rename_i e; rw [e] at q8; rw [e]; omega
    · exact q8
  · intro q
    have := q9 q
    split
    · rename_i e; rw [e] at this; rw [e]; omega
    · exact this
  · have := q10 c' c3 c4
    rw [hk]
    split
    · rename_i e; rw [e] at this; omega
    · exact this
/-- one with a BODY -/
theorem r_ow.opn (h : r_ow n d kk ow fm So Fr Be Bo os sd) (hd : 0 < d) (hkb : kk (d - 1) < beh) (h0 : kk (d - 1) ≤ kk0) (hloop : kk0 = kk (d - 1) → (So' n = 3 ∨ So' n = 5) ∧ (0 < d - 1 → (So (ow (d - 1)) = 3 ∨ So (ow (d - 1)) = 5) → ¬ fm (d - 1) = kk (d - 1))) (hk : ∀ c, kk' c = if c = d then kk0 else if c = d - 1 then beh else kk c) (hA : ∀ s, s < n → So' s = So s ∧ Fr' s = Fr s ∧ Be' s = Be s ∧ Bo' s = Bo s) (hn : r_cmp (So' n) ∧ Fr' n = nI (kk (d - 1)) ∧ Be' n = nI beh ∧ Bo' n = sd (d - 1)) (hos : ∀ c, c < d → os' c = os c ∧ sd' c = sd c) (hos2 : os' d = nI n ∧ sd' d = 0) : r_ow (n + 1) (d + 1) kk' (fun c => if c = d then n else ow c) (fun c => if c = d then kk (d - 1) else fm c) So' Fr' Be' Bo' os' sd' := by
  refine ⟨fun _ => by rw [(hos 0 hd).1, (hos 0 hd).2]; exact h.1 hd, fun c c1 c2 => ?_⟩
  by_cases e : c = d
  · subst e
    simp only [if_true]
    rw [hos2.1, hos2.2, (hos (c - 1) (by omega)).2, hk (c - 1), if_neg (show ¬ c - 1 = c by omega), if_pos rfl, hk c, if_pos rfl]
    refine ⟨by omega, rfl, hn.2.2.2, hn.2.2.1, hn.1, Or.inl rfl, hn.2.1, h0, fun q => ?_, fun c' c3 c4 => by omega⟩
    by_cases e2 : kk0 = kk (c - 1)
    · exact absurd (hloop e2).1 q
    · omega
  · simp only [if_neg e]
    obtain ⟨q1, q2, q3, q4, q5, q6, q7, q8, q9, q10⟩ := h.2 c c1 (by omega)
    obtain ⟨a1, a2, a3, a4⟩ := hA (ow c) q1
    rw [a1, a2, a3, a4, (hos c (by omega)).1, (hos c (by omega)).2, (hos (c - 1) (by omega)).2, hk (c - 1), if_neg (show ¬ c - 1 = d by omega), if_neg (show ¬ c - 1 = d - 1 by omega), hk c, if_neg e]
    refine ⟨by omega, q2, q3, q4, q5, q6, q7, ?_, ?_, fun c' c3 c4 => ?_⟩
    · split
      · rename_i e; rw [e] at q8; rw [e]; omega
      · exact q8
    · intro q
      have := q9 q
      split
      · rename_i e; rw [e] at this; rw [e]; omega
      · exact this
    · rw [hk]
      by_cases e3 : c' = d
      · rw [if_pos e3]
        by_cases e4 : c = d - 1
        · subst e4
          by_cases e5 : kk0 = kk (d - 1)
          · have z := (hloop e5).2 c1
            by_cases e6 : So (ow (d - 1)) = 3 ∨ So (ow (d - 1)) = 5
            · have := z e6; omega
            · have := q9 e6; omega
          · omega
        · have := q10 (d - 1) (by omega) (by omega)
          omega
      · rw [if_neg e3]
        have := q10 c' c3 (by omega)
        split
        · rename_i e; rw [e] at this; omega
        · exact this
/-- the first of two BODIES is over -/
theorem r_ow.turn (h : r_ow n d kk ow fm So Fr Be Bo os sd) (hd : 1 < d) (hke : kk (d - 1) < beh) (h2 : So (ow (d - 1)) = 2) (hk : ∀ c, kk' c = if c = d - 1 then beh else kk c) (hos : ∀ c, c < d → os' c = os c) (hsd : ∀ c, c < d → sd' c = if c = d - 1 then 1 else sd c) : r_ow n d kk' ow fm So Fr Be Bo os' sd' := by
  refine ⟨fun _ => by rw [hos 0 (by omega), hsd 0 (by omega), if_neg (by omega)]; exact h.1 (by omega), fun c c1 c2 => ?_⟩
  obtain ⟨q1, q2, q3, q4, q5, q6, q7, q8, q9, q10⟩ := h.2 c c1 c2
  rw [hos c c2, hsd (c - 1) (by omega), if_neg (show ¬ c - 1 = d - 1 by omega), hk (c - 1), if_neg (show ¬ c - 1 = d - 1 by omega), hk c, hsd c c2]
  refine ⟨q1, q2, q3, q4, q5, ?_, q7, ?_, ?_, fun c' c3 c4 => ?_⟩
  · split
    · rename_i e; subst e; exact Or.inr ⟨rfl, h2⟩
    · exact q6
  · split
    · rename_i e; rw [e] at q8; rw [e]; omega
    · exact q8
  · intro q
    have := q9 q
    split
    · rename_i e; rw [e] at this; rw [e]; omega
    · exact this
  · have := q10 c' c3 c4
    rw [hk]
    split
    · rename_i e; rw [e] at this; omega
    · exact this
theorem r_ow.pop (h : r_ow n (d + 1) kk ow fm So Fr Be Bo os sd) : r_ow n d kk ow fm So Fr Be Bo os sd := by
  refine ⟨fun _ => h.1 (by omega), fun c c1 c2 => ?_⟩
  obtain ⟨q1, q2, q3, q4, q5, q6, q7, q8, q9, q10⟩ := h.2 c c1 (by omega)
  exact ⟨q1, q2, q3, q4, q5, q6, q7, q8, q9, fun c' c3 c4 => q10 c' c3 (by omega)⟩
end
