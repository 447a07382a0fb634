/-! READING: the PLACES that are still to be read, and the STATEMENT that each ACT belongs to -/
def r_O (d : Nat) (kk en : Nat → Nat) (wt : Nat → Prop) : Prop := (∀ c, c < d → kk c ≤ en c) ∧ ∀ c, c + 1 < d → en (c + 1) ≤ kk c ∧ (wt (c + 1) → en (c + 1) + 1 < kk c)
def r_low (d : Nat) (kk en : Nat → Nat) (wt : Nat → Prop) (i : Nat) : Prop := (∃ c, c + 1 < d ∧ kk c ≤ i ∧ i < en c) ∨ ∃ c, c + 1 < d ∧ wt (c + 1) ∧ en (c + 1) < i ∧ i < kk c
section
variable {L n d d' k beh kk0 en0 : Nat} {kk en kk' en' : Nat → Nat} {wt wt' : Nat → Prop} {w0 : Prop} {So Fr Be Go St So' Fr' Be' Go' St' : Nat → Int32}
theorem r_O.mono (h : r_O d kk en wt) : ∀ j c : Nat, c + (j + 1) < d → en (c + (j + 1)) ≤ kk c
  | 0, c, hc => (h.2 c hc).1
  | j + 1, c, hc => by
    have h1 := r_O.mono h j (c + 1) (by omega)
    have h2 := (h.2 c (by omega)).1
    have h3 := h.1 (c + 1) (by omega)
    have e : c + 1 + (j + 1) = c + (j + 1 + 1) := by omega
    rw [e] at h1
    omega
theorem r_low_ge (h : r_O d kk en wt) {i : Nat} (hl : r_low d kk en wt i) : en (d - 1) ≤ i ∧ 1 < d := by
  have m : ∀ c, c + 1 < d → en (d - 1) ≤ en (c + 1) := by
    intro c hc
    by_cases e : c + 1 = d - 1
    · rw [e]; exact Nat.le_refl _
    · obtain ⟨j, hj⟩ : ∃ j, d - 1 = (c + 1) + (j + 1) := ⟨d - 1 - (c + 1) - 1, by omega⟩
      have := h.mono j (c + 1) (by omega)
      rw [← hj] at this
      have := h.1 (c + 1) (by omega)
      omega
  rcases hl with ⟨c, c1, c2, c3⟩ | ⟨c, c1, c2, c3, c4⟩
  · have := m c c1
    have := (h.2 c c1).1
    exact ⟨by omega, by omega⟩
  · have := m c c1
    exact ⟨by omega, by omega⟩
theorem r_F_top (hd : 0 < d) {i : Nat} : r_F d kk en wt i ↔ (kk (d - 1) ≤ i ∧ i < en (d - 1)) ∨ r_low d kk en wt i := by
  constructor
  · rintro (⟨c, c1, c2, c3⟩ | q)
    · by_cases e : c = d - 1
      · subst e; exact Or.inl ⟨c2, c3⟩
      · exact Or.inr (Or.inl ⟨c, by omega, c2, c3⟩)
    · exact Or.inr (Or.inr q)
  · rintro (q | ⟨c, c1, c2, c3⟩ | q)
    · exact Or.inl ⟨d - 1, by omega, q⟩
    · exact Or.inl ⟨c, by omega, c2, c3⟩
    · exact Or.inr q
theorem r_low_eq (hk : ∀ c, c + 1 < d → kk' c = kk c) (he : ∀ c, c < d → en' c = en c) (hw : ∀ c, c < d → (wt' c ↔ wt c)) {i : Nat} : r_low d kk' en' wt' i ↔ r_low d kk en wt i := by
  constructor
  · rintro (⟨c, c1, c2, c3⟩ | ⟨c, c1, c2, c3, c4⟩)
    · rw [hk c c1] at c2; rw [he c (by omega)] at c3; exact Or.inl ⟨c, c1, c2, c3⟩
    · rw [he (c + 1) c1] at c3; rw [hk c c1] at c4; exact Or.inr ⟨c, c1, (hw _ c1).mp c2, c3, c4⟩
  · rintro (⟨c, c1, c2, c3⟩ | ⟨c, c1, c2, c3, c4⟩)
    · exact Or.inl ⟨c, c1, by rw [hk c c1]; exact c2, by rw [he c (by omega)]; exact c3⟩
    · exact Or.inr ⟨c, c1, (hw _ c1).mpr c2, by rw [he (c + 1) c1]; exact c3, by rw [hk c c1]; exact c4⟩
/-- a STATEMENT without a BODY -/
theorem r_O.leaf (h : r_O d kk en wt) (hd : 0 < d) (hb : beh ≤ en (d - 1)) (hkb : kk (d - 1) ≤ beh) (hk : ∀ c, kk' c = if c = d - 1 then beh else kk c) : r_O d kk' en wt := by
  refine ⟨fun c hc => ?_, fun c hc => ?_⟩
  · rw [hk]
    by_cases e : c = d - 1
    · rw [if_pos e, e]; exact hb
    · rw [if_neg e]; exact h.1 c hc
  · rw [hk, if_neg (show ¬ c = d - 1 by omega)]
    exact h.2 c hc
theorem r_F_leaf (h : r_O d kk en wt) (hd : 0 < d) (hk2 : kk (d - 1) < en (d - 1)) (hk : ∀ c, kk' c = if c = d - 1 then kk (d - 1) + 1 else kk c) (i : Nat) : r_F d kk' en wt i ↔ (r_F d kk en wt i ∧ ¬ i = kk (d - 1)) := by
  rw [r_F_top hd, r_F_top hd, r_low_eq (kk := kk) (fun c hc => by rw [hk, if_neg (by omega)]) (fun c _ => rfl) (fun c _ => Iff.rfl), hk, if_pos rfl]
  constructor
  · rintro (q | q)
    · exact ⟨Or.inl ⟨by omega, q.2⟩, by omega⟩
    · have := (r_low_ge h q).1
      exact ⟨Or.inr q, by omega⟩
  · rintro ⟨q | q, q2⟩
    · exact Or.inl ⟨by omega, q.2⟩
    · exact Or.inr q
/-- one with a BODY -/
theorem r_O.opn (h : r_O d kk en wt) (hd : 0 < d) (hb : beh ≤ en (d - 1)) (hkb : kk (d - 1) ≤ beh) (h1 : kk0 ≤ en0) (h2 : en0 ≤ beh) (h3 : w0 → en0 + 1 < beh) (hk : ∀ c, kk' c = if c = d then kk0 else if c = d - 1 then beh else kk c) (he : ∀ c, en' c = if c = d then en0 else en c) (hw : ∀ c, c < d → (wt' c ↔ wt c)) (hw2 : wt' d ↔ w0) : r_O (d + 1) kk' en' wt' := by
  refine ⟨fun c hc => ?_, fun c hc => ?_⟩
  · rw [hk, he]
    by_cases e : c = d
    · rw [if_pos e, if_pos e]; exact h1
    · rw [if_neg e, if_neg e]
      by_cases e2 : c = d - 1
      · rw [if_pos e2, e2]; exact hb
      · rw [if_neg e2]; exact h.1 c (by omega)
  · rw [hk, if_neg (show ¬ c = d by omega), he]
    by_cases e : c + 1 = d
    · rw [if_pos e, if_pos (show c = d - 1 by omega)]
      exact ⟨h2, fun q => h3 (hw2.mp (by rw [← e]; exact q))⟩
    · rw [if_neg e, if_neg (show ¬ c = d - 1 by omega)]
      have := h.2 c (by omega)
      exact ⟨this.1, fun q => this.2 ((hw _ (by omega)).mp q)⟩
theorem r_F_opn (h : r_O d kk en wt) (hd : 0 < d) (hb : beh ≤ en (d - 1)) (hkb : kk (d - 1) < beh) (h0 : kk (d - 1) ≤ kk0) (h1 : kk0 ≤ en0) (h2 : en0 ≤ beh) (hk : ∀ c, kk' c = if c = d then kk0 else if c = d - 1 then beh else kk c) (he : ∀ c, en' c = if c = d then en0 else en c) (hw : ∀ c, c < d → (wt' c ↔ wt c)) (hw2 : wt' d ↔ w0) (i : Nat) : r_F (d + 1) kk' en' wt' i ↔ (r_F d kk en wt i ∧ ¬ (kk (d - 1) ≤ i ∧ i < beh ∧ ¬ (kk0 ≤ i ∧ i < en0) ∧ ¬ (w0 ∧ en0 < i))) := by
  have e1 : r_low (d + 1) kk' en' wt' i ↔ ((beh ≤ i ∧ i < en (d - 1)) ∨ (w0 ∧ en0 < i ∧ i < beh) ∨ r_low d kk en wt i) := by
    constructor
    · rintro (⟨c, c1, c2, c3⟩ | ⟨c, c1, c2, c3, c4⟩)
      · rw [hk, if_neg (show ¬ c = d by omega)] at c2
        rw [he, if_neg (show ¬ c = d by omega)] at c3
        by_cases e : c = d - 1
        · rw [if_pos e] at c2; rw [e] at c3; exact Or.inl ⟨c2, c3⟩
        · rw [if_neg e] at c2; exact Or.inr (Or.inr (Or.inl ⟨c, by omega, c2, c3⟩))
      · rw [hk, if_neg (show ¬ c = d by omega)] at c4
        rw [he] at c3
        by_cases e : c + 1 = d
        · rw [if_pos e] at c3
          rw [if_pos (show c = d - 1 by omega)] at c4
          exact Or.inr (Or.inl ⟨hw2.mp (by rw [← e]; exact c2), c3, c4⟩)
        · rw [if_neg e] at c3
          rw [if_neg (show ¬ c = d - 1 by omega)] at c4
          exact Or.inr (Or.inr (Or.inr ⟨c, by omega, (hw _ (by omega)).mp c2, c3, c4⟩))
    · rintro (q | q | ⟨c, c1, c2, c3⟩ | ⟨c, c1, c2, c3, c4⟩)
      · refine Or.inl ⟨d - 1, by omega, ?_, ?_⟩
        · rw [hk, if_neg (by omega), if_pos rfl]; exact q.1
        · rw [he, if_neg (by omega)]; exact q.2
      · refine Or.inr ⟨d - 1, by omega, ?_, ?_, ?_⟩
        · rw [show d - 1 + 1 = d by omega]; exact hw2.mpr q.1
        · rw [he, if_pos (by omega)]; exact q.2.1
        · rw [hk, if_neg (by omega), if_pos rfl]; exact q.2.2
      · refine Or.inl ⟨c, by omega, ?_, ?_⟩
        · rw [hk, if_neg (by omega), if_neg (by omega)]; exact c2
        · rw [he, if_neg (by omega)]; exact c3
      · refine Or.inr ⟨c, by omega, (hw _ (by omega)).mpr c2, ?_, ?_⟩
        · rw [he, if_neg (by omega)]; exact c3
        · rw [hk, if_neg (by omega), if_neg (by omega)]; exact c4
  rw [r_F_top (show 0 < d + 1 by omega), e1, r_F_top hd, Nat.add_sub_cancel, hk, he, if_pos rfl, if_pos rfl]
  constructor
  · rintro (q | q | q | q)
    · exact ⟨Or.inl ⟨by omega, by omega⟩, fun z => z.2.2.1 q⟩
    · exact ⟨Or.inl ⟨by omega, by omega⟩, fun z => by omega⟩
    · exact ⟨Or.inl ⟨by omega, by omega⟩, fun z => z.2.2.2 ⟨q.1, q.2.1⟩⟩
    · have := (r_low_ge h q).1
      exact ⟨Or.inr q, fun z => by omega⟩
  · rintro ⟨q | q, q2⟩
    · by_cases a1 : beh ≤ i
      · exact Or.inr (Or.inl ⟨a1, q.2⟩)
      · by_cases a2 : kk0 ≤ i ∧ i < en0
        · exact Or.inl a2
        · by_cases a3 : w0 ∧ en0 < i
          · exact Or.inr (Or.inr (Or.inl ⟨a3.1, a3.2, by omega⟩))
          · exact absurd ⟨q.1, by omega, a2, a3⟩ q2
    · exact Or.inr (Or.inr (Or.inr q))
/-- the first of two BODIES is over -/
theorem r_O.turn (h : r_O d kk en wt) (hd : 1 < d) (hw0 : wt (d - 1)) (hk : ∀ c, kk' c = if c = d - 1 then en (d - 1) + 1 else kk c) (he : ∀ c, en' c = if c = d - 1 then kk (d - 2) else en c) (hw : ∀ c, c < d → (wt' c ↔ (wt c ∧ ¬ c = d - 1))) : r_O d kk' en' wt' := by
  have q := h.2 (d - 2) (by omega)
  rw [show d - 2 + 1 = d - 1 by omega] at q
  refine ⟨fun c hc => ?_, fun c hc => ?_⟩
  · rw [hk, he]
    by_cases e : c = d - 1
    · rw [if_pos e, if_pos e]
      have := q.2 hw0
      omega
    · rw [if_neg e, if_neg e]; exact h.1 c hc
  · rw [hk, if_neg (show ¬ c = d - 1 by omega), he]
    by_cases e : c + 1 = d - 1
    · rw [if_pos e, show c = d - 2 by omega]
      exact ⟨Nat.le_refl _, fun z => absurd (by omega) ((hw (d - 2 + 1) (by omega)).mp z).2⟩
    · rw [if_neg e]
      have := h.2 c hc
      exact ⟨this.1, fun z => this.2 ((hw _ hc).mp z).1⟩
theorem r_F_turn (hd : 1 < d) (hw0 : wt (d - 1)) (hke : kk (d - 1) = en (d - 1)) (hk : ∀ c, kk' c = if c = d - 1 then en (d - 1) + 1 else kk c) (he : ∀ c, en' c = if c = d - 1 then kk (d - 2) else en c) (hw : ∀ c, c < d → (wt' c ↔ (wt c ∧ ¬ c = d - 1))) (i : Nat) : r_F d kk' en' wt' i ↔ r_F d kk en wt i := by
  constructor
  · rintro (⟨c, c1, c2, c3⟩ | ⟨c, c1, c2, c3, c4⟩)
    · rw [hk] at c2
      rw [he] at c3
      by_cases e : c = d - 1
      · rw [if_pos e] at c2 c3
        exact Or.inr ⟨d - 2, by omega, by rw [show d - 2 + 1 = d - 1 by omega]; exact hw0, by rw [show d - 2 + 1 = d - 1 by omega]; omega, c3⟩
      · rw [if_neg e] at c2 c3
        exact Or.inl ⟨c, c1, c2, c3⟩
    · have z := (hw _ c1).mp c2
      rw [he, if_neg z.2] at c3
      rw [hk, if_neg (by omega)] at c4
      exact Or.inr ⟨c, c1, z.1, c3, c4⟩
  · rintro (⟨c, c1, c2, c3⟩ | ⟨c, c1, c2, c3, c4⟩)
    · by_cases e : c = d - 1
      · subst e; omega
      · exact Or.inl ⟨c, c1, by rw [hk, if_neg e]; exact c2, by rw [he, if_neg e]; exact c3⟩
    · by_cases e : c + 1 = d - 1
      · refine Or.inl ⟨d - 1, by omega, ?_, ?_⟩
        · rw [hk, if_pos rfl]; rw [e] at c3; omega
        · rw [he, if_pos rfl, show d - 2 = c by omega]; exact c4
      · exact Or.inr ⟨c, c1, (hw _ c1).mpr ⟨c2, e⟩, by rw [he, if_neg e]; exact c3, by rw [hk, if_neg (by omega)]; exact c4⟩
/-- a BODY is over -/
theorem r_O.pop (h : r_O (d + 1) kk en wt) : r_O d kk en wt := ⟨fun c hc => h.1 c (by omega), fun c hc => h.2 c (by omega)⟩
theorem r_F_pop (hke : kk d = en d) (hw : ¬ wt d ∨ d = 0) (i : Nat) : r_F d kk en wt i ↔ r_F (d + 1) kk en wt i := by
  constructor
  · rintro (⟨c, c1, c2, c3⟩ | ⟨c, c1, c2, c3, c4⟩)
    · exact Or.inl ⟨c, by omega, c2, c3⟩
    · exact Or.inr ⟨c, by omega, c2, c3, c4⟩
  · rintro (⟨c, c1, c2, c3⟩ | ⟨c, c1, c2, c3, c4⟩)
    · by_cases e : c = d
      · subst e; omega
      · exact Or.inl ⟨c, by omega, c2, c3⟩
    · by_cases e : c + 1 = d
      · rw [e] at c2
        rcases hw with hw | hw
        · exact absurd c2 hw
        · omega
      · exact Or.inr ⟨c, by omega, c2, c3, c4⟩
/-- the ACTS of a STATEMENT that comes now -/
theorem r_C.stp {R : Nat → Prop} (h : r_C L n d kk en wt So Fr Be Go St) (hM : ∀ s, s < n → ∀ i, r_M So' Fr' Be' Go' s i ↔ r_M So Fr Be Go s i) (hR1 : ∀ i, i < L → (r_M So' Fr' Be' Go' n i ↔ R i)) (hF : ∀ i, i < L → (r_F d' kk' en' wt' i ↔ (r_F d kk en wt i ∧ ¬ R i))) (hR2 : ∀ i, i < L → R i → r_F d kk en wt i) (hSt : ∀ i, i < L → R i → St' i = nI n) (hSt2 : ∀ i, i < L → ¬ R i → St' i = St i) : r_C L (n + 1) d' kk' en' wt' So' Fr' Be' Go' St' := by
  intro i hi
  rw [hF i hi]
  by_cases r : R i
  · right
    rcases h i hi with ⟨h1, h2⟩ | ⟨h1, -⟩
    · refine ⟨fun q => q.2 r, n, by omega, hSt i hi r, (hR1 i hi).mpr r, fun s' hs' hm => ?_⟩
      by_cases e : s' = n
      · exact e
      · exact absurd ((hM s' (by omega) i).mp hm) (h2 s' (by omega))
    · exact absurd (hR2 i hi r) h1
  · rcases h i hi with ⟨h1, h2⟩ | ⟨h1, s, s1, s2, s3, s4⟩
    · refine Or.inl ⟨⟨h1, r⟩, fun s' hs' hm => ?_⟩
      by_cases e : s' = n
      · subst e; exact r ((hR1 i hi).mp hm)
      · exact h2 s' (by omega) ((hM s' (by omega) i).mp hm)
    · refine Or.inr ⟨fun q => h1 q.1, s, by omega, by rw [hSt2 i hi r]; exact s2, (hM s s1 i).mpr s3, fun s' hs' hm => ?_⟩
      by_cases e : s' = n
      · subst e; exact absurd ((hR1 i hi).mp hm) r
      · exact s4 s' (by omega) ((hM s' (by omega) i).mp hm)
theorem r_C.cls (h : r_C L n d kk en wt So Fr Be Go St) (hF : ∀ i, i < L → (r_F d' kk' en' wt' i ↔ r_F d kk en wt i)) : r_C L n d' kk' en' wt' So Fr Be Go St := by
  intro i hi
  rw [hF i hi]
  exact h i hi
end
