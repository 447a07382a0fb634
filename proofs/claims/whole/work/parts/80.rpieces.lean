/-! READING: what the class tells at once and the reference finds behind it; pieces of the relation, on rows alone -/
/-- which lie in which -/
theorem nI_m1 {j : Nat} (h : j < 2 ^ 31) : ¬ nI j = -1 := fun q => by rw [k_eq h] at q; have : (-1 : Int32).toInt = -1 := rfl; omega
section
variable {n d : Nat} {ow ow' hi hi' : Nat → Nat} {Pa Pa' inn inn' : Nat → Int32}
theorem r_op_lt (h : r_I n d ow hi Pa inn) {s : Nat} (hs : r_op d ow s) : s < n := by
  obtain ⟨c, c1, c2, rfl⟩ := hs
  exact (h.1 c c1 c2).1
/-- the chain of the one that comes now: all that are open -/
theorem r_I.new (h : r_I n d ow hi Pa inn) (hd : 0 < d) (hn : n < 1000) (s : Nat) : (s < n ∧ (r_op d ow s ∨ n ≤ hi s)) ↔ ∃ p, p < n ∧ r_top d ow = nI p ∧ (s = p ∨ r_in d ow hi s p) := by
  obtain ⟨h1, h2, h3, h4, h5⟩ := id h
  have cl : s < n → ¬ r_op d ow s → ¬ n ≤ hi s := fun a b => by have := (h3 s a b).2.1; omega
  unfold r_top
  by_cases e : d = 1
  · subst e
    constructor
    · rintro ⟨a, b | b⟩
      · obtain ⟨c, c1, c2, -⟩ := b
        omega
      · exact absurd b (cl a (fun ⟨c, c1, c2, _⟩ => by omega))
    · rintro ⟨p, p1, p2, -⟩
      rw [if_pos rfl] at p2
      exact absurd p2.symm (nI_m1 (by omega))
  · rw [if_neg e]
    have hp := h1 (d - 1) (by omega) (by omega)
    constructor
    · rintro ⟨a, b⟩
      have ho : r_op d ow s := by
        rcases b with b | b
        · exact b
        · exact Classical.byContradiction (fun q => cl a q b)
      refine ⟨ow (d - 1), hp.1, rfl, ?_⟩
      obtain ⟨c, c1, c2, rfl⟩ := id ho
      by_cases ec : c = d - 1
      · exact Or.inl (by rw [ec])
      · exact Or.inr ⟨h2 c (d - 1) c1 (by omega) (by omega), Or.inl ho⟩
    · rintro ⟨p, p1, p2, p3⟩
      rw [nI_eq (by omega) (by omega)] at p2
      subst p2
      rcases p3 with rfl | ⟨q1, q2⟩
      · exact ⟨hp.1, Or.inl ⟨d - 1, by omega, by omega, rfl⟩⟩
      · refine ⟨by omega, Or.inl ?_⟩
        rcases q2 with q2 | q2
        · exact q2
        · exact Classical.byContradiction (fun q => (h3 s (by omega) q).2.2.2 (d - 1) (by omega) (by omega) ⟨q1, q2⟩)
theorem r_top_eq {c : Nat} (h0 : 0 < c) (h : ∀ c', c' < c → ow' c' = ow c') : r_top c ow' = r_top c ow := by
  unfold r_top
  by_cases e : c = 1
  · rw [if_pos e, if_pos e]
  · rw [if_neg e, if_neg e, h (c - 1) (by omega)]
/-- one without a BODY -/
theorem r_I.leaf (h : r_I n d ow hi Pa inn) (hd : 0 < d) (hn : n < 1000) (hPa : ∀ x, Pa' x = if x = n then r_top d ow else Pa x) (hin : ∀ x, x < n → inn' x = inn x) (hin2 : inn' n = 0) : r_I (n + 1) d ow (fun s => if s = n then n else hi s) Pa' inn' := by
  obtain ⟨h1, h2, h3, h4, h5⟩ := id h
  have hw : ∀ c, 0 < c → c < d → ¬ ow c = n := fun c a b => by have := (h1 c a b).1; omega
  have ein : ∀ s x, x ≤ n → (r_in d ow (fun s => if s = n then n else hi s) s x ↔ r_in d ow hi s x) := by
    intro s x hx
    unfold r_in
    by_cases e : s = n
    · subst e
      exact ⟨fun q => absurd q.1 (by omega), fun q => absurd q.1 (by omega)⟩
    · simp only [if_neg e]
  refine ⟨fun c c1 c2 => ?_, h2, fun s hs ho => ?_, fun x hx => ?_, fun x hx s => ?_⟩
  · have := h1 c c1 c2
    rw [hPa, if_neg (hw c c1 c2)]
    exact ⟨by omega, this.2⟩
  · by_cases e : s = n
    · subst e
      simp only [if_true]
      refine ⟨Nat.le_refl _, by omega, ?_, fun c c1 c2 q => ?_⟩
      · rw [hin2, Nat.sub_self]; rfl
      · have := (h1 c c1 c2).1
        omega
    · simp only [if_neg e]
      obtain ⟨q1, q2, q3, q4⟩ := h3 s (by omega) ho
      exact ⟨q1, by omega, by rw [hin s (by omega)]; exact q3, q4⟩
  · rw [hPa]
    by_cases e : x = n
    · subst e
      rw [if_pos rfl]
      unfold r_top
      by_cases ed : d = 1
      · rw [if_pos ed]; exact Or.inl rfl
      · rw [if_neg ed]; exact Or.inr ⟨ow (d - 1), (h1 (d - 1) (by omega) (by omega)).1, rfl⟩
    · rw [if_neg e]
      exact h4 x (by omega)
  · rw [ein s x (by omega), hPa]
    have er : ∀ p, p < x → (r_in d ow (fun s => if s = n then n else hi s) s p ↔ r_in d ow hi s p) := fun p hp => ein s p (by omega)
    by_cases e : x = n
    · subst e
      rw [if_pos rfl]
      constructor
      · intro q
        obtain ⟨p, p1, p2, p3⟩ := (h.new hd hn s).mp q
        exact ⟨p, p1, p2, p3.imp id (fun z => (er p p1).mpr z)⟩
      · rintro ⟨p, p1, p2, p3⟩
        exact (h.new hd hn s).mpr ⟨p, p1, p2, p3.imp id (fun z => (er p p1).mp z)⟩
    · rw [if_neg e]
      rw [h5 x (by omega) s]
      constructor
      · rintro ⟨p, p1, p2, p3⟩
        exact ⟨p, p1, p2, p3.imp id (fun z => (er p p1).mpr z)⟩
      · rintro ⟨p, p1, p2, p3⟩
        exact ⟨p, p1, p2, p3.imp id (fun z => (er p p1).mp z)⟩
/-- one with a BODY, which is open from now on -/
theorem r_I.opn (h : r_I n d ow hi Pa inn) (hd : 0 < d) (hn : n < 1000) (hPa : ∀ x, Pa' x = if x = n then r_top d ow else Pa x) (hin : ∀ x, x < n → inn' x = inn x) : r_I (n + 1) (d + 1) (fun c => if c = d then n else ow c) hi Pa' inn' := by
  obtain ⟨h1, h2, h3, h4, h5⟩ := id h
  have hw : ∀ c, 0 < c → c < d → ¬ ow c = n := fun c a b => by have := (h1 c a b).1; omega
  have eop : ∀ s, r_op (d + 1) (fun c => if c = d then n else ow c) s ↔ (r_op d ow s ∨ s = n) := by
    intro s
    constructor
    · rintro ⟨c, c1, c2, c3⟩
      simp only at c3
      by_cases e : c = d
      · rw [if_pos e] at c3; exact Or.inr c3.symm
      · rw [if_neg e] at c3; exact Or.inl ⟨c, c1, by omega, c3⟩
    · rintro (⟨c, c1, c2, c3⟩ | rfl)
      · exact ⟨c, c1, by omega, by simp only; rw [if_neg (by omega)]; exact c3⟩
      · exact ⟨d, hd, by omega, by simp only [if_true]⟩
  have ein : ∀ s x, x ≤ n → (r_in (d + 1) (fun c => if c = d then n else ow c) hi s x ↔ r_in d ow hi s x) := by
    intro s x hx
    unfold r_in
    rw [eop s]
    constructor
    · rintro ⟨a, (b | b) | b⟩
      · exact ⟨a, Or.inl b⟩
      · omega
      · exact ⟨a, Or.inr b⟩
    · rintro ⟨a, b | b⟩
      · exact ⟨a, Or.inl (Or.inl b)⟩
      · exact ⟨a, Or.inr b⟩
  have et : ∀ c, 0 < c → c ≤ d → r_top c (fun c => if c = d then n else ow c) = r_top c ow := fun c c0 c1 => r_top_eq c0 (fun c' q => if_neg (by omega))
  refine ⟨fun c c1 c2 => ?_, fun c c' c1 c2 c3 => ?_, fun s hs ho => ?_, fun x hx => ?_, fun x hx s => ?_⟩
  · rw [et c c1 (by omega)]
    simp only
    by_cases e : c = d
    · rw [if_pos e, hPa, if_pos rfl, e]
      exact ⟨by omega, rfl⟩
    · rw [if_neg e, hPa, if_neg (hw c c1 (by omega))]
      have := h1 c c1 (by omega)
      exact ⟨by omega, this.2⟩
  · simp only
    rw [if_neg (show ¬ c = d by omega)]
    by_cases e : c' = d
    · rw [if_pos e]; exact (h1 c c1 (by omega)).1
    · rw [if_neg e]; exact h2 c c' c1 c2 (by omega)
  · rw [eop] at ho
    have e : ¬ s = n := fun q => ho (Or.inr q)
    obtain ⟨q1, q2, q3, q4⟩ := h3 s (by omega) (fun q => ho (Or.inl q))
    refine ⟨q1, by omega, by rw [hin s (by omega)]; exact q3, fun c c1 c2 => ?_⟩
    simp only
    by_cases ec : c = d
    · rw [if_pos ec]; omega
    · rw [if_neg ec]; exact q4 c c1 (by omega)
  · rw [hPa]
    by_cases e : x = n
    · subst e
      rw [if_pos rfl]
      unfold r_top
      by_cases ed : d = 1
      · rw [if_pos ed]; exact Or.inl rfl
      · rw [if_neg ed]; exact Or.inr ⟨ow (d - 1), (h1 (d - 1) (by omega) (by omega)).1, rfl⟩
    · rw [if_neg e]
      exact h4 x (by omega)
  · rw [ein s x (by omega), hPa]
    have er : ∀ p, p < x → (r_in (d + 1) (fun c => if c = d then n else ow c) hi s p ↔ r_in d ow hi s p) := fun p hp => ein s p (by omega)
    by_cases e : x = n
    · subst e
      rw [if_pos rfl]
      constructor
      · intro q
        obtain ⟨p, p1, p2, p3⟩ := (h.new hd hn s).mp q
        exact ⟨p, p1, p2, p3.imp id (fun z => (er p p1).mpr z)⟩
      · rintro ⟨p, p1, p2, p3⟩
        exact (h.new hd hn s).mpr ⟨p, p1, p2, p3.imp id (fun z => (er p p1).mp z)⟩
    · rw [if_neg e]
      rw [h5 x (by omega) s]
      constructor
      · rintro ⟨p, p1, p2, p3⟩
        exact ⟨p, p1, p2, p3.imp id (fun z => (er p p1).mpr z)⟩
      · rintro ⟨p, p1, p2, p3⟩
        exact ⟨p, p1, p2, p3.imp id (fun z => (er p p1).mp z)⟩
/-- the topmost BODY is over -/
theorem r_I.pop (h : r_I n (d + 1) ow hi Pa inn) (hd : 0 < d) (hin : ∀ x, inn' x = if x = ow d then nI (n - 1 - ow d) else inn x) : r_I n d ow (fun s => if s = ow d then n - 1 else hi s) Pa inn' := by
  obtain ⟨h1, h2, h3, h4, h5⟩ := id h
  have hw := (h1 d hd (by omega)).1
  have eop : ∀ s, ¬ s = ow d → (r_op d ow s ↔ r_op (d + 1) ow s) := by
    intro s hs
    constructor
    · rintro ⟨c, c1, c2, c3⟩; exact ⟨c, c1, by omega, c3⟩
    · rintro ⟨c, c1, c2, c3⟩
      have : ¬ c = d := fun q => by subst q; exact hs c3.symm
      exact ⟨c, c1, by omega, c3⟩
  have nop : ¬ r_op d ow (ow d) := by
    rintro ⟨c, c1, c2, c3⟩
    have := h2 c d c1 c2 (by omega)
    omega
  have ein : ∀ s x, x < n → (r_in d ow (fun s => if s = ow d then n - 1 else hi s) s x ↔ r_in (d + 1) ow hi s x) := by
    intro s x hx
    unfold r_in
    by_cases e : s = ow d
    · subst e
      simp only [if_true]
      exact ⟨fun q => ⟨q.1, Or.inl ⟨d, hd, by omega, rfl⟩⟩, fun q => ⟨q.1, Or.inr (by omega)⟩⟩
    · simp only [if_neg e, eop s e]
  refine ⟨fun c c1 c2 => h1 c c1 (by omega), fun c c' c1 c2 c3 => h2 c c' c1 c2 (by omega), fun s hs ho => ?_, h4, fun x hx s => ?_⟩
  · rw [hin]
    by_cases e : s = ow d
    · subst e
      simp only [if_true]
      refine ⟨by omega, by omega, trivial, fun c c1 c2 q => ?_⟩
      have := h2 c d c1 c2 (by omega)
      omega
    · simp only [if_neg e]
      obtain ⟨q1, q2, q3, q4⟩ := h3 s hs (fun q => ho ((eop s e).mpr q))
      exact ⟨q1, q2, q3, fun c c1 c2 => q4 c c1 (by omega)⟩
  · rw [ein s x hx, h5 x hx s]
    constructor
    · rintro ⟨p, p1, p2, p3⟩
      exact ⟨p, p1, p2, p3.imp id (fun z => (ein s p (by omega)).mpr z)⟩
    · rintro ⟨p, p1, p2, p3⟩
      exact ⟨p, p1, p2, p3.imp id (fun z => (ein s p (by omega)).mp z)⟩
/-- the TREE itself is over -/
theorem r_I.root (h : r_I n 1 ow hi Pa inn) : r_I n 0 ow hi Pa inn := by
  obtain ⟨h1, h2, h3, h4, h5⟩ := id h
  have eop : ∀ s, r_op 0 ow s ↔ r_op 1 ow s := fun s => ⟨fun ⟨c, c1, c2, _⟩ => absurd c2 (by omega), fun ⟨c, c1, c2, _⟩ => absurd c2 (by omega)⟩
  refine ⟨fun c c1 c2 => absurd c2 (by omega), fun c c' c1 c2 c3 => absurd c3 (by omega), fun s hs ho => ?_, h4, fun x hx s => ?_⟩
  · obtain ⟨q1, q2, q3, q4⟩ := h3 s hs (fun q => ho ((eop s).mpr q))
    exact ⟨q1, q2, q3, fun c c1 c2 => absurd c2 (by omega)⟩
  · have := h5 x hx s
    unfold r_in at this ⊢
    simp only [eop]
    exact this
variable {dp : Nat → Nat} {So So' : Nat → Int32} {D : Nat}
theorem r_D.new (h : r_D n d ow dp Pa So D) (hd : 0 < d) (hPa : ∀ x, Pa' x = if x = n then r_top d ow else Pa x) : ∀ s, s < n + 1 → (Pa' s = -1 ∧ (if s = n then d else dp s) = 1) ∨ ∃ p, p < s ∧ Pa' s = nI p ∧ (if s = n then d else dp s) = (if p = n then d else dp p) + 1 := by
  obtain ⟨h1, h2, h3, h4, h5, h6⟩ := h
  intro s hs
  rw [hPa]
  by_cases e : s = n
  · subst e
    rw [if_pos rfl, if_pos rfl]
    unfold r_top
    by_cases ed : d = 1
    · rw [if_pos ed]; exact Or.inl ⟨rfl, ed⟩
    · rw [if_neg ed]
      have := h2 (d - 1) (by omega) (by omega)
      exact Or.inr ⟨ow (d - 1), this.1, rfl, by rw [if_neg (by omega), this.2]; omega⟩
  · rw [if_neg e, if_neg e]
    rcases h1 s (by omega) with q | ⟨p, p1, p2, p3⟩
    · exact Or.inl q
    · exact Or.inr ⟨p, p1, p2, by rw [if_neg (by omega)]; exact p3⟩
theorem r_D.leaf (h : r_D n d ow dp Pa So D) (hd : 0 < d) (hPa : ∀ x, Pa' x = if x = n then r_top d ow else Pa x) (hSo : ∀ x, x < n → So' x = So x) (hs : ¬ r_cmp (So' n)) : r_D (n + 1) d ow (fun s => if s = n then d else dp s) Pa' So' D := by
  have hnew := h.new hd hPa
  obtain ⟨h1, h2, h3, h4, h5, h6⟩ := h
  refine ⟨hnew, fun c c1 c2 => ?_, fun s hs' => ?_, h4, h5, ?_⟩
  · have := h2 c c1 c2
    simp only
    rw [if_neg (by omega)]
    exact ⟨by omega, this.2⟩
  · simp only
    by_cases e : s = n
    · subst e
      rw [if_pos rfl]
      exact ⟨h4, fun q => absurd q hs⟩
    · rw [if_neg e, hSo s (by omega)]
      exact h3 s (by omega)
  · rcases h6 with h6 | ⟨s, s1, s2, s3⟩
    · exact Or.inl h6
    · exact Or.inr ⟨s, by omega, by rw [hSo s s1]; exact s2, by simp only; rw [if_neg (by omega)]; exact s3⟩
theorem r_D.opn (h : r_D n d ow dp Pa So D) (hd : 0 < d) (hPa : ∀ x, Pa' x = if x = n then r_top d ow else Pa x) (hSo : ∀ x, x < n → So' x = So x) (hs : r_cmp (So' n)) : r_D (n + 1) (d + 1) (fun c => if c = d then n else ow c) (fun s => if s = n then d else dp s) Pa' So' (if D < d + 1 then d + 1 else D) := by
  have hnew := h.new hd hPa
  obtain ⟨h1, h2, h3, h4, h5, h6⟩ := h
  have hD : D ≤ (if D < d + 1 then d + 1 else D) ∧ d + 1 ≤ (if D < d + 1 then d + 1 else D) := by split <;> omega
  refine ⟨hnew, fun c c1 c2 => ?_, fun s hs' => ?_, hD.2, by omega, ?_⟩
  · simp only
    by_cases e : c = d
    · rw [if_pos e, if_pos rfl]; omega
    · have := h2 c c1 (by omega)
      rw [if_neg e, if_neg (by omega)]
      exact ⟨by omega, this.2⟩
  · simp only
    by_cases e : s = n
    · rw [if_pos e]
      exact ⟨by omega, fun _ => hD.2⟩
    · rw [if_neg e, hSo s (by omega)]
      have := h3 s (by omega)
      exact ⟨by omega, fun q => by have := this.2 q; omega⟩
  · by_cases e : D < d + 1
    · rw [if_pos e]
      exact Or.inr ⟨n, by omega, hs, by simp only [if_true]⟩
    · rw [if_neg e]
      rcases h6 with h6 | ⟨s, s1, s2, s3⟩
      · exact Or.inl h6
      · exact Or.inr ⟨s, by omega, by rw [hSo s s1]; exact s2, by simp only; rw [if_neg (by omega)]; exact s3⟩
theorem r_D.pop (h : r_D n (d + 1) ow dp Pa So D) : r_D n d ow dp Pa So D := by
  obtain ⟨h1, h2, h3, h4, h5, h6⟩ := h
  exact ⟨h1, fun c c1 c2 => h2 c c1 (by omega), h3, by omega, h5, h6⟩
/-- JUMPS -/
theorem r_J_eq {So So' : Nat → Int32} : ∀ n, (∀ x, x < n → So' x = So x) → r_J So' n = r_J So n
  | 0, _ => rfl
  | n + 1, h => by
    unfold r_J
    rw [r_J_eq n (fun x hx => h x (by omega)), h n (by omega)]
theorem r_J_le (So : Nat → Int32) : ∀ n, r_J So n ≤ n
  | 0 => Nat.le_refl _
  | n + 1 => by
    unfold r_J
    have := r_J_le So n
    split <;> omega
end
