/-! READING: the reference's frames, second BODIES, sizes -/
section
variable {n d beh kk0 en0 : Nat} {kk en ow kk' en' ow' un un' : Nat → Nat} {wt wt' : Nat → Prop} {e0 b0 a0 os sd mK mJ mB mC mI mY e0' b0' a0' os' sd' mK' mJ' mB' mC' mI' mY' : Nat → Int32}
theorem r_fr.leaf (h : r_fr d kk en un wt e0 b0 a0 os sd mK mJ mB mC mI mY) (hd : 0 < d) (hmono : ∀ c, c < d → un (c + 1) ≤ un d) (hstep : ∀ c, c < d → wt c → un (c + 1) = un c + 1) (hun : ∀ c, c ≤ d → un' c = un c) (hwt : ∀ c, c < d → (wt' c ↔ wt c)) (hk : ∀ c, kk' c = if c = d - 1 then beh else kk c) (hmK : ∀ x, mK' x = if x = d - 1 + un d then nI beh else mK x) : r_fr d kk' en un' wt' e0 b0 a0 os sd mK' mJ mB mC mI mY := by
  intro c hc
  obtain ⟨q1, q2, q3, q4, q5, q6, q7, q8⟩ := h c hc
  rw [hun (c + 1) (by omega), hun c (by omega)]
  have hm := hmono c hc
  refine ⟨q1, ?_, q3, q4, q5, q6, q7, fun w => ?_⟩
  · rw [hmK, hk]
    by_cases e : c = d - 1
    · subst e
      rw [if_pos (by rw [show d - 1 + 1 = d by omega]), if_pos rfl]
    · rw [if_neg (by omega), if_neg e]; exact q2
  · have w' := (hwt c hc).mp w
    obtain ⟨z0, z1, z2, z3⟩ := q8 w'
    have := hstep c hc w'
    refine ⟨z0, ?_, ?_, z3⟩
    · rw [hmK, if_neg (by omega)]; exact z1
    · rw [hk, if_neg (by omega)]; exact z2
theorem r_fr.opn {w0 : Prop} {b1 a1 : Int32} (h : r_fr d kk en un wt e0 b0 a0 os sd mK mJ mB mC mI mY) (hd : 0 < d) (hmono : ∀ c, c < d → un (c + 1) ≤ un d) (hstep : ∀ c, c < d → wt c → un (c + 1) = un c + 1) (hun : ∀ c, c ≤ d → un' c = un c) (hun2 : (w0 ∧ un' (d + 1) = un d + 1) ∨ (¬ w0 ∧ un' (d + 1) = un d)) (hwt : ∀ c, c < d → (wt' c ↔ wt c)) (hwt2 : wt' d ↔ w0) (hk : ∀ c, kk' c = if c = d then kk0 else if c = d - 1 then beh else kk c) (he : ∀ c, en' c = if c = d then en0 else en c) (hcl : ∀ c, c < d → e0' c = e0 c ∧ b0' c = b0 c ∧ a0' c = a0 c ∧ os' c = os c ∧ sd' c = sd c) (hcl2 : e0' d = nI en0 ∧ b0' d = b1 ∧ a0' d = a1 ∧ os' d = nI n ∧ sd' d = 0) (hmK : ∀ x, x < d + un d → mK' x = if x = d - 1 + un d then nI beh else mK x) (hm : ∀ x, x < d + un d → mJ' x = mJ x ∧ mB' x = mB x ∧ mC' x = mC x ∧ mI' x = mI x ∧ mY' x = mY x) (hQ : mK' (d + un' (d + 1)) = nI kk0 ∧ mJ' (d + un' (d + 1)) = nI en0 ∧ mB' (d + un' (d + 1)) = b1 ∧ mC' (d + un' (d + 1)) = a1 ∧ mI' (d + un' (d + 1)) = nI n ∧ mY' (d + un' (d + 1)) = 0) (hQ2 : w0 → mK' (d + un d) = nI (en0 + 1) ∧ mJ' (d + un d) = nI beh ∧ mB' (d + un d) = b1 ∧ mC' (d + un d) = a1 ∧ mI' (d + un d) = nI n ∧ mY' (d + un d) = 1) : r_fr (d + 1) kk' en' un' wt' e0' b0' a0' os' sd' mK' mJ' mB' mC' mI' mY' := by
  intro c hc
  by_cases e : c = d
  · subst e
    rw [hk c, he c, if_pos rfl, if_pos rfl, hcl2.2.1, hcl2.2.2.1, hcl2.2.2.2.1, hcl2.2.2.2.2]
    refine ⟨hcl2.1, hQ.1, hQ.2.1, hQ.2.2.1, hQ.2.2.2.1, hQ.2.2.2.2.1, hQ.2.2.2.2.2, fun w => ?_⟩
    obtain ⟨z1, z2, z3⟩ := hQ2 (hwt2.mp w)
    rw [hun c (Nat.le_refl _), hk (c - 1), if_neg (by omega), if_pos rfl]
    exact ⟨hd, z1, z2, z3⟩
  · have hc' : c < d := by omega
    obtain ⟨q1, q2, q3, q4, q5, q6, q7, q8⟩ := h c hc'
    obtain ⟨a1, a2, a3, a4, a5⟩ := hcl c hc'
    have hm1 := hmono c hc'
    obtain ⟨m1, m2, m3, m4, m5⟩ := hm (c + un (c + 1)) (by omega)
    rw [hun (c + 1) (by omega), hun c (by omega), a1, a2, a3, a4, a5, hk c, he c, if_neg e, if_neg e, m1, m2, m3, m4, m5, hmK (c + un (c + 1)) (by omega)]
    refine ⟨q1, ?_, q3, q4, q5, q6, q7, fun w => ?_⟩
    · by_cases e2 : c = d - 1
      · subst e2
        rw [if_pos (by rw [show d - 1 + 1 = d by omega]), if_pos rfl]
      · rw [if_neg (by omega), if_neg e2]; exact q2
    · have w' := (hwt c hc').mp w
      obtain ⟨z0, z1, z2, z3, z4, z5, z6⟩ := q8 w'
      have := hstep c hc' w'
      obtain ⟨p1, p2, p3, p4, p5⟩ := hm (c + un c) (by omega)
      rw [p1, p2, p3, p4, p5, hmK (c + un c) (by omega), if_neg (by omega), hk (c - 1), if_neg (by omega), if_neg (by omega)]
      exact ⟨z0, z1, z2, z3, z4, z5, z6⟩
theorem r_fr.turn (h : r_fr d kk en un wt e0 b0 a0 os sd mK mJ mB mC mI mY) (hd : 1 < d) (hw0 : wt (d - 1)) (hun : ∀ c, c < d → un' c = un c) (hun2 : un' d = un (d - 1)) (hwt : ∀ c, c < d → (wt' c ↔ (wt c ∧ ¬ c = d - 1))) (hk : ∀ c, kk' c = if c = d - 1 then en (d - 1) + 1 else kk c) (he : ∀ c, en' c = if c = d - 1 then kk (d - 2) else en c) (hcl : ∀ c, c < d → e0' c = (if c = d - 1 then nI (kk (d - 2)) else e0 c) ∧ b0' c = b0 c ∧ a0' c = a0 c ∧ os' c = os c ∧ sd' c = if c = d - 1 then 1 else sd c) : r_fr d kk' en' un' wt' e0' b0' a0' os' sd' mK mJ mB mC mI mY := by
  intro c hc
  obtain ⟨q1, q2, q3, q4, q5, q6, q7, q8⟩ := h c hc
  obtain ⟨a1, a2, a3, a4, a5⟩ := hcl c hc
  rw [a1, a2, a3, a4, a5, hk c, he c]
  by_cases e : c = d - 1
  · subst e
    obtain ⟨z0, z1, z2, z3, z4, z5, z6⟩ := q8 hw0
    rw [show d - 1 + 1 = d by omega, hun2]
    simp only [if_true]
    rw [show d - 1 - 1 = d - 2 by omega] at z2
    exact ⟨trivial, z1, z2, z3, z4, z5, z6, fun w => absurd rfl ((hwt _ hc).mp w).2⟩
  · simp only [if_neg e]
    rw [hun (c + 1) (by omega), hun c (by omega)]
    refine ⟨q1, q2, q3, q4, q5, q6, q7, fun w => ?_⟩
    rw [hk (c - 1), if_neg (by omega)]
    exact q8 ((hwt c hc).mp w).1
theorem r_fr.pop (h : r_fr (d + 1) kk en un wt e0 b0 a0 os sd mK mJ mB mC mI mY) : r_fr d kk en un wt e0 b0 a0 os sd mK mJ mB mC mI mY := fun c hc => h c (by omega)
end
section
variable {n d beh kk0 en0 : Nat} {kk en ow fm kk' en' ow' fm' : Nat → Nat} {So Fr Be Pa Bo So' Fr' Be' Pa' Bo' os sd os' sd' : Nat → Int32}
theorem tx_cnt_new (hPB : ∀ s, s < n → Pa' s = Pa s ∧ Bo' s = Bo s) (a b : Int32) : tx_cnt Pa' Bo' a b (n + 1) = tx_cnt Pa Bo a b n + (if Pa' n = a ∧ Bo' n = b then 1 else 0) := by
  show tx_cnt Pa' Bo' a b n + (if Pa' n = a ∧ Bo' n = b then 1 else 0) = _
  rw [tx_cnt_eq a b n hPB]
/-- owners differ -/
theorem r_os_ne (ho : r_ow n d kk ow fm So Fr Be Bo os sd) (hi : ∀ c c', 0 < c → c < c' → c' < d → ow c < ow c') (hn : n < 1000) {c c' : Nat} (h1 : c < c') (h2 : c' < d) : ¬ os c' = os c := by
  intro q
  rw [(ho.2 c' (by omega) h2).2.1] at q
  by_cases e : c = 0
  · subst e
    rw [(ho.1 (by omega)).1] at q
    exact nI_m1 (by have := (ho.2 c' (by omega) h2).1; omega) q
  · rw [(ho.2 c (by omega) (by omega)).2.1, nI_eq (by have := (ho.2 c' (by omega) h2).1; omega) (by have := (ho.2 c (by omega) (by omega)).1; omega)] at q
    have := hi c c' (by omega) h1 h2
    omega
theorem r_Z.leaf (h : r_Z n d kk en ow So Pa Bo os sd) (ho : r_ow n d kk ow fm So Fr Be Bo os sd) (hi : ∀ c c', 0 < c → c < c' → c' < d → ow c < ow c') (hn : n < 1000) (hd : 0 < d) (hPB : ∀ s, s < n → Pa' s = Pa s ∧ Bo' s = Bo s) (hPn : Pa' n = os (d - 1)) (hBn : Bo' n = sd (d - 1)) (hS : ∀ c, c < d → (r_wt So' ow sd c ↔ r_wt So ow sd c)) : r_Z (n + 1) d kk' en ow So' Pa' Bo' os sd := by
  refine ⟨fun c hc hs => ?_, fun _ hs h0 => ?_, fun c hc hw => ?_⟩
  · rw [tx_cnt_new hPB]
    have := h.1 c hc hs
    omega
  · rw [tx_cnt_new hPB, hPn, hBn, if_pos ⟨rfl, hs⟩] at h0
    omega
  · have hw' := (hS c hc).mp hw
    rw [tx_cnt_new hPB, h.2.2 c hc hw', hPn, hBn, if_neg]
    rintro ⟨q1, q2⟩
    by_cases e : c = d - 1
    · subst e
      rw [hw'.2] at q2
      exact absurd q2 (by decide)
    · exact r_os_ne ho hi hn (show c < d - 1 by omega) (by omega) q1
theorem r_Z.opn (h : r_Z n d kk en ow So Pa Bo os sd) (ho : r_ow n d kk ow fm So Fr Be Bo os sd) (hi : ∀ c c', 0 < c → c < c' → c' < d → ow c < ow c') (hn : n < 1000) (hd : 0 < d) (hPB : ∀ s, s < n → Pa' s = Pa s ∧ Bo' s = Bo s) (hPn : Pa' n = os (d - 1)) (hBn : Bo' n = sd (d - 1)) (hP : ∀ x, x < n → Pa x = -1 ∨ ∃ p, p < x ∧ Pa x = nI p) (hS : ∀ c, c < d → (r_wt So' ow' sd' c ↔ r_wt So ow sd c)) (hos : ∀ c, c < d → os' c = os c ∧ sd' c = sd c) (hos2 : os' d = nI n ∧ sd' d = 0) : r_Z (n + 1) (d + 1) kk' en' ow' So' Pa' Bo' os' sd' := by
  refine ⟨fun c hc hs => ?_, fun _ hs h0 => ?_, fun c hc hw => ?_⟩
  · rw [(hos c (by omega)).1]
    rw [(hos c (by omega)).2] at hs
    rw [tx_cnt_new hPB, hPn, hBn]
    by_cases e : c = d - 1
    · subst e
      rw [if_pos ⟨rfl, hs⟩]; omega
    · have := h.1 c (by omega) hs
      omega
  · rw [Nat.add_sub_cancel, hos2.2] at hs
    exact absurd hs (by decide)
  · by_cases e : c = d
    · subst e
      rw [hos2.1]
      refine tx_cnt_zero _ (fun s hs q => ?_)
      by_cases e2 : s = n
      · subst e2
        rw [hPn] at q
        by_cases e3 : c = 1
        · subst e3
          rw [(ho.1 hd).1] at q
          exact nI_m1 (by omega) q.1.symm
        · have z := ho.2 (c - 1) (by omega) (by omega)
          rw [z.2.1, nI_eq (by omega) (by omega)] at q
          omega
      · rw [(hPB s (by omega)).1] at q
        rcases hP s (by omega) with z | ⟨p, p1, p2⟩
        · rw [z] at q; exact nI_m1 (by omega) q.1.symm
        · rw [p2, nI_eq (by omega) (by omega)] at q; omega
    · have hw' := (hS c (by omega)).mp hw
      rw [(hos c (by omega)).1, tx_cnt_new hPB, h.2.2 c (by omega) hw', hPn, hBn, if_neg]
      rintro ⟨q1, q2⟩
      by_cases e : c = d - 1
      · subst e
        rw [hw'.2] at q2
        exact absurd q2 (by decide)
      · exact r_os_ne ho hi hn (show c < d - 1 by omega) (by omega) q1
theorem r_Z.turn (h : r_Z n d kk en ow So Pa Bo os sd) (hd : 1 < d) (hke : kk' (d - 1) < en' (d - 1)) (hos : ∀ c, c < d → os' c = os c) (hsd : ∀ c, c < d → sd' c = if c = d - 1 then 1 else sd c) : r_Z n d kk' en' ow So Pa Bo os' sd' := by
  refine ⟨fun c hc hs => ?_, fun _ _ _ => hke, fun c hc hw => ?_⟩
  · rw [hos c (by omega)]
    rw [hsd c (by omega), if_neg (by omega)] at hs
    exact h.1 c hc hs
  · rw [hos c hc]
    have h2 := hw.2
    rw [hsd c hc] at h2
    by_cases e : c = d - 1
    · rw [if_pos e] at h2; exact absurd h2 (by decide)
    · rw [if_neg e] at h2; exact h.2.2 c hc ⟨hw.1, h2⟩
theorem r_Z.pop (h : r_Z n (d + 1) kk en ow So Pa Bo os sd) : r_Z n d kk en ow So Pa Bo os sd := by
  refine ⟨fun c hc hs => h.1 c (by omega) hs, fun hd hs h0 => ?_, fun c hc hw => h.2.2 c (by omega) hw⟩
  have := h.1 (d - 1) (by omega) hs
  omega
/-- sizes -/
theorem r_sz_top (hd : 0 < d) : r_sz So ow sd kk en d = r_sz So ow sd kk en (d - 1) + (en (d - 1) - kk (d - 1)) + (if r_wt So ow sd (d - 1) then kk (d - 2) - en (d - 1) - 1 else 0) := by
  obtain ⟨c, rfl⟩ : ∃ c, d = c + 1 := ⟨d - 1, by omega⟩
  rfl
theorem r_un_top (hd : 0 < d) : r_un So ow sd d = r_un So ow sd (d - 1) + (if r_wt So ow sd (d - 1) then 1 else 0) := by
  obtain ⟨c, rfl⟩ : ∃ c, d = c + 1 := ⟨d - 1, by omega⟩
  rfl
theorem r_sz_leaf (hd : 0 < d) (hS : ∀ c, c < d → (r_wt So' ow sd c ↔ r_wt So ow sd c)) (hkb : kk (d - 1) < beh) (hb : beh ≤ en (d - 1)) (hk : ∀ c, kk' c = if c = d - 1 then beh else kk c) : r_sz So' ow sd kk' en d + (beh - kk (d - 1)) = r_sz So ow sd kk en d := by
  rw [r_sz_top hd, r_sz_top hd, r_sz_eq (So := So) (ow := ow) (sd := sd) (kk := kk) (en := en) (d - 1) (fun c hc => ⟨hS c (by omega), by rw [hk, if_neg (by omega)], rfl⟩), hk (d - 1), if_pos rfl]
  by_cases e : d = 1
  · subst e
    simp only [hS 0 (by omega), hk, show (1 : Nat) - 1 = 0 from rfl, show (1 : Nat) - 2 = 0 from rfl, if_true]
    have h1 : kk 0 < beh := hkb
    have h2 : beh ≤ en 0 := hb
    have z1 : beh - en 0 - 1 = 0 := by omega
    have z2 : kk 0 - en 0 - 1 = 0 := by omega
    rw [z1, z2]
    split <;> omega
  · have e2 : kk' (d - 2) = kk (d - 2) := by rw [hk, if_neg (by omega)]
    rw [e2]
    simp only [hS (d - 1) (by omega)]
    omega
theorem r_sz_opn (hd : 0 < d) (hS : ∀ c, c < d → (r_wt So' ow' sd' c ↔ r_wt So ow sd c)) (hkb : kk (d - 1) < beh) (hb : beh ≤ en (d - 1)) (hk : ∀ c, kk' c = if c = d then kk0 else if c = d - 1 then beh else kk c) (he : ∀ c, en' c = if c = d then en0 else en c) : r_sz So' ow' sd' kk' en' (d + 1) + (beh - kk (d - 1)) = r_sz So ow sd kk en d + (en0 - kk0) + (if r_wt So' ow' sd' d then beh - en0 - 1 else 0) := by
  rw [r_sz_top (show 0 < d + 1 by omega), Nat.add_sub_cancel, r_sz_top hd, r_sz_top hd, r_sz_eq (So := So) (ow := ow) (sd := sd) (kk := kk) (en := en) (d - 1) (fun c hc => ⟨hS c (by omega), by rw [hk, if_neg (by omega), if_neg (by omega)], by rw [he, if_neg (by omega)]⟩), hk d, he d, if_pos rfl, if_pos rfl, hk (d - 1), if_neg (show ¬ d - 1 = d by omega), if_pos rfl, he (d - 1), if_neg (show ¬ d - 1 = d by omega), show d + 1 - 2 = d - 1 by omega, hk (d - 1), if_neg (show ¬ d - 1 = d by omega), if_pos rfl]
  by_cases e : d = 1
  · subst e
    simp only [hS 0 (by omega), hk, show (1 : Nat) - 1 = 0 from rfl, show (1 : Nat) - 2 = 0 from rfl, if_true]
    have h1 : kk 0 < beh := hkb
    have h2 : beh ≤ en 0 := hb
    have z1 : beh - en 0 - 1 = 0 := by omega
    have z2 : kk 0 - en 0 - 1 = 0 := by omega
    have z3 : (if (0 : Nat) = 1 then kk0 else beh) = beh := if_neg (by omega)
    rw [z3, z1, z2]
    have z4 : (if r_wt So ow sd 0 then 0 else 0) = 0 := by split <;> rfl
    rw [z4]
    omega
  · have e2 : kk' (d - 2) = kk (d - 2) := by rw [hk, if_neg (by omega), if_neg (by omega)]
    rw [e2]
    simp only [hS (d - 1) (by omega)]
    omega
theorem r_sz_turn (hd : 1 < d) (hw0 : r_wt So ow sd (d - 1)) (hke : kk (d - 1) = en (d - 1)) (hk : ∀ c, kk' c = if c = d - 1 then en (d - 1) + 1 else kk c) (he : ∀ c, en' c = if c = d - 1 then kk (d - 2) else en c) (hS : ∀ c, c < d → (r_wt So ow sd' c ↔ (r_wt So ow sd c ∧ ¬ c = d - 1))) : r_sz So ow sd' kk' en' d = r_sz So ow sd kk en d ∧ r_un So ow sd' d + 1 = r_un So ow sd d := by
  have n1 : ¬ r_wt So ow sd' (d - 1) := fun q => ((hS _ (by omega)).mp q).2 rfl
  have eqv : ∀ c, c < d - 1 → (r_wt So ow sd' c ↔ r_wt So ow sd c) := fun c hc => ⟨fun q => ((hS c (by omega)).mp q).1, fun q => (hS c (by omega)).mpr ⟨q, by omega⟩⟩
  constructor
  · rw [r_sz_top (by omega), r_sz_top (So := So) (sd := sd) (show 0 < d by omega), r_sz_eq (So := So) (ow := ow) (sd := sd) (kk := kk) (en := en) (d - 1) (fun c hc => ⟨eqv c hc, by rw [hk, if_neg (by omega)], by rw [he, if_neg (by omega)]⟩), hk (d - 1), he (d - 1), if_pos rfl, if_pos rfl, if_neg n1, if_pos hw0]
    omega
  · rw [r_un_top (by omega), r_un_top (So := So) (sd := sd) (show 0 < d by omega), r_un_eq (So := So) (ow := ow) (sd := sd) (d - 1) (fun c hc => eqv c hc), if_neg n1, if_pos hw0]
theorem r_sz_pop (hke : kk d = en d) (hw : ¬ r_wt So ow sd d) : r_sz So ow sd kk en (d + 1) = r_sz So ow sd kk en d ∧ r_un So ow sd (d + 1) = r_un So ow sd d := by
  constructor
  · unfold r_sz
    rw [if_neg hw, hke]
    cases d <;> simp [r_sz]
  · show r_un So ow sd d + _ = _
    rw [if_neg hw]
    rfl
end
