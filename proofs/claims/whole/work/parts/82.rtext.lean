/-! READING: the TEXT as a list of tokens: (0, v, _) is the number v, (1, s, b) how many STATEMENTS the BODY b of s has -/
def tx_pend (Pa Bo : Nat → Int32) (n d : Nat) (os sd : Nat → Int32) : List tx_T := if 0 < d ∧ sd (d - 1) = 1 ∧ tx_cnt Pa Bo (os (d - 1)) 1 n = 0 then [(1, os (d - 1), 1)] else []
def r_W (T : List tx_T) (Pa Bo : Nat → Int32) (n d : Nat) (os sd sl W : Nat → Int32) : Prop := (∀ i t, T[i]? = some t → W i = tx_v Pa Bo n t) ∧ ∀ c, c < d → ∃ j, j < T.length ∧ sl c = nI j ∧ T[j]? = some (1, os c, sd c) ∧ ∀ j', T[j']? = some (1, os c, sd c) → j' = j
section
variable {n d : Nat} {So TA TB Go Pa Bo So' TA' TB' Go' Pa' Bo' os sd sl W os' sd' sl' W' : Nat → Int32} {T tk : List tx_T}
theorem tx_cnt_eq (a b : Int32) : ∀ n, (∀ s, s < n → Pa' s = Pa s ∧ Bo' s = Bo s) → tx_cnt Pa' Bo' a b n = tx_cnt Pa Bo a b n
  | 0, _ => rfl
  | n + 1, h => by
    unfold tx_cnt
    rw [tx_cnt_eq a b n (fun s hs => h s (by omega)), (h n (by omega)).1, (h n (by omega)).2]
theorem tx_cnt_le (a b : Int32) : ∀ n, tx_cnt Pa Bo a b n ≤ n
  | 0 => Nat.le_refl _
  | n + 1 => by
    unfold tx_cnt
    have := tx_cnt_le a b n
    split <;> omega
theorem tx_cnt_pos {a b : Int32} : ∀ n s, s < n → Pa s = a → Bo s = b → 0 < tx_cnt Pa Bo a b n
  | 0, s, h, _, _ => absurd h (by omega)
  | n + 1, s, h, h1, h2 => by
    unfold tx_cnt
    by_cases e : s = n
    · subst e
      rw [if_pos ⟨h1, h2⟩]; omega
    · have := tx_cnt_pos n s (by omega) h1 h2
      omega
theorem tx_cnt_zero {a b : Int32} : ∀ n, (∀ s, s < n → ¬ (Pa s = a ∧ Bo s = b)) → tx_cnt Pa Bo a b n = 0
  | 0, _ => rfl
  | n + 1, h => by
    unfold tx_cnt
    rw [tx_cnt_zero n (fun s hs => h s (by omega)), if_neg (h n (by omega))]
theorem tx_L_eq : ∀ n, (∀ s, s < n → So' s = So s ∧ TA' s = TA s ∧ TB' s = TB s ∧ Go' s = Go s ∧ Pa' s = Pa s ∧ Bo' s = Bo s) → tx_L So' TA' TB' Go' Pa' Bo' n = tx_L So TA TB Go Pa Bo n
  | 0, _ => rfl
  | n + 1, h => by
    unfold tx_L
    obtain ⟨h1, h2, h3, h4, h5, h6⟩ := h n (by omega)
    rw [tx_L_eq n (fun s hs => h s (by omega))]
    unfold tx_pre tx_tok
    rw [h1, h2, h3, h4, h5, h6, tx_cnt_eq (Pa' := Pa') (Bo' := Bo') (Pa := Pa) (Bo := Bo) _ _ n (fun s hs => ⟨(h s (by omega)).2.2.2.2.1, (h s (by omega)).2.2.2.2.2⟩)]
/-- which BODIES have had a token -/
theorem tx_tok_slot {s : Nat} {a b : Int32} (h : ((1, a, b) : tx_T) ∈ tx_tok So TA TB Go s) : a = nI s ∧ b = 0 := by
  have e : ∀ v : Int32, ¬ ((1, a, b) : tx_T) = (0, v, 0) := fun v q => i_1n (Prod.mk.inj q).1
  unfold tx_tok at h
  rcases List.mem_cons.mp h with h | h
  · exact absurd h (e _)
  · rcases List.mem_append.mp h with h | h
    · split at h
      · exact absurd (List.mem_singleton.mp h) (e _)
      · exact absurd h List.not_mem_nil
    · rcases List.mem_append.mp h with h | h
      · split at h
        · exact absurd h List.not_mem_nil
        · rcases List.mem_cons.mp h with h | h
          · exact absurd h (e _)
          · exact absurd (List.mem_singleton.mp h) (e _)
      · rcases List.mem_append.mp h with h | h
        · split at h
          · exact absurd (List.mem_singleton.mp h) (e _)
          · exact absurd h List.not_mem_nil
        · split at h
          · have := List.mem_singleton.mp h
            have := Prod.mk.inj (Prod.mk.inj this).2
            exact ⟨this.1, this.2⟩
          · exact absurd h List.not_mem_nil
theorem tx_L_slot {a b : Int32} : ∀ n, ((1, a, b) : tx_T) ∈ tx_L So TA TB Go Pa Bo n → (a = -1 ∧ b = -1) ∨ (∃ s, s < n ∧ a = nI s ∧ b = 0) ∨ (b = 1 ∧ 0 < tx_cnt Pa Bo a 1 n)
  | 0, h => by
    have := List.mem_singleton.mp (show ((1, a, b) : tx_T) ∈ [(1, -1, -1)] from h)
    have := Prod.mk.inj (Prod.mk.inj this).2
    exact Or.inl ⟨this.1, this.2⟩
  | n + 1, h => by
    unfold tx_L at h
    rcases List.mem_append.mp h with h | h
    · rcases tx_L_slot n h with q | ⟨s, s1, s2⟩ | ⟨q1, q2⟩
      · exact Or.inl q
      · exact Or.inr (Or.inl ⟨s, by omega, s2⟩)
      · refine Or.inr (Or.inr ⟨q1, ?_⟩)
        unfold tx_cnt
        omega
    · rcases List.mem_append.mp h with h | h
      · unfold tx_pre at h
        split at h
        · rename_i q
          have := Prod.mk.inj (Prod.mk.inj (List.mem_singleton.mp h)).2
          refine Or.inr (Or.inr ⟨this.2, ?_⟩)
          exact tx_cnt_pos (n + 1) n (by omega) this.1.symm q.1
        · exact absurd h List.not_mem_nil
      · obtain ⟨q1, q2⟩ := tx_tok_slot h
        exact Or.inr (Or.inl ⟨n, by omega, q1, q2⟩)
theorem tx_mem {i : Nat} {t : tx_T} {l : List tx_T} (h : l[i]? = some t) : t ∈ l := by
  obtain ⟨h1, h2⟩ := List.getElem?_eq_some_iff.mp h
  rw [← h2]
  exact List.getElem_mem h1
theorem tx_app_l {i : Nat} {l m : List tx_T} (h : i < l.length) : (l ++ m)[i]? = l[i]? := List.getElem?_append_left h
theorem tx_app_r {i : Nat} {l m : List tx_T} (h : l.length ≤ i) : (l ++ m)[i]? = m[i - l.length]? := List.getElem?_append_right h
/-- the tokens of a STATEMENT that comes now in the topmost BODY -/
theorem r_W.stp (h : r_W T Pa Bo n d os sd sl W) (hd : 0 < d) (hPB : ∀ s, s < n → Pa' s = Pa s ∧ Bo' s = Bo s) (hPn : Pa' n = os (d - 1)) (hBn : Bo' n = sd (d - 1)) (hlen : T.length < 2 ^ 31) (hW1 : ∀ i, i < T.length → W' i = if sl (d - 1) = nI i then W i + 1 else W i) (hW2 : ∀ j t, tk[j]? = some t → W' (T.length + j) = tx_v Pa' Bo' (n + 1) t) : ∀ i t, (T ++ tk)[i]? = some t → W' i = tx_v Pa' Bo' (n + 1) t := by
  intro i t hi
  by_cases e : i < T.length
  · rw [tx_app_l e] at hi
    rw [hW1 i e, h.1 i t hi]
    obtain ⟨j, j0, j1, j2, j3⟩ := h.2 (d - 1) (by omega)
    rw [j1]
    unfold tx_v
    have ec : ∀ a b, tx_cnt Pa' Bo' a b (n + 1) = tx_cnt Pa Bo a b n + (if os (d - 1) = a ∧ sd (d - 1) = b then 1 else 0) := by
      intro a b
      show tx_cnt Pa' Bo' a b n + (if Pa' n = a ∧ Bo' n = b then 1 else 0) = _
      rw [tx_cnt_eq a b n hPB, hPn, hBn]
    by_cases ef : t.1 = 1
    · rw [if_pos ef, if_pos ef, ec]
      by_cases q : nI j = nI i
      · rw [if_pos q]
        rw [nI_eq (by omega) (by omega)] at q
        subst q
        rw [j2] at hi
        have := Option.some.inj hi
        subst this
        rw [if_pos ⟨rfl, rfl⟩, nI_1]
      · rw [if_neg q, if_neg, Nat.add_zero]
        rintro ⟨q1, q2⟩
        refine q ?_
        rw [j3 i (by rw [hi, q1, q2, ← ef])]
    · rw [if_neg ef, if_neg ef]
      by_cases q : nI j = nI i
      · rw [nI_eq (by omega) (by omega)] at q
        subst q
        rw [j2] at hi
        have := Option.some.inj hi
        rw [← this] at ef
        exact absurd rfl ef
      · rw [if_neg q]
  · rw [tx_app_r (by omega)] at hi
    have := hW2 _ t hi
    rw [show T.length + (i - T.length) = i by omega] at this
    exact this
/-- the tokens of the STATEMENT that comes now hold no slot but its own -/
theorem r_W.leaf (h : r_W T Pa Bo n d os sd sl W) (hd : 0 < d) (hPB : ∀ s, s < n → Pa' s = Pa s ∧ Bo' s = Bo s) (hPn : Pa' n = os (d - 1)) (hBn : Bo' n = sd (d - 1)) (hlen : T.length < 2 ^ 31) (hW1 : ∀ i, i < T.length → W' i = if sl (d - 1) = nI i then W i + 1 else W i) (hW2 : ∀ j t, tk[j]? = some t → W' (T.length + j) = tx_v Pa' Bo' (n + 1) t) (hno : ∀ c, c < d → ¬ ((1, os c, sd c) : tx_T) ∈ tk) : r_W (T ++ tk) Pa' Bo' (n + 1) d os sd sl W' := by
  refine ⟨h.stp hd hPB hPn hBn hlen hW1 hW2, fun c hc => ?_⟩
  obtain ⟨j, j0, j1, j2, j3⟩ := h.2 c hc
  refine ⟨j, by rw [List.length_append]; omega, j1, by rw [tx_app_l j0]; exact j2, fun j' hj' => ?_⟩
  by_cases e : j' < T.length
  · rw [tx_app_l e] at hj'
    exact j3 j' hj'
  · rw [tx_app_r (by omega)] at hj'
    exact absurd (tx_mem hj') (hno c hc)
/-- a slot more, at the end, for the BODY c -/
theorem r_W.slot {c0 : Nat} (h : r_W T Pa Bo n d os sd sl W) {a b : Int32} (hc : c0 ≤ d) (hW1 : ∀ i, i < T.length → W' i = W i) (hW2 : W' T.length = nI (tx_cnt Pa Bo a b n)) (hfr : ¬ ((1, a, b) : tx_T) ∈ T) (hos : ∀ c, c < d → ¬ c = c0 → os' c = os c ∧ sd' c = sd c ∧ sl' c = sl c ∧ ¬ (os c = a ∧ sd c = b)) (h0 : os' c0 = a ∧ sd' c0 = b ∧ sl' c0 = nI T.length) (hd' : ∀ c, c < d → ¬ c = c0 → True) {d' : Nat} (hdd : ∀ c, c < d' → c = c0 ∨ c < d) : r_W (T ++ [(1, a, b)]) Pa Bo n d' os' sd' sl' W' := by
  refine ⟨fun i t hi => ?_, fun c hc' => ?_⟩
  · by_cases e : i < T.length
    · rw [tx_app_l e] at hi
      rw [hW1 i e]
      exact h.1 i t hi
    · rw [tx_app_r (by omega)] at hi
      have ei : i - T.length = 0 := by
        rcases Nat.eq_zero_or_pos (i - T.length) with q | q
        · exact q
        · obtain ⟨k, hk⟩ : ∃ k, i - T.length = k + 1 := ⟨i - T.length - 1, by omega⟩
          rw [hk] at hi
          exact absurd hi (by simp)
      rw [ei] at hi
      have ht := Option.some.inj hi
      subst ht
      rw [show i = T.length by omega, hW2]
      unfold tx_v
      rw [if_pos rfl]
  · by_cases e : c = c0
    · subst e
      refine ⟨T.length, by rw [List.length_append]; simp, h0.2.2, ?_, fun j' hj' => ?_⟩
      · rw [tx_app_r (Nat.le_refl _), Nat.sub_self, h0.1, h0.2.1]
        rfl
      · rw [h0.1, h0.2.1] at hj'
        by_cases e2 : j' < T.length
        · rw [tx_app_l e2] at hj'
          exact absurd (tx_mem hj') hfr
        · rw [tx_app_r (by omega)] at hj'
          rcases Nat.eq_zero_or_pos (j' - T.length) with q | q
          · omega
          · obtain ⟨k, hk⟩ : ∃ k, j' - T.length = k + 1 := ⟨j' - T.length - 1, by omega⟩
            rw [hk] at hj'
            exact absurd hj' (by simp)
    · have hcd : c < d := (hdd c hc').resolve_left e
      obtain ⟨j, j0, j1, j2, j3⟩ := h.2 c hcd
      obtain ⟨q1, q2, q3, q4⟩ := hos c hcd e
      refine ⟨j, by rw [List.length_append]; omega, by rw [q3]; exact j1, by rw [tx_app_l j0, q1, q2]; exact j2, fun j' hj' => ?_⟩
      rw [q1, q2] at hj'
      by_cases e2 : j' < T.length
      · rw [tx_app_l e2] at hj'
        exact j3 j' hj'
      · rw [tx_app_r (by omega)] at hj'
        have := List.mem_singleton.mp (tx_mem hj')
        have := Prod.mk.inj (Prod.mk.inj this).2
        exact absurd this q4
end
