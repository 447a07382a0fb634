/-! READING: STATEMENTS with a BODY, in both -/
theorem r_un_le2 (So : Nat → Int32) (ow : Nat → Nat) (sd : Nat → Int32) : ∀ c, r_un So ow sd c ≤ c
  | 0 => Nat.le_refl _
  | c + 1 => by
    have := r_un_le2 So ow sd c
    show r_un So ow sd c + (if r_wt So ow sd c then 1 else 0) ≤ _
    split <;> omega
section
variable {S0 S1 : x_S} {ri r L n d wc D m : Nat} {kk en ow fm hi dp : Nat → Nat} {T : List tx_T} {Sc Sm : x_S}
theorem r_X.opnS (h : r_X S0 S1 ri L n d wc kk en ow fm hi dp D T Sc Sm) (hd : 0 < d) (hk : kk (d - 1) < en (d - 1)) {p j beh kk0 en0 o1 o2 : Nat} (hp : p = d - 1 + r_un (fun i => g_ar Sc 400 i) ow (fun c => g_ar Sc 107 c) d) (hj : j < wc) (hsl : g_ar Sc 108 (d - 1) = nI j) {so ta tb go b1 a1 : Int32} {vs : List Int32} (hso : r_cmp so) (hkb : kk (d - 1) < beh) (hb : beh ≤ en (d - 1)) (h0 : kk (d - 1) ≤ kk0) (h1 : kk0 ≤ en0) (h2 : en0 ≤ beh) (h3 : so = 2 → en0 + 1 < beh) (hloop : kk0 = kk (d - 1) → (so = 3 ∨ so = 5) ∧ ¬ r_lb d kk ow fm (fun i => g_ar Sc 400 i)) (hc1 : ¬ so = 2 → en0 - kk0 + 1 ≤ beh - kk (d - 1)) (hc2 : so = 2 → kk0 = kk (d - 1) + 1) (hvs : vs.length ≤ 3) (htok : tx_tk so ta tb go n = vs.map tx_lit ++ [(1, nI n, 0)])
  (hR : ∀ i, (kk (d - 1) ≤ i ∧ i < beh ∧ ¬ (kk0 ≤ i ∧ i < en0) ∧ ¬ (so = 2 ∧ en0 < i)) ↔ (i = o1 ∨ i = o2)) (hM : ∀ i, i < L → (((¬ (so = 3 ∨ so = 5) ∧ nI (kk (d - 1)) = nI i) ∨ (w_lp so ∧ nI beh = nI (i + 1)) ∨ (so = 2 ∧ go = nI (i + 1))) ↔ (i = o1 ∨ i = o2)))
  {V U Tm : x_S} (hV : ∀ x y, g_ar V x y = if x = 406 ∧ y = o2 then nI n else g_ar (k_ws (k_bg Sc n so (nI (kk (d - 1))) (nI beh) (g_ar Sc 106 (d - 1)) (g_ar Sc 107 (d - 1)) o1 j) wc vs) x y) (kb : k_b S0 ri (n + 1) d (wc + vs.length) V) (c411 : g_sc V 411 = g_sc Sc 411) (c410 : g_sc V 410 = g_sc Sc 410)
  (hU : ∀ x y, g_ar U x y = g_ar (j_st (s_ar Sm 725 p (nI beh)) n so (nI (kk (d - 1))) (nI beh) (g_ar Sc 106 (d - 1)) (g_ar Sc 107 (d - 1)) ta tb go) x y) (jb : j_b S1 (n + 1) (p + 1) U)
  (hTm : (¬ so = 2 ∧ Tm = j_rg U (p + 1) (nI kk0) (nI en0) b1 a1 (nI n) 0) ∨ (so = 2 ∧ Tm = j_rg (j_rg U (p + 1) (nI (en0 + 1)) (nI beh) b1 a1 (nI n) 1) (p + 2) (nI kk0) (nI en0) b1 a1 (nI n) 0)) :
  r_N S0 S1 ri L n d (r_un (fun i => g_ar Sc 400 i) ow (fun c => g_ar Sc 107 c) d) kk0 (k_op V d (wc + vs.length) (nI n) 0 (nI en0) b1 a1) Tm := by
  obtain ⟨r1, r2, r3, r4, r5, r6, -⟩ := h.room hd hk
  have d61 : d < 61 := by have := h.2.2.2.2.2.2.2.2.2.2.2.2; have := r_sz_top (So := fun i => g_ar Sc 400 i) (ow := ow) (sd := fun c => g_ar Sc 107 c) (kk := kk) (en := en) hd; omega
  have jbT : j_b S1 (n + 1) (d + 1 + (r_un (fun i => g_ar Sc 400 i) ow (fun c => g_ar Sc 107 c) d + (if so = 2 then 1 else 0))) Tm := by
    rcases hTm with ⟨s2, rfl⟩ | ⟨s2, rfl⟩
    · rw [if_neg s2, show d + 1 + (r_un (fun i => g_ar Sc 400 i) ow (fun c => g_ar Sc 107 c) d + 0) = p + 1 + 1 by omega]
      exact (j_range (m := 0) jb (by omega) _ _ _ _ _ _).2
    · rw [if_pos s2, show d + 1 + (r_un (fun i => g_ar Sc 400 i) ow (fun c => g_ar Sc 107 c) d + 1) = p + 2 + 1 by omega]
      exact (j_range (m := 0) (j_range (m := 0) jb (by omega) _ _ _ _ _ _).2 (by omega) _ _ _ _ _ _).2
  have hlow : ∀ x y, (x < 725 ∨ y < p + 1) → g_ar Tm x y = g_ar U x y := by
    intro x y hx
    rcases hTm with ⟨s2, rfl⟩ | ⟨s2, rfl⟩
    · rw [rg_ar _ _ _ _ _ _ x y (by omega)]
    · rw [rg_ar _ _ _ _ _ _ x y (by omega), rg_ar _ _ _ _ _ _ x y (by omega)]
  have bg := fun y => bg_at (S := Sc) (n := n) so (nI (kk (d - 1))) (nI beh) (g_ar Sc 106 (d - 1)) (g_ar Sc 107 (d - 1)) o1 j y
  obtain ⟨s0, s1, s2, s3, s4, s5, s6, s7⟩ := st_at (S := s_ar Sm 725 p (nI beh)) (n := n) so (nI (kk (d - 1))) (nI beh) (g_ar Sc 106 (d - 1)) (g_ar Sc 107 (d - 1)) ta tb go
  obtain ⟨p6, p7, p3, p4, p5, p8⟩ := op_at (S := V) (d := d) (wc := wc + vs.length) (nI n) 0 (nI en0) b1 a1
  have ct : ∀ x, (g_ar (k_op V d (wc + vs.length) (nI n) 0 (nI en0) b1 a1) 400 x = if x = n then so else g_ar Sc 400 x) ∧ (g_ar (k_op V d (wc + vs.length) (nI n) 0 (nI en0) b1 a1) 401 x = if x = n then nI (kk (d - 1)) else g_ar Sc 401 x) ∧ (g_ar (k_op V d (wc + vs.length) (nI n) 0 (nI en0) b1 a1) 402 x = if x = n then nI beh else g_ar Sc 402 x) ∧ (g_ar (k_op V d (wc + vs.length) (nI n) 0 (nI en0) b1 a1) 403 x = if x = n then g_ar Sc 106 (d - 1) else g_ar Sc 403 x) ∧ (g_ar (k_op V d (wc + vs.length) (nI n) 0 (nI en0) b1 a1) 404 x = if x = n then g_ar Sc 107 (d - 1) else g_ar Sc 404 x) ∧ (g_ar (k_op V d (wc + vs.length) (nI n) 0 (nI en0) b1 a1) 405 x = if x = n then 0 else g_ar Sc 405 x) ∧ (g_ar (k_op V d (wc + vs.length) (nI n) 0 (nI en0) b1 a1) 406 x = if x = o1 ∨ x = o2 then nI n else g_ar Sc 406 x) := by
    intro x
    obtain ⟨b0, b1, b2, b3, b4, b5, b6, -⟩ := bg x
    rw [op_ar _ _ _ _ _ 400 x (by omega) (by decide), op_ar _ _ _ _ _ 401 x (by omega) (by decide), op_ar _ _ _ _ _ 402 x (by omega) (by decide), op_ar _ _ _ _ _ 403 x (by omega) (by decide), op_ar _ _ _ _ _ 404 x (by omega) (by decide), op_ar _ _ _ _ _ 405 x (by omega) (by decide), op_ar _ _ _ _ _ 406 x (by omega) (by decide), hV, hV, hV, hV, hV, hV, hV, kw_ar 400 x (by decide), kw_ar 401 x (by decide), kw_ar 402 x (by decide), kw_ar 403 x (by decide), kw_ar 404 x (by decide), kw_ar 405 x (by decide), kw_ar 406 x (by decide), b0, b1, b2, b3, b4, b5, b6]
    refine ⟨if_neg (by omega), if_neg (by omega), if_neg (by omega), if_neg (by omega), if_neg (by omega), if_neg (by omega), ?_⟩
    by_cases e1 : x = o1
    · rw [if_pos e1, if_pos (Or.inl e1)]; split <;> rfl
    · rw [if_neg e1]
      by_cases e2 : x = o2
      · rw [if_pos ⟨rfl, e2⟩, if_pos (Or.inr e2)]
      · rw [if_neg (by omega), if_neg (by omega)]
  have X := h.opn (Tc := k_op V d (wc + vs.length) (nI n) 0 (nI en0) b1 a1) (Tm := Tm) (so := so) (vs := vs) (beh := beh) (kk0 := kk0) (en0 := en0) (o1 := o1) (o2 := o2) (b1 := b1) (a1 := a1) hd hk (k_open (m := 0) kb d61 (by omega) _ _ _ _ _).2 jbT hso hkb hb h0 h1 h2 h3 ?_ hc1 hc2 hvs ?_ hR ?_ ct ?_ ⟨p3, p4, p5, p6, p7, p8⟩ ?_ ?_ ?_ ?_ ?_ ?_ ?_ ?_ ?_ ?_ ?_
  · refine ⟨n + 1, d + 1, _, _, _, _, _, _, _, _, _, X, fun _ => ?_, ?_⟩
    · exact (if_pos (show d + 1 - 1 = d by omega)).symm
    · have e := X.2.1.2.2
      have e2 := jbT.2.2
      have ule := r_un_le2 (fun i => g_ar (k_op V d (wc + vs.length) (nI n) 0 (nI en0) b1 a1) 400 i) (fun c => if c = d then n else ow c) (fun c => g_ar (k_op V d (wc + vs.length) (nI n) 0 (nI en0) b1 a1) 107 c) (d + 1)
      rw [e2] at e
      have := (nI_eq (by split <;> omega) (by omega)).mp e
      split at this <;> omega
  · intro q
    refine ⟨(hloop q).1, fun q1 q2 q3 => (hloop q).2 ⟨q1, q2, q3⟩⟩
  · show tx_tk (g_ar (k_op V d (wc + vs.length) (nI n) 0 (nI en0) b1 a1) 400 n) (g_ar Tm 721 n) (g_ar Tm 722 n) (g_ar Tm 723 n) n = _
    rw [(ct n).1, if_pos rfl, hlow 721 n (by omega), hlow 722 n (by omega), hlow 723 n (by omega), hU, hU, hU, s5, s6, s7]
    exact htok
  · intro i hi
    unfold r_M
    (try simp only)
    rw [(ct n).1, (ct n).2.1, (ct n).2.2.1, if_pos rfl, if_pos rfl, if_pos rfl, hlow 723 n (by omega), hU, s7]
    exact hM i hi
  · intro x c h1 h2 h3
    rw [op_ar _ _ _ _ _ x c (by omega) (by omega), hV, if_neg (by omega), kw_ar x c (by omega), bg_ar _ _ _ _ _ _ _ x c (by omega)]
  · rw [op_411, c411]
  · rw [op_sc _ _ _ _ _ 410 (by decide), c410]
  · intro i hi
    rw [op_w _ _ _ _ _ i (by omega), hV, if_neg (by omega), kw_lo i _ _ _ hi, (bg i).2.2.2.2.2.2.2, hsl]
    by_cases e : i = j
    · subst e; rw [if_pos rfl, if_pos rfl]
    · rw [if_neg e, if_neg (fun q => e ((nI_eq (by omega) (by omega)).mp q).symm)]
  · intro i v hv
    have hi : i < vs.length := by
      rcases Nat.lt_or_ge i vs.length with q | q
      · exact q
      · rw [List.getElem?_eq_none q] at hv; exact absurd hv (by simp)
    rw [op_w _ _ _ _ _ (wc + i) (by omega), hV, if_neg (by omega)]
    exact kw_hi vs _ wc i v hv
  · exact op_w0 _ _ _ _ _
  · intro x hx y h1 h2
    rw [hlow y x (by omega), hU, st_ar _ _ _ _ _ _ _ _ y x (by omega), q_ar_ar, if_neg (by omega)]
  · rw [hlow 716 n (by omega), hlow 717 n (by omega), hlow 718 n (by omega), hlow 719 n (by omega), hlow 720 n (by omega), hU, hU, hU, hU, hU]
    exact ⟨s0, s1, s2, s3, s4⟩
  · intro x hx
    rw [hlow 725 x (by omega), hU, st_ar _ _ _ _ _ _ _ _ 725 x (by omega), q_ar_ar, hp]
    simp only [true_and]
  · intro x hx y h1 h2
    rw [hlow y x (by omega), hU, st_ar _ _ _ _ _ _ _ _ y x (by omega), q_ar_ar, if_neg (by omega)]
  · intro q hq
    rcases hTm with ⟨s2, rfl⟩ | ⟨s2, rfl⟩
    · rw [if_neg s2] at hq
      rw [show q = p + 1 by omega]
      exact rg_at _ _ _ _ _ _
    · rw [if_pos s2] at hq
      rw [show q = p + 2 by omega]
      exact rg_at _ _ _ _ _ _
  · intro so2 q hq
    rcases hTm with ⟨s2, rfl⟩ | ⟨s2, rfl⟩
    · exact absurd so2 s2
    · rw [show q = p + 1 by omega, rg_ar _ _ _ _ _ _ 725 (p + 1) (by omega), rg_ar _ _ _ _ _ _ 726 (p + 1) (by omega), rg_ar _ _ _ _ _ _ 727 (p + 1) (by omega), rg_ar _ _ _ _ _ _ 728 (p + 1) (by omega), rg_ar _ _ _ _ _ _ 729 (p + 1) (by omega), rg_ar _ _ _ _ _ _ 730 (p + 1) (by omega)]
      exact rg_at _ _ _ _ _ _
end
