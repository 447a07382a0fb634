/-! READING: STATEMENTS without a BODY, in both -/
def tx_tk (so ta tb go : Int32) (s : Nat) : List tx_T := (0, so, 0) :: ((if so = 0 then [(0, go, 0)] else []) ++ ((if so = 3 ∨ (6 ≤ so ∧ so ≤ 8) then [] else [(0, ta, 0), (0, tb, 0)]) ++ ((if so = 8 ∨ so = 11 then [(0, go, 0)] else []) ++ (if 1 ≤ so ∧ so ≤ 5 then [(1, nI s, 0)] else []))))
/-- what a turn must lead to: the next PLACE k -/
def r_N (S0 S1 : x_S) (ri L n d u k : Nat) (Tc Tm : x_S) : Prop := ∃ n' d' wc' kk' en' ow' fm' hi' dp' D' T', r_X S0 S1 ri L n' d' wc' kk' en' ow' fm' hi' dp' D' T' Tc Tm ∧ (0 < d' → k = kk' (d' - 1)) ∧ d' + r_un (fun i => g_ar Tc 400 i) ow' (fun c => g_ar Tc 107 c) d' + 1 + 3 * n ≤ d + u + 3 * n'
section
variable {S0 S1 : x_S} {ri r L n d wc D m : Nat} {kk en ow fm hi dp : Nat → Nat} {T : List tx_T} {Sc Sm : x_S}
theorem r_X.room (h : r_X S0 S1 ri L n d wc kk en ow fm hi dp D T Sc Sm) (hd : 0 < d) (hk : kk (d - 1) < en (d - 1)) : n < 60 ∧ wc + 4 ≤ 241 ∧ d ≤ 61 ∧ en (d - 1) ≤ L ∧ L ≤ 60 ∧ d - 1 + r_un (fun i => g_ar Sc 400 i) ow (fun c => g_ar Sc 107 c) d < 150 ∧ ∃ j, j < wc ∧ g_ar Sc 108 (d - 1) = nI j := by
  obtain ⟨x1, x2, x3, x4, x5, x6, x7, x8, x9, x10, ⟨t1, t2, t3⟩, x12, ⟨y1, y2, y3, y4, y5⟩⟩ := h
  have hu := r_sz_top (So := fun i => g_ar Sc 400 i) (ow := ow) (sd := fun c => g_ar Sc 107 c) (kk := kk) (en := en) hd
  have he := x5.e0 (show d - 1 < d by omega)
  have := y1 hd
  obtain ⟨j, j0, j1, -, -⟩ := t3.2 (d - 1) (by omega)
  have hunle : ∀ c, r_un (fun i => g_ar Sc 400 i) ow (fun c => g_ar Sc 107 c) c ≤ c := by
    intro c
    induction c with
    | zero => exact Nat.le_refl _
    | succ c ih =>
      show r_un _ _ _ c + (if r_wt (fun i => g_ar Sc 400 i) ow (fun c => g_ar Sc 107 c) c then 1 else 0) ≤ _
      split <;> omega
  have := hunle d
  exact ⟨by omega, by omega, by omega, by omega, y5, by omega, j, by omega, j1⟩
theorem r_X.topm (h : r_X S0 S1 ri L n d wc kk en ow fm hi dp D T Sc Sm) (hd : 0 < d) : ∀ p, p = d - 1 + r_un (fun i => g_ar Sc 400 i) ow (fun c => g_ar Sc 107 c) d → g_sc Sm 724 = nI (p + 1) ∧ g_ar Sm 725 p = nI (kk (d - 1)) ∧ g_ar Sm 726 p = nI (en (d - 1)) ∧ g_ar Sm 727 p = g_ar Sc 104 (d - 1) ∧ g_ar Sm 728 p = g_ar Sc 105 (d - 1) ∧ g_ar Sm 729 p = g_ar Sc 106 (d - 1) ∧ g_ar Sm 730 p = g_ar Sc 107 (d - 1) := by
  intro p hp
  obtain ⟨x1, x2, x3, x4, -⟩ := h
  obtain ⟨-, q2, q3, q4, q5, q6, q7, -⟩ := x4 (d - 1) (by omega)
  rw [show d - 1 + 1 = d by omega, ← hp] at q2 q3 q4 q5 q6 q7
  refine ⟨?_, q2, q3, q4, q5, q6, q7⟩
  rw [x2.2.2, hp]
  congr 1
  omega
theorem j_b.ar {S : x_S} {p : Nat} (h : j_b S1 n p S) (x y : Nat) (v : Int32) (hx : 714 < x) : j_b S1 n p (s_ar S x y v) := ⟨h.1.tr (fr_m_ar _ x y v hx), h.2⟩
/-- the reference's state behind such a STATEMENT -/
def j_lf (Sm : x_S) (p n k : Nat) (so pa bo ta tb go : Int32) : x_S := j_st (s_ar Sm 725 p (nI (k + 1))) n so (nI k) (nI (k + 1)) pa bo ta tb go
theorem j_leaf (h : r_X S0 S1 ri L n d wc kk en ow fm hi dp D T Sc Sm) (hd : 0 < d) (hk : kk (d - 1) < en (d - 1)) {p : Nat} (hp : p = d - 1 + r_un (fun i => g_ar Sc 400 i) ow (fun c => g_ar Sc 107 c) d) (so ta tb go : Int32) : f_X7_state m (s_ar Sm 725 p (nI (kk (d - 1) + 1))) so (nI (kk (d - 1))) (nI (kk (d - 1) + 1)) ta tb go = some (nI n, j_lf Sm p n (kk (d - 1)) so (g_ar Sc 106 (d - 1)) (g_ar Sc 107 (d - 1)) ta tb go) ∧ j_b S1 (n + 1) (p + 1) (j_lf Sm p n (kk (d - 1)) so (g_ar Sc 106 (d - 1)) (g_ar Sc 107 (d - 1)) ta tb go) := by
  obtain ⟨r1, r2, r3, r4, r5, r6, -⟩ := h.room hd hk
  obtain ⟨m1, m2, m3, m4, m5, m6, m7⟩ := h.topm hd p hp
  have jb : j_b S1 n (p + 1) (s_ar Sm 725 p (nI (kk (d - 1) + 1))) := ⟨h.2.1.1.tr (fr_m_ar _ 725 p _ (by decide)), h.2.1.2.1, m1⟩
  have e1 : g_ar (s_ar Sm 725 p (nI (kk (d - 1) + 1))) 729 p = g_ar Sc 106 (d - 1) := by rw [q_ar_ar, if_neg (by omega)]; exact m6
  have e2 : g_ar (s_ar Sm 725 p (nI (kk (d - 1) + 1))) 730 p = g_ar Sc 107 (d - 1) := by rw [q_ar_ar, if_neg (by omega)]; exact m7
  have := j_state (m := m) jb (show n < 200 by omega) (show p < 200 by omega) so (nI (kk (d - 1))) (nI (kk (d - 1) + 1)) ta tb go
  rw [e1, e2] at this
  exact this
/-- both behind such a STATEMENT -/
theorem r_X.leafS (h : r_X S0 S1 ri L n d wc kk en ow fm hi dp D T Sc Sm) (hd : 0 < d) (hk : kk (d - 1) < en (d - 1)) {p j : Nat} (hp : p = d - 1 + r_un (fun i => g_ar Sc 400 i) ow (fun c => g_ar Sc 107 c) d) (hj : j < wc) (hsl : g_ar Sc 108 (d - 1) = nI j) {so ta tb go : Int32} {vs : List Int32} (hso : so = 0 ∨ (6 ≤ so ∧ so ≤ 11)) (hvs : vs.length ≤ 4) (htok : tx_tk so ta tb go n = vs.map tx_lit) {Tc : x_S} (hT : ∀ x y, g_ar Tc x y = g_ar (k_ws (k_bg Sc n so (nI (kk (d - 1))) (nI (kk (d - 1) + 1)) (g_ar Sc 106 (d - 1)) (g_ar Sc 107 (d - 1)) (kk (d - 1)) j) wc vs) x y) (kb : k_b S0 ri (n + 1) d (wc + vs.length) Tc) (c411 : g_sc Tc 411 = g_sc Sc 411) (c410 : g_sc Tc 410 = if so = 8 ∨ so = 11 then g_sc Sc 410 + 1 else g_sc Sc 410) : r_N S0 S1 ri L n d (r_un (fun i => g_ar Sc 400 i) ow (fun c => g_ar Sc 107 c) d) (kk (d - 1) + 1) Tc (j_lf Sm p n (kk (d - 1)) so (g_ar Sc 106 (d - 1)) (g_ar Sc 107 (d - 1)) ta tb go) := by
  obtain ⟨r1, r2, r3, r4, r5, r6, -⟩ := h.room hd hk
  have jb := (j_leaf (m := 0) h hd hk hp so ta tb go).2
  rw [show p + 1 = d + r_un (fun i => g_ar Sc 400 i) ow (fun c => g_ar Sc 107 c) d by omega] at jb
  have bg := fun y => bg_at (S := Sc) (n := n) so (nI (kk (d - 1))) (nI (kk (d - 1) + 1)) (g_ar Sc 106 (d - 1)) (g_ar Sc 107 (d - 1)) (kk (d - 1)) j y
  obtain ⟨s0, s1, s2, s3, s4, s5, s6, s7⟩ := st_at (S := s_ar Sm 725 p (nI (kk (d - 1) + 1))) (n := n) so (nI (kk (d - 1))) (nI (kk (d - 1) + 1)) (g_ar Sc 106 (d - 1)) (g_ar Sc 107 (d - 1)) ta tb go
  have ct : ∀ x, (g_ar Tc 400 x = if x = n then so else g_ar Sc 400 x) ∧ (g_ar Tc 401 x = if x = n then nI (kk (d - 1)) else g_ar Sc 401 x) ∧ (g_ar Tc 402 x = if x = n then nI (kk (d - 1) + 1) else g_ar Sc 402 x) ∧ (g_ar Tc 403 x = if x = n then g_ar Sc 106 (d - 1) else g_ar Sc 403 x) ∧ (g_ar Tc 404 x = if x = n then g_ar Sc 107 (d - 1) else g_ar Sc 404 x) ∧ (g_ar Tc 405 x = if x = n then 0 else g_ar Sc 405 x) ∧ (g_ar Tc 406 x = if x = kk (d - 1) then nI n else g_ar Sc 406 x) := by
    intro x
    rw [hT, hT, hT, hT, hT, hT, hT, kw_ar 400 x (by decide), kw_ar 401 x (by decide), kw_ar 402 x (by decide), kw_ar 403 x (by decide), kw_ar 404 x (by decide), kw_ar 405 x (by decide), kw_ar 406 x (by decide)]
    obtain ⟨b0, b1, b2, b3, b4, b5, b6, -⟩ := bg x
    exact ⟨b0, b1, b2, b3, b4, b5, b6⟩
  have e107 : (fun c => g_ar Tc 107 c) = (fun c => g_ar Sc 107 c) := funext (fun c => by rw [hT, kw_ar 107 c (by decide), bg_ar _ _ _ _ _ _ _ 107 c (by omega)])
  have X := h.leaf (Tc := Tc) (Tm := j_lf Sm p n (kk (d - 1)) so (g_ar Sc 106 (d - 1)) (g_ar Sc 107 (d - 1)) ta tb go) (so := so) (vs := vs) hd hk kb jb hso hvs ?_ ct ?_ c411 c410 ?_ ?_ ?_ ⟨s0, s1, s2, s3, s4⟩ ?_ ?_
  · refine ⟨n + 1, d, _, _, _, _, _, _, _, _, _, X, fun _ => ?_, ?_⟩
    · exact (if_pos (show d - 1 = d - 1 from rfl)).symm
    · rw [e107]
      have : r_un (fun i => g_ar Tc 400 i) ow (fun c => g_ar Sc 107 c) d = r_un (fun i => g_ar Sc 400 i) ow (fun c => g_ar Sc 107 c) d := by
        refine r_un_eq d (fun c hc => ?_)
        unfold r_wt
        (try simp only)
        obtain ⟨x1, x2, x3, x4, x5, x6, -⟩ := h
        by_cases e : c = 0
        · subst e
          have z : g_ar Sc 107 0 = -1 := (x6.1 hd).2
          rw [z]
          exact ⟨fun q => absurd q.2 (by decide), fun q => absurd q.2 (by decide)⟩
        · rw [(ct (ow c)).1, if_neg (by have := (x6.2 c (by omega) hc).1; omega)]
      omega
  · show tx_tk (g_ar Tc 400 n) (g_ar (j_lf Sm p n (kk (d - 1)) so (g_ar Sc 106 (d - 1)) (g_ar Sc 107 (d - 1)) ta tb go) 721 n) (g_ar (j_lf Sm p n (kk (d - 1)) so (g_ar Sc 106 (d - 1)) (g_ar Sc 107 (d - 1)) ta tb go) 722 n) (g_ar (j_lf Sm p n (kk (d - 1)) so (g_ar Sc 106 (d - 1)) (g_ar Sc 107 (d - 1)) ta tb go) 723 n) n = _
    rw [(ct n).1, if_pos rfl]
    unfold j_lf
    rw [s5, s6, s7]
    exact htok
  · intro x c h1 h2
    rw [hT, kw_ar x c (by omega), bg_ar _ _ _ _ _ _ _ x c (by omega)]
  · intro i hi
    rw [hT, kw_lo i _ _ _ hi, (bg i).2.2.2.2.2.2.2, hsl]
    by_cases e : i = j
    · subst e; rw [if_pos rfl, if_pos rfl]
    · rw [if_neg e, if_neg (fun q => e ((nI_eq (by omega) (by omega)).mp q).symm)]
  · intro i v hv
    rw [hT]
    exact kw_hi vs _ wc i v hv
  · intro x hx y h1 h2
    unfold j_lf
    rw [st_ar _ _ _ _ _ _ _ _ y x (by omega), q_ar_ar, if_neg (by omega)]
  · intro x
    unfold j_lf
    rw [st_ar _ _ _ _ _ _ _ _ 725 x (by omega), q_ar_ar, hp]
    simp only [true_and]
  · intro y x h1 h2
    unfold j_lf
    rw [st_ar _ _ _ _ _ _ _ _ y x (by omega), q_ar_ar, if_neg (by omega)]
end
