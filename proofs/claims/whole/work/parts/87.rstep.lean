/-! READING: the relation, and how it goes on -/
def r_X (S0 S1 : x_S) (ri L n d wc : Nat) (kk en ow fm hi dp : Nat → Nat) (D : Nat) (T : List tx_T) (Sc Sm : x_S) : Prop :=
  k_b S0 ri n d wc Sc ∧ j_b S1 n (d + r_un (fun i => g_ar Sc 400 i) ow (fun c => g_ar Sc 107 c) d) Sm ∧
  (∀ s, s < n → g_ar Sm 716 s = g_ar Sc 400 s ∧ g_ar Sm 717 s = g_ar Sc 401 s ∧ g_ar Sm 718 s = g_ar Sc 402 s ∧ g_ar Sm 719 s = g_ar Sc 403 s ∧ g_ar Sm 720 s = g_ar Sc 404 s) ∧
  r_fr d kk en (r_un (fun i => g_ar Sc 400 i) ow (fun c => g_ar Sc 107 c)) (r_wt (fun i => g_ar Sc 400 i) ow (fun c => g_ar Sc 107 c)) (fun c => g_ar Sc 103 c) (fun c => g_ar Sc 104 c) (fun c => g_ar Sc 105 c) (fun c => g_ar Sc 106 c) (fun c => g_ar Sc 107 c) (fun c => g_ar Sm 725 c) (fun c => g_ar Sm 726 c) (fun c => g_ar Sm 727 c) (fun c => g_ar Sm 728 c) (fun c => g_ar Sm 729 c) (fun c => g_ar Sm 730 c) ∧
  r_O d kk en (r_wt (fun i => g_ar Sc 400 i) ow (fun c => g_ar Sc 107 c)) ∧
  r_ow n d kk ow fm (fun i => g_ar Sc 400 i) (fun i => g_ar Sc 401 i) (fun i => g_ar Sc 402 i) (fun i => g_ar Sc 404 i) (fun c => g_ar Sc 106 c) (fun c => g_ar Sc 107 c) ∧
  r_I n d ow hi (fun i => g_ar Sc 403 i) (fun i => g_ar Sc 405 i) ∧
  (r_D n d ow dp (fun i => g_ar Sc 403 i) (fun i => g_ar Sc 400 i) D ∧ g_sc Sc 411 = nI D) ∧
  g_sc Sc 410 = nI (r_J (fun i => g_ar Sc 400 i) n) ∧
  r_C L n d kk en (r_wt (fun i => g_ar Sc 400 i) ow (fun c => g_ar Sc 107 c)) (fun i => g_ar Sc 400 i) (fun i => g_ar Sc 401 i) (fun i => g_ar Sc 402 i) (fun i => g_ar Sm 723 i) (fun i => g_ar Sc 406 i) ∧
  (T = tx_L (fun i => g_ar Sc 400 i) (fun i => g_ar Sm 721 i) (fun i => g_ar Sm 722 i) (fun i => g_ar Sm 723 i) (fun i => g_ar Sc 403 i) (fun i => g_ar Sc 404 i) n ++ tx_pend (fun i => g_ar Sc 403 i) (fun i => g_ar Sc 404 i) n d (fun c => g_ar Sc 106 c) (fun c => g_ar Sc 107 c) ∧ wc = T.length ∧ r_W T (fun i => g_ar Sc 403 i) (fun i => g_ar Sc 404 i) n d (fun c => g_ar Sc 106 c) (fun c => g_ar Sc 107 c) (fun c => g_ar Sc 108 c) (fun i => g_ar Sc 407 i)) ∧
  (r_Z n d kk en ow (fun i => g_ar Sc 400 i) (fun i => g_ar Sc 403 i) (fun i => g_ar Sc 404 i) (fun c => g_ar Sc 106 c) (fun c => g_ar Sc 107 c) ∧ r_Y n d ow (fun i => g_ar Sc 400 i) (fun i => g_ar Sc 403 i) (fun i => g_ar Sc 404 i)) ∧
  ((0 < d → en 0 ≤ L) ∧ n + r_sz (fun i => g_ar Sc 400 i) ow (fun c => g_ar Sc 107 c) kk en d ≤ L ∧ d ≤ n + 1 ∧ wc + r_un (fun i => g_ar Sc 400 i) ow (fun c => g_ar Sc 107 c) d + 4 * r_sz (fun i => g_ar Sc 400 i) ow (fun c => g_ar Sc 107 c) kk en d ≤ 1 + 4 * L ∧ L ≤ 60)
theorem r_O.e0 {d : Nat} {kk en : Nat → Nat} {wt : Nat → Prop} (h : r_O d kk en wt) {c : Nat} (hc : c < d) : en c ≤ en 0 := by
  cases c with
  | zero => exact Nat.le_refl _
  | succ c =>
    have h1 := h.mono c 0 (by omega)
    have h2 := h.1 0 (by omega)
    rw [show 0 + (c + 1) = c + 1 by omega] at h1
    omega
def tx_lit (v : Int32) : tx_T := (0, v, 0)
section
variable {S0 S1 : x_S} {ri L n d wc D : Nat} {kk en ow fm hi dp : Nat → Nat} {T : List tx_T} {Sc Sm Tc Tm : x_S} {so ta tb go : Int32}
theorem tx_lit_get {vs : List Int32} {j : Nat} {t : tx_T} (h : (vs.map tx_lit)[j]? = some t) : ∃ v, vs[j]? = some v ∧ t = tx_lit v := by
  rw [List.getElem?_map] at h
  cases e : vs[j]? with
  | none => rw [e] at h; exact absurd h (by simp)
  | some v => rw [e] at h; exact ⟨v, rfl, (Option.some.inj h).symm⟩
/-- the STATEMENT that comes now, in both trees -/
theorem r_X.tree (h : r_X S0 S1 ri L n d wc kk en ow fm hi dp D T Sc Sm) (hd : 0 < d) (hn1 : n < 1000) (c3 : ∀ x, g_ar Tc 403 x = if x = n then g_ar Sc 106 (d - 1) else g_ar Sc 403 x) (c4 : ∀ x, g_ar Tc 404 x = if x = n then g_ar Sc 107 (d - 1) else g_ar Sc 404 x) (c0 : ∀ x, x < n → g_ar Tc 400 x = g_ar Sc 400 x) (hm : ∀ x, x < n → g_ar Tm 721 x = g_ar Sm 721 x ∧ g_ar Tm 722 x = g_ar Sm 722 x ∧ g_ar Tm 723 x = g_ar Sm 723 x) : tx_L (fun i => g_ar Tc 400 i) (fun i => g_ar Tm 721 i) (fun i => g_ar Tm 722 i) (fun i => g_ar Tm 723 i) (fun i => g_ar Tc 403 i) (fun i => g_ar Tc 404 i) (n + 1) = T ++ tx_tok (fun i => g_ar Tc 400 i) (fun i => g_ar Tm 721 i) (fun i => g_ar Tm 722 i) (fun i => g_ar Tm 723 i) n := by
  obtain ⟨-, -, -, -, -, -, -, -, -, -, ⟨t1, -, -⟩, -⟩ := h
  have e1 : tx_L (fun i => g_ar Tc 400 i) (fun i => g_ar Tm 721 i) (fun i => g_ar Tm 722 i) (fun i => g_ar Tm 723 i) (fun i => g_ar Tc 403 i) (fun i => g_ar Tc 404 i) n = tx_L (fun i => g_ar Sc 400 i) (fun i => g_ar Sm 721 i) (fun i => g_ar Sm 722 i) (fun i => g_ar Sm 723 i) (fun i => g_ar Sc 403 i) (fun i => g_ar Sc 404 i) n := tx_L_eq n (fun s hs => ⟨c0 s hs, (hm s hs).1, (hm s hs).2.1, (hm s hs).2.2, by rw [c3, if_neg (by omega)], by rw [c4, if_neg (by omega)]⟩)
  have e2 : tx_pre (fun i => g_ar Tc 403 i) (fun i => g_ar Tc 404 i) n = tx_pend (fun i => g_ar Sc 403 i) (fun i => g_ar Sc 404 i) n d (fun c => g_ar Sc 106 c) (fun c => g_ar Sc 107 c) := by
    unfold tx_pre tx_pend
    try simp only
    rw [c3, c4, if_pos rfl, if_pos rfl, tx_cnt_eq (Pa := fun i => g_ar Sc 403 i) (Bo := fun i => g_ar Sc 404 i) _ _ n (fun s hs => ⟨by rw [c3, if_neg (by omega)], by rw [c4, if_neg (by omega)]⟩)]
    simp only [hd, true_and]
  show tx_L _ _ _ _ _ _ n ++ (tx_pre _ _ n ++ tx_tok _ _ _ _ n) = _
  rw [e1, e2, t1, List.append_assoc]
/-- one without a BODY -/
theorem r_X.leaf {vs : List Int32} (h : r_X S0 S1 ri L n d wc kk en ow fm hi dp D T Sc Sm) (hd : 0 < d) (hk : kk (d - 1) < en (d - 1)) (kb : k_b S0 ri (n + 1) d (wc + vs.length) Tc) (jb : j_b S1 (n + 1) (d + r_un (fun i => g_ar Sc 400 i) ow (fun c => g_ar Sc 107 c) d) Tm)
  (hso : so = 0 ∨ (6 ≤ so ∧ so ≤ 11)) (hvs : vs.length ≤ 4) (htok : tx_tok (fun i => g_ar Tc 400 i) (fun i => g_ar Tm 721 i) (fun i => g_ar Tm 722 i) (fun i => g_ar Tm 723 i) n = vs.map tx_lit)
  (ct : ∀ x, (g_ar Tc 400 x = if x = n then so else g_ar Sc 400 x) ∧ (g_ar Tc 401 x = if x = n then nI (kk (d - 1)) else g_ar Sc 401 x) ∧ (g_ar Tc 402 x = if x = n then nI (kk (d - 1) + 1) else g_ar Sc 402 x) ∧ (g_ar Tc 403 x = if x = n then g_ar Sc 106 (d - 1) else g_ar Sc 403 x) ∧ (g_ar Tc 404 x = if x = n then g_ar Sc 107 (d - 1) else g_ar Sc 404 x) ∧ (g_ar Tc 405 x = if x = n then 0 else g_ar Sc 405 x) ∧ (g_ar Tc 406 x = if x = kk (d - 1) then nI n else g_ar Sc 406 x))
  (cf : ∀ j c, 103 ≤ j → j ≤ 108 → g_ar Tc j c = g_ar Sc j c) (c411 : g_sc Tc 411 = g_sc Sc 411) (c410 : g_sc Tc 410 = if so = 8 ∨ so = 11 then g_sc Sc 410 + 1 else g_sc Sc 410)
  (w1 : ∀ i, i < wc → g_ar Tc 407 i = if g_ar Sc 108 (d - 1) = nI i then g_ar Sc 407 i + 1 else g_ar Sc 407 i) (w2 : ∀ j v, vs[j]? = some v → g_ar Tc 407 (wc + j) = v)
  (mt : ∀ x, x < n → ∀ j, 716 ≤ j → j ≤ 723 → g_ar Tm j x = g_ar Sm j x) (mn : g_ar Tm 716 n = so ∧ g_ar Tm 717 n = nI (kk (d - 1)) ∧ g_ar Tm 718 n = nI (kk (d - 1) + 1) ∧ g_ar Tm 719 n = g_ar Sc 106 (d - 1) ∧ g_ar Tm 720 n = g_ar Sc 107 (d - 1))
  (mK : ∀ x, g_ar Tm 725 x = if x = d - 1 + r_un (fun i => g_ar Sc 400 i) ow (fun c => g_ar Sc 107 c) d then nI (kk (d - 1) + 1) else g_ar Sm 725 x) (mf : ∀ j x, 726 ≤ j → j ≤ 730 → g_ar Tm j x = g_ar Sm j x) :
  r_X S0 S1 ri L (n + 1) d (wc + vs.length) (fun c => if c = d - 1 then kk (d - 1) + 1 else kk c) en ow fm (fun s => if s = n then n else hi s) (fun s => if s = n then d else dp s) D (T ++ vs.map tx_lit) Tc Tm := by
  have hT := h.tree hd (by have := h.2.2.2.2.2.2.2.2.2.2.2.2; omega) (Tc := Tc) (Tm := Tm) (fun x => (ct x).2.2.2.1) (fun x => (ct x).2.2.2.2.1) (fun x hx => by rw [(ct x).1, if_neg (by omega)]) (fun x hx => ⟨mt x hx 721 (by omega) (by omega), mt x hx 722 (by omega) (by omega), mt x hx 723 (by omega) (by omega)⟩)
  obtain ⟨x1, x2, x3, x4, x5, x6, x7, ⟨x8, x8b⟩, x9, x10, ⟨t1, t2, t3⟩, x12, ⟨y1, y2, y3, y4, y5⟩⟩ := h
  have hn1 : n < 1000 := by omega
  have hkL : en (d - 1) ≤ L := by have := x5.e0 (show d - 1 < d by omega); have := y1 hd; omega
  have e7 : (fun c => g_ar Tc 107 c) = (fun c => g_ar Sc 107 c) := funext (fun c => cf 107 c (by omega) (by omega))
  have e6 : (fun c => g_ar Tc 106 c) = (fun c => g_ar Sc 106 c) := funext (fun c => cf 106 c (by omega) (by omega))
  have e5 : (fun c => g_ar Tc 105 c) = (fun c => g_ar Sc 105 c) := funext (fun c => cf 105 c (by omega) (by omega))
  have e4 : (fun c => g_ar Tc 104 c) = (fun c => g_ar Sc 104 c) := funext (fun c => cf 104 c (by omega) (by omega))
  have e3 : (fun c => g_ar Tc 103 c) = (fun c => g_ar Sc 103 c) := funext (fun c => cf 103 c (by omega) (by omega))
  have e8 : (fun c => g_ar Tc 108 c) = (fun c => g_ar Sc 108 c) := funext (fun c => cf 108 c (by omega) (by omega))
  have m6 : ∀ j, 726 ≤ j → j ≤ 730 → (fun c => g_ar Tm j c) = (fun c => g_ar Sm j c) := fun j h1 h2 => funext (fun c => mf j c h1 h2)
  have so2 : ¬ so = 2 := by rcases hso with rfl | ⟨h1, h2⟩; decide; intro q; subst q; exact absurd h1 (by decide)
  have so3 : ¬ so = 3 := by rcases hso with rfl | ⟨h1, h2⟩; decide; intro q; subst q; exact absurd h1 (by decide)
  have so4 : ¬ so = 4 := by rcases hso with rfl | ⟨h1, h2⟩; decide; intro q; subst q; exact absurd h1 (by decide)
  have so5 : ¬ so = 5 := by rcases hso with rfl | ⟨h1, h2⟩; decide; intro q; subst q; exact absurd h1 (by decide)
  have soc : ¬ r_cmp so := by
    rintro ⟨q1, q2⟩
    rcases hso with rfl | ⟨h1, h2⟩
    · exact absurd q1 (by decide)
    · have := Int32.le_trans h1 q2; exact absurd this (by decide)
  have hown : ∀ c, 0 < c → c < d → ow c < n := fun c h1 h2 => (x6.2 c h1 h2).1
  have hS : ∀ c, c < d → (r_wt (fun i => g_ar Tc 400 i) ow (fun c => g_ar Sc 107 c) c ↔ r_wt (fun i => g_ar Sc 400 i) ow (fun c => g_ar Sc 107 c) c) := by
    intro c hc
    unfold r_wt
    try simp only
    by_cases e : c = 0
    · subst e
      have := (x6.1 hd).2
      simp only at this
      rw [this]
      exact ⟨fun q => absurd q.2 (by decide), fun q => absurd q.2 (by decide)⟩
    · rw [(ct (ow c)).1, if_neg (by have := hown c (by omega) hc; omega)]
  have hun : ∀ c, c ≤ d → r_un (fun i => g_ar Tc 400 i) ow (fun c => g_ar Sc 107 c) c = r_un (fun i => g_ar Sc 400 i) ow (fun c => g_ar Sc 107 c) c := fun c hc => r_un_eq c (fun c' hc' => hS c' (by omega))
  have hmono : ∀ c, c < d → r_un (fun i => g_ar Sc 400 i) ow (fun c => g_ar Sc 107 c) (c + 1) ≤ r_un (fun i => g_ar Sc 400 i) ow (fun c => g_ar Sc 107 c) d := fun c hc => by
    have := r_un_mono (So := fun i => g_ar Sc 400 i) (ow := ow) (sd := fun c => g_ar Sc 107 c) (d - (c + 1)) (c + 1)
    rw [show c + 1 + (d - (c + 1)) = d by omega] at this
    exact this
  have hstep : ∀ c, c < d → r_wt (fun i => g_ar Sc 400 i) ow (fun c => g_ar Sc 107 c) c → r_un (fun i => g_ar Sc 400 i) ow (fun c => g_ar Sc 107 c) (c + 1) = r_un (fun i => g_ar Sc 400 i) ow (fun c => g_ar Sc 107 c) c + 1 := fun c hc hw => by
    show _ + (if r_wt (fun i => g_ar Sc 400 i) ow (fun c => g_ar Sc 107 c) c then 1 else 0) = _
    rw [if_pos hw]
  have htop : g_ar Sc 106 (d - 1) = r_top d ow := x6.top hd
  have hPa : ∀ x, g_ar Tc 403 x = if x = n then r_top d ow else g_ar Sc 403 x := fun x => by rw [(ct x).2.2.2.1, htop]
  have hA : ∀ s, s < n → g_ar Tc 400 s = g_ar Sc 400 s ∧ g_ar Tc 401 s = g_ar Sc 401 s ∧ g_ar Tc 402 s = g_ar Sc 402 s ∧ g_ar Tc 404 s = g_ar Sc 404 s := fun s hs => by
    obtain ⟨a0, a1, a2, a3, a4, -⟩ := ct s
    have e : ¬ s = n := by omega
    rw [if_neg e] at a0 a1 a2 a3 a4
    exact ⟨a0, a1, a2, a4⟩
  have hPB : ∀ s, s < n → g_ar Tc 403 s = g_ar Sc 403 s ∧ g_ar Tc 404 s = g_ar Sc 404 s := fun s hs => by
    rw [(ct s).2.2.2.1, (ct s).2.2.2.2.1, if_neg (show ¬ s = n by omega), if_neg (show ¬ s = n by omega)]; exact ⟨rfl, rfl⟩
  have sz := r_sz_leaf (So := fun i => g_ar Sc 400 i) (So' := fun i => g_ar Tc 400 i) (ow := ow) (sd := fun c => g_ar Sc 107 c) (kk := kk) (kk' := fun c => if c = d - 1 then kk (d - 1) + 1 else kk c) (en := en) (beh := kk (d - 1) + 1) hd hS (by omega) (by omega) (fun c => rfl)
  have hpend : tx_pend (fun i => g_ar Tc 403 i) (fun i => g_ar Tc 404 i) (n + 1) d (fun c => g_ar Sc 106 c) (fun c => g_ar Sc 107 c) = [] := by
    unfold tx_pend
    rw [if_neg]
    rintro ⟨-, q1, q2⟩
    have q3 : tx_cnt (fun i => g_ar Tc 403 i) (fun i => g_ar Tc 404 i) (g_ar Sc 106 (d - 1)) 1 (n + 1) = 0 := q2
    have := tx_cnt_pos (Pa := fun i => g_ar Tc 403 i) (Bo := fun i => g_ar Tc 404 i) (a := g_ar Sc 106 (d - 1)) (b := 1) (n + 1) n (by omega) (by (try simp only); rw [(ct n).2.2.2.1, if_pos rfl]) (by (try simp only); rw [(ct n).2.2.2.2.1, if_pos rfl]; exact q1)
    omega
  unfold r_X
  rw [e3, e4, e5, e6, e7, e8, hun d (Nat.le_refl _), m6 726 (by omega) (by omega), m6 727 (by omega) (by omega), m6 728 (by omega) (by omega), m6 729 (by omega) (by omega), m6 730 (by omega) (by omega)]
  refine ⟨kb, jb, fun s hs => ?_, ?_, ?_, ?_, ?_, ⟨?_, ?_⟩, ?_, ?_, ⟨?_, ?_, ?_⟩, ?_, ⟨fun _ => y1 hd, ?_, by omega, ?_, y5⟩⟩
  · obtain ⟨a0, a1, a2, a3, a4, -⟩ := ct s
    rw [a0, a1, a2, a3, a4]
    by_cases e : s = n
    · subst e
      simp only [if_true]
      exact mn
    · simp only [if_neg e]
      rw [mt s (by omega) 716 (by omega) (by omega), mt s (by omega) 717 (by omega) (by omega), mt s (by omega) 718 (by omega) (by omega), mt s (by omega) 719 (by omega) (by omega), mt s (by omega) 720 (by omega) (by omega)]
      exact x3 s (by omega)
  · exact x4.leaf hd hmono hstep hun hS (fun c => rfl) mK
  · have := x5.leaf (kk' := fun c => if c = d - 1 then kk (d - 1) + 1 else kk c) hd (show kk (d - 1) + 1 ≤ en (d - 1) by omega) (by omega) (fun c => rfl)
    exact ⟨this.1, fun c hc => ⟨(this.2 c hc).1, fun q => (this.2 c hc).2 ((hS (c + 1) hc).mp q)⟩⟩
  · exact x6.leaf hd (Nat.le_succ _) (fun c => rfl) hA
  · exact x7.leaf hd hn1 hPa (fun x hx => by (try simp only); rw [(ct x).2.2.2.2.2.1, if_neg (by omega)]) (by (try simp only); rw [(ct n).2.2.2.2.2.1, if_pos rfl])
  · exact x8.leaf hd hPa (fun x hx => (hA x hx).1) (by (try simp only); rw [(ct n).1, if_pos rfl]; exact soc)
  · rw [c411]; exact x8b
  · rw [c410, x9]
    show _ = nI (r_J (fun i => g_ar Tc 400 i) n + (if g_ar Tc 400 n = 8 ∨ g_ar Tc 400 n = 11 then 1 else 0))
    rw [r_J_eq (So := fun i => g_ar Sc 400 i) n (fun x hx => (hA x hx).1), (ct n).1, if_pos rfl]
    by_cases q : so = 8 ∨ so = 11
    · rw [if_pos q, if_pos q, nI_1]
    · rw [if_neg q, if_neg q]; rfl
  · refine x10.stp (R := fun i => i = kk (d - 1)) (fun s hs i => ?_) (fun i hi => ?_) (fun i hi => ?_) (fun i hi r => ?_) (fun i hi r => ?_) (fun i hi r => ?_)
    · unfold r_M
      try simp only
      rw [(hA s hs).1, (hA s hs).2.1, (hA s hs).2.2.1, mt s hs 723 (by omega) (by omega)]
    · unfold r_M
      try simp only
      rw [(ct n).1, (ct n).2.1, (ct n).2.2.1, if_pos rfl, if_pos rfl, if_pos rfl]
      constructor
      · rintro (⟨-, q⟩ | ⟨q, -⟩ | ⟨q, -⟩)
        · rw [nI_eq (by omega) (by omega)] at q; exact q.symm
        · unfold w_lp at q
          exact absurd q (by rintro (q | q | q); exact so3 q; exact so4 q; exact so5 q)
        · exact absurd q so2
      · rintro rfl
        exact Or.inl ⟨by rintro (q | q); exact so3 q; exact so5 q, rfl⟩
    · rw [← r_F_leaf x5 hd hk (kk' := fun c => if c = d - 1 then kk (d - 1) + 1 else kk c) (fun c => rfl) i]
      constructor
      · rintro (q | ⟨c, c1, c2, c3⟩)
        · exact Or.inl q
        · exact Or.inr ⟨c, c1, (hS _ c1).mp c2, c3⟩
      · rintro (q | ⟨c, c1, c2, c3⟩)
        · exact Or.inl q
        · exact Or.inr ⟨c, c1, (hS _ c1).mpr c2, c3⟩
    · subst r
      exact Or.inl ⟨d - 1, by omega, Nat.le_refl _, hk⟩
    · subst r; (try simp only); rw [(ct _).2.2.2.2.2.2, if_pos rfl]
    · (try simp only); rw [(ct _).2.2.2.2.2.2, if_neg r]
  · rw [hT, htok, hpend, List.append_nil]
  · rw [List.length_append, List.length_map, ← t2]
  · refine t3.leaf hd hPB (by (try simp only); rw [(ct n).2.2.2.1, if_pos rfl]) (by (try simp only); rw [(ct n).2.2.2.2.1, if_pos rfl]) (by omega) (fun i hi => w1 i (by omega)) (fun j t ht => ?_) (fun c hc q => ?_)
    · obtain ⟨v, v1, rfl⟩ := tx_lit_get ht
      rw [← t2, w2 j v v1]
      rfl
    · obtain ⟨v, -, v2⟩ := List.mem_map.mp q
      exact i_1n (Prod.mk.inj v2).1.symm
  · exact ⟨x12.1.leaf x6 x7.2.1 hn1 hd hPB (by (try simp only); rw [(ct n).2.2.2.1, if_pos rfl]) (by (try simp only); rw [(ct n).2.2.2.2.1, if_pos rfl]) hS, x12.2.leaf x12.1 x6 x7 hd (by omega) hPB (fun s hs => (hA s hs).1) (by (try simp only); rw [(ct n).2.2.2.1, if_pos rfl]) (by (try simp only); rw [(ct n).2.2.2.2.1, if_pos rfl]) hn1 (by (try simp only); rw [(ct n).1, if_pos rfl]; rcases hso with z | ⟨z, -⟩; rw [z]; decide; exact Int32.le_trans (by decide) z) (by (try simp only); rw [(ct n).1, if_pos rfl]; exact so2)⟩
  · omega
  · omega
end
