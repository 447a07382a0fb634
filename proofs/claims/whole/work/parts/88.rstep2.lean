/-! READING: a STATEMENT with a BODY; BODIES that are over -/
section
variable {S0 S1 : x_S} {ri L n d wc D : Nat} {kk en ow fm hi dp : Nat → Nat} {T : List tx_T} {Sc Sm Tc Tm : x_S} {so b1 a1 : Int32} {beh kk0 en0 o1 o2 : Nat}
theorem r_un_step (So : Nat → Int32) (ow : Nat → Nat) (sd : Nat → Int32) {c : Nat} (hw : r_wt So ow sd c) : r_un So ow sd (c + 1) = r_un So ow sd c + 1 := by
  show _ + (if r_wt So ow sd c then 1 else 0) = _
  rw [if_pos hw]
theorem r_un_le (So : Nat → Int32) (ow : Nat → Nat) (sd : Nat → Int32) {c d : Nat} (hc : c ≤ d) : r_un So ow sd c ≤ r_un So ow sd d := by
  have := r_un_mono (So := So) (ow := ow) (sd := sd) (d - c) c
  rw [show c + (d - c) = d by omega] at this
  exact this
theorem r_X.opn {vs : List Int32} (h : r_X S0 S1 ri L n d wc kk en ow fm hi dp D T Sc Sm) (hd : 0 < d) (hk : kk (d - 1) < en (d - 1)) (kb : k_b S0 ri (n + 1) (d + 1) (wc + vs.length + 1) Tc) (jb : j_b S1 (n + 1) (d + 1 + (r_un (fun i => g_ar Sc 400 i) ow (fun c => g_ar Sc 107 c) d + (if so = 2 then 1 else 0))) Tm)
  (hso : r_cmp so) (hkb : kk (d - 1) < beh) (hb : beh ≤ en (d - 1)) (h0 : kk (d - 1) ≤ kk0) (h1 : kk0 ≤ en0) (h2 : en0 ≤ beh) (h3 : so = 2 → en0 + 1 < beh) (hloop : kk0 = kk (d - 1) → (so = 3 ∨ so = 5) ∧ (0 < d - 1 → (g_ar Sc 400 (ow (d - 1)) = 3 ∨ g_ar Sc 400 (ow (d - 1)) = 5) → ¬ fm (d - 1) = kk (d - 1))) (hc1 : ¬ so = 2 → en0 - kk0 + 1 ≤ beh - kk (d - 1)) (hc2 : so = 2 → kk0 = kk (d - 1) + 1)
  (hvs : vs.length ≤ 3) (htok : tx_tok (fun i => g_ar Tc 400 i) (fun i => g_ar Tm 721 i) (fun i => g_ar Tm 722 i) (fun i => g_ar Tm 723 i) n = vs.map tx_lit ++ [(1, nI n, 0)])
  (hR : ∀ i, (kk (d - 1) ≤ i ∧ i < beh ∧ ¬ (kk0 ≤ i ∧ i < en0) ∧ ¬ (so = 2 ∧ en0 < i)) ↔ (i = o1 ∨ i = o2)) (hM : ∀ i, i < L → (r_M (fun i => g_ar Tc 400 i) (fun i => g_ar Tc 401 i) (fun i => g_ar Tc 402 i) (fun i => g_ar Tm 723 i) n i ↔ (i = o1 ∨ i = o2)))
  (ct : ∀ x, (g_ar Tc 400 x = if x = n then so else g_ar Sc 400 x) ∧ (g_ar Tc 401 x = if x = n then nI (kk (d - 1)) else g_ar Sc 401 x) ∧ (g_ar Tc 402 x = if x = n then nI beh else g_ar Sc 402 x) ∧ (g_ar Tc 403 x = if x = n then g_ar Sc 106 (d - 1) else g_ar Sc 403 x) ∧ (g_ar Tc 404 x = if x = n then g_ar Sc 107 (d - 1) else g_ar Sc 404 x) ∧ (g_ar Tc 405 x = if x = n then 0 else g_ar Sc 405 x) ∧ (g_ar Tc 406 x = if x = o1 ∨ x = o2 then nI n else g_ar Sc 406 x))
  (cf : ∀ j c, 103 ≤ j → j ≤ 108 → c < d → g_ar Tc j c = g_ar Sc j c) (cf2 : g_ar Tc 103 d = nI en0 ∧ g_ar Tc 104 d = b1 ∧ g_ar Tc 105 d = a1 ∧ g_ar Tc 106 d = nI n ∧ g_ar Tc 107 d = 0 ∧ g_ar Tc 108 d = nI (wc + vs.length)) (c411 : g_sc Tc 411 = if g_sc Sc 411 < nI (d + 1) then nI (d + 1) else g_sc Sc 411) (c410 : g_sc Tc 410 = g_sc Sc 410)
  (w1 : ∀ i, i < wc → g_ar Tc 407 i = if g_ar Sc 108 (d - 1) = nI i then g_ar Sc 407 i + 1 else g_ar Sc 407 i) (w2 : ∀ j v, vs[j]? = some v → g_ar Tc 407 (wc + j) = v) (w3 : g_ar Tc 407 (wc + vs.length) = 0)
  (mt : ∀ x, x < n → ∀ j, 716 ≤ j → j ≤ 723 → g_ar Tm j x = g_ar Sm j x) (mn : g_ar Tm 716 n = so ∧ g_ar Tm 717 n = nI (kk (d - 1)) ∧ g_ar Tm 718 n = nI beh ∧ g_ar Tm 719 n = g_ar Sc 106 (d - 1) ∧ g_ar Tm 720 n = g_ar Sc 107 (d - 1))
  (mK : ∀ x, x < d + r_un (fun i => g_ar Sc 400 i) ow (fun c => g_ar Sc 107 c) d → g_ar Tm 725 x = if x = d - 1 + r_un (fun i => g_ar Sc 400 i) ow (fun c => g_ar Sc 107 c) d then nI beh else g_ar Sm 725 x) (mf : ∀ x, x < d + r_un (fun i => g_ar Sc 400 i) ow (fun c => g_ar Sc 107 c) d → ∀ j, 726 ≤ j → j ≤ 730 → g_ar Tm j x = g_ar Sm j x)
  (mQ : ∀ q, q = d + (r_un (fun i => g_ar Sc 400 i) ow (fun c => g_ar Sc 107 c) d + (if so = 2 then 1 else 0)) → g_ar Tm 725 q = nI kk0 ∧ g_ar Tm 726 q = nI en0 ∧ g_ar Tm 727 q = b1 ∧ g_ar Tm 728 q = a1 ∧ g_ar Tm 729 q = nI n ∧ g_ar Tm 730 q = 0) (mQ2 : so = 2 → ∀ q, q = d + r_un (fun i => g_ar Sc 400 i) ow (fun c => g_ar Sc 107 c) d → g_ar Tm 725 q = nI (en0 + 1) ∧ g_ar Tm 726 q = nI beh ∧ g_ar Tm 727 q = b1 ∧ g_ar Tm 728 q = a1 ∧ g_ar Tm 729 q = nI n ∧ g_ar Tm 730 q = 1) :
  r_X S0 S1 ri L (n + 1) (d + 1) (wc + vs.length + 1) (fun c => if c = d then kk0 else if c = d - 1 then beh else kk c) (fun c => if c = d then en0 else en c) (fun c => if c = d then n else ow c) (fun c => if c = d then kk (d - 1) else fm c) hi (fun s => if s = n then d else dp s) (if D < d + 1 then d + 1 else D) (T ++ (vs.map tx_lit ++ [(1, nI n, 0)])) Tc Tm := by
  have hT := h.tree hd (by have := h.2.2.2.2.2.2.2.2.2.2.2.2; omega) (Tc := Tc) (Tm := Tm) (fun x => (ct x).2.2.2.1) (fun x => (ct x).2.2.2.2.1) (fun x hx => by rw [(ct x).1, if_neg (by omega)]) (fun x hx => ⟨mt x hx 721 (by omega) (by omega), mt x hx 722 (by omega) (by omega), mt x hx 723 (by omega) (by omega)⟩)
  obtain ⟨x1, x2, x3, x4, x5, x6, x7, ⟨x8, x8b⟩, x9, x10, ⟨t1, t2, t3⟩, x12, ⟨y1, y2, y3, y4, y5⟩⟩ := h
  have hn1 : n < 1000 := by omega
  have hkL : en (d - 1) ≤ L := by have := x5.e0 (show d - 1 < d by omega); have := y1 hd; omega
  have so8 : ¬ (so = 8 ∨ so = 11) := by
    rintro (q | q)
    · have := hso.2; rw [q] at this; exact absurd this (by decide)
    · have := hso.2; rw [q] at this; exact absurd this (by decide)
  have hown : ∀ c, 0 < c → c < d → ow c < n := fun c h1 h2 => (x6.2 c h1 h2).1
  have hos : ∀ c, c < d → g_ar Tc 106 c = g_ar Sc 106 c ∧ g_ar Tc 107 c = g_ar Sc 107 c := fun c hc => ⟨cf 106 c (by omega) (by omega) hc, cf 107 c (by omega) (by omega) hc⟩
  have hS : ∀ c, c < d → (r_wt (fun i => g_ar Tc 400 i) (fun c => if c = d then n else ow c) (fun c => g_ar Tc 107 c) c ↔ r_wt (fun i => g_ar Sc 400 i) ow (fun c => g_ar Sc 107 c) c) := by
    intro c hc
    unfold r_wt
    simp only
    rw [if_neg (show ¬ c = d by omega), (hos c hc).2]
    by_cases e : c = 0
    · subst e
      have z : g_ar Sc 107 0 = -1 := (x6.1 hd).2
      rw [z]
      exact ⟨fun q => absurd q.2 (by decide), fun q => absurd q.2 (by decide)⟩
    · rw [(ct (ow c)).1, if_neg (by have := hown c (by omega) hc; omega)]
  have hS2 : r_wt (fun i => g_ar Tc 400 i) (fun c => if c = d then n else ow c) (fun c => g_ar Tc 107 c) d ↔ so = 2 := by
    unfold r_wt
    simp only [if_true]
    rw [(ct n).1, if_pos rfl, cf2.2.2.2.2.1]
    exact ⟨fun q => q.1, fun q => ⟨q, rfl⟩⟩
  have hun : ∀ c, c ≤ d → r_un (fun i => g_ar Tc 400 i) (fun c => if c = d then n else ow c) (fun c => g_ar Tc 107 c) c = r_un (fun i => g_ar Sc 400 i) ow (fun c => g_ar Sc 107 c) c := fun c hc => r_un_eq c (fun c' hc' => hS c' (by omega))
  have hun2 : r_un (fun i => g_ar Tc 400 i) (fun c => if c = d then n else ow c) (fun c => g_ar Tc 107 c) (d + 1) = r_un (fun i => g_ar Sc 400 i) ow (fun c => g_ar Sc 107 c) d + (if so = 2 then 1 else 0) := by
    show r_un _ _ _ d + (if r_wt (fun i => g_ar Tc 400 i) (fun c => if c = d then n else ow c) (fun c => g_ar Tc 107 c) d then 1 else 0) = _
    rw [hun d (Nat.le_refl _)]
    simp only [hS2]
  have htop : g_ar Sc 106 (d - 1) = r_top d ow := x6.top hd
  have hPa : ∀ x, g_ar Tc 403 x = if x = n then r_top d ow else g_ar Sc 403 x := fun x => by rw [(ct x).2.2.2.1, htop]
  have hA : ∀ s, s < n → g_ar Tc 400 s = g_ar Sc 400 s ∧ g_ar Tc 401 s = g_ar Sc 401 s ∧ g_ar Tc 402 s = g_ar Sc 402 s ∧ g_ar Tc 404 s = g_ar Sc 404 s := fun s hs => by
    obtain ⟨a0, a1, a2, a3, a4, -⟩ := ct s
    have e : ¬ s = n := by omega
    rw [if_neg e] at a0 a1 a2 a3 a4
    exact ⟨a0, a1, a2, a4⟩
  have hPB : ∀ s, s < n → g_ar Tc 403 s = g_ar Sc 403 s ∧ g_ar Tc 404 s = g_ar Sc 404 s := fun s hs => by
    rw [(ct s).2.2.2.1, (ct s).2.2.2.2.1, if_neg (show ¬ s = n by omega), if_neg (show ¬ s = n by omega)]; exact ⟨rfl, rfl⟩
  have sz := r_sz_opn (So := fun i => g_ar Sc 400 i) (So' := fun i => g_ar Tc 400 i) (ow := ow) (ow' := fun c => if c = d then n else ow c) (sd := fun c => g_ar Sc 107 c) (sd' := fun c => g_ar Tc 107 c) (kk := kk) (kk' := fun c => if c = d then kk0 else if c = d - 1 then beh else kk c) (en := en) (en' := fun c => if c = d then en0 else en c) (beh := beh) (kk0 := kk0) (en0 := en0) hd hS hkb hb (fun c => rfl) (fun c => rfl)
  simp only [hS2] at sz
  have hpend : tx_pend (fun i => g_ar Tc 403 i) (fun i => g_ar Tc 404 i) (n + 1) (d + 1) (fun c => g_ar Tc 106 c) (fun c => g_ar Tc 107 c) = [] := by
    unfold tx_pend
    rw [if_neg]
    rintro ⟨-, q1, -⟩
    have q3 : g_ar Tc 107 d = 1 := q1
    rw [cf2.2.2.2.2.1] at q3
    exact absurd q3 (by decide)
  have hcnt : tx_cnt (fun i => g_ar Tc 403 i) (fun i => g_ar Tc 404 i) (nI n) 0 (n + 1) = 0 := by
    refine tx_cnt_zero _ (fun s hs q => ?_)
    have q1 : g_ar Tc 403 s = nI n := q.1
    rw [hPa] at q1
    by_cases e : s = n
    · rw [if_pos e] at q1
      unfold r_top at q1
      by_cases ed : d = 1
      · rw [if_pos ed] at q1; exact nI_m1 (by omega) q1.symm
      · rw [if_neg ed, nI_eq (by have := hown (d - 1) (by omega) (by omega); omega) (by omega)] at q1
        have := hown (d - 1) (by omega) (by omega)
        omega
    · rw [if_neg e] at q1
      rcases x7.2.2.2.1 s (by omega) with z | ⟨p, p1, p2⟩
      · have z' : g_ar Sc 403 s = -1 := z
        rw [z'] at q1; exact nI_m1 (by omega) q1.symm
      · have p2' : g_ar Sc 403 s = nI p := p2
        rw [p2', nI_eq (by omega) (by omega)] at q1; omega
  have hosr : ∀ c, c < d → ¬ (g_ar Sc 106 c = nI n) := by
    intro c hc q
    by_cases e : c = 0
    · subst e
      have z : g_ar Sc 106 0 = -1 := (x6.1 hd).1
      rw [z] at q; exact nI_m1 (by omega) q.symm
    · have z : g_ar Sc 106 c = nI (ow c) := (x6.2 c (by omega) hc).2.1
      have := hown c (by omega) hc
      rw [z, nI_eq (by omega) (by omega)] at q
      omega
  have tW : r_W (T ++ vs.map tx_lit) (fun i => g_ar Tc 403 i) (fun i => g_ar Tc 404 i) (n + 1) d (fun c => g_ar Sc 106 c) (fun c => g_ar Sc 107 c) (fun c => g_ar Sc 108 c) (fun i => g_ar Tc 407 i) := by
    refine t3.leaf hd hPB (by (try simp only); rw [(ct n).2.2.2.1, if_pos rfl]) (by (try simp only); rw [(ct n).2.2.2.2.1, if_pos rfl]) (by omega) (fun i hi => w1 i (by omega)) (fun j t ht => ?_) (fun c hc q => ?_)
    · obtain ⟨v, v1, rfl⟩ := tx_lit_get ht
      rw [← t2, w2 j v v1]
      rfl
    · obtain ⟨v, -, v2⟩ := List.mem_map.mp q
      exact i_1n (Prod.mk.inj v2).1.symm
  have hlen : (T ++ vs.map tx_lit).length = wc + vs.length := by rw [List.length_append, List.length_map, ← t2]
  have hfresh : ¬ ((1, nI n, 0) : tx_T) ∈ T ++ vs.map tx_lit := by
    intro q
    rcases List.mem_append.mp q with q | q
    · rw [t1] at q
      rcases List.mem_append.mp q with q | q
      · rcases tx_L_slot n q with z | ⟨s, s1, s2, -⟩ | ⟨z, -⟩
        · exact nI_m1 (by omega) z.1
        · rw [nI_eq (by omega) (by omega)] at s2; omega
        · exact absurd z (by decide)
      · unfold tx_pend at q
        split at q
        · have := (Prod.mk.inj (Prod.mk.inj (List.mem_singleton.mp q)).2).2
          exact absurd this (by decide)
        · exact absurd q List.not_mem_nil
    · obtain ⟨v, -, v2⟩ := List.mem_map.mp q
      exact i_1n (Prod.mk.inj v2).1.symm
  unfold r_X
  rw [hun2]
  refine ⟨kb, jb, fun s hs => ?_, ?_, ?_, ?_, ?_, ⟨?_, ?_⟩, ?_, ?_, ⟨?_, ?_, ?_⟩, ?_, ⟨fun _ => ?_, ?_, by omega, ?_, y5⟩⟩
  · obtain ⟨a0, a1, a2, a3, a4, -⟩ := ct s
    rw [a0, a1, a2, a3, a4]
    by_cases e : s = n
    · subst e
      simp only [if_true]
      exact mn
    · simp only [if_neg e]
      rw [mt s (by omega) 716 (by omega) (by omega), mt s (by omega) 717 (by omega) (by omega), mt s (by omega) 718 (by omega) (by omega), mt s (by omega) 719 (by omega) (by omega), mt s (by omega) 720 (by omega) (by omega)]
      exact x3 s (by omega)
  · refine x4.opn (n := n) (w0 := so = 2) (b1 := b1) (a1 := a1) hd (fun c hc => r_un_le _ _ _ (by omega)) (fun c hc hw => r_un_step _ _ _ hw) hun ?_ hS hS2 (fun c => rfl) (fun c => rfl) (fun c hc => ⟨cf 103 c (by omega) (by omega) hc, cf 104 c (by omega) (by omega) hc, cf 105 c (by omega) (by omega) hc, (hos c hc).1, (hos c hc).2⟩) ⟨cf2.1, cf2.2.1, cf2.2.2.1, cf2.2.2.2.1, cf2.2.2.2.2.1⟩ mK (fun x hx => ⟨mf x hx 726 (by omega) (by omega), mf x hx 727 (by omega) (by omega), mf x hx 728 (by omega) (by omega), mf x hx 729 (by omega) (by omega), mf x hx 730 (by omega) (by omega)⟩) (mQ _ (by rw [hun2])) (fun q => mQ2 q _ rfl)
    rw [hun2]
    by_cases e : so = 2
    · left; exact ⟨e, by rw [if_pos e]⟩
    · right; exact ⟨e, by rw [if_neg e]; rfl⟩
  · exact x5.opn (w0 := so = 2) hd hb (by omega) h1 h2 h3 (fun c => rfl) (fun c => rfl) hS hS2
  · refine x6.opn hd hkb h0 (fun q => ?_) (fun c => rfl) hA ⟨?_, ?_, ?_, ?_⟩ hos ⟨cf2.2.2.2.1, cf2.2.2.2.2.1⟩
    · obtain ⟨z1, z2⟩ := hloop q
      refine ⟨?_, z2⟩
      (try simp only)
      rw [(ct n).1, if_pos rfl]; exact z1
    · (try simp only); rw [(ct n).1, if_pos rfl]; exact hso
    · (try simp only); rw [(ct n).2.1, if_pos rfl]
    · (try simp only); rw [(ct n).2.2.1, if_pos rfl]
    · (try simp only); rw [(ct n).2.2.2.2.1, if_pos rfl]
  · exact x7.opn hd hn1 hPa (fun x hx => by (try simp only); rw [(ct x).2.2.2.2.2.1, if_neg (by omega)])
  · exact x8.opn hd hPa (fun x hx => (hA x hx).1) (by (try simp only); rw [(ct n).1, if_pos rfl]; exact hso)
  · rw [c411, x8b]
    have hD : D < 2 ^ 31 := by
      have := x8.2.2.2.2.2
      rcases this with q | ⟨s, s1, -, s3⟩
      · omega
      · have : ∀ s, s < n → dp s ≤ s + 1 := by
          intro s
          induction s using Nat.strongRecOn with
          | ind s ihs =>
            intro hs
            rcases x8.1 s hs with ⟨-, q⟩ | ⟨p, p1, -, p3⟩
            · omega
            · have := ihs p p1 (by omega)
              omega
        have := this s s1
        omega
    by_cases e : D < d + 1
    · rw [if_pos (nI_lt e (by omega)), if_pos e]
    · rw [if_neg (nI_nlt (by omega) hD), if_neg e]
  · rw [c410, x9]
    show _ = nI (r_J (fun i => g_ar Tc 400 i) n + (if g_ar Tc 400 n = 8 ∨ g_ar Tc 400 n = 11 then 1 else 0))
    rw [r_J_eq (So := fun i => g_ar Sc 400 i) n (fun x hx => (hA x hx).1), (ct n).1, if_pos rfl, if_neg so8]
    rfl
  · refine x10.stp (R := fun i => i = o1 ∨ i = o2) (fun s hs i => ?_) hM (fun i hi => ?_) (fun i hi r => ?_) (fun i hi r => ?_) (fun i hi r => ?_)
    · unfold r_M
      (try simp only)
      rw [(hA s hs).1, (hA s hs).2.1, (hA s hs).2.2.1, mt s hs 723 (by omega) (by omega)]
    · rw [← hR i]
      exact r_F_opn (w0 := so = 2) x5 hd hb hkb h0 h1 h2 (fun c => rfl) (fun c => rfl) hS hS2 i
    · have := (hR i).mpr r
      exact Or.inl ⟨d - 1, by omega, this.1, by omega⟩
    · (try simp only); rw [(ct _).2.2.2.2.2.2, if_pos r]
    · (try simp only); rw [(ct _).2.2.2.2.2.2, if_neg r]
  · rw [hT, htok, hpend, List.append_nil]
  · rw [← List.append_assoc, List.length_append, hlen]; rfl
  · rw [← List.append_assoc]
    refine tW.slot (c0 := d) (a := nI n) (b := 0) (Nat.le_refl _) (fun i hi => rfl) ?_ hfresh (fun c hc e => ⟨(hos c hc).1, (hos c hc).2, cf 108 c (by omega) (by omega) hc, fun q => hosr c hc q.1⟩) ⟨cf2.2.2.2.1, cf2.2.2.2.2.1, ?_⟩ (fun _ _ _ => trivial) (fun c hc => by omega)
    · (try simp only)
      rw [hlen, w3, hcnt]; rfl
    · (try simp only)
      rw [hlen]; exact cf2.2.2.2.2.2
  · exact ⟨x12.1.opn x6 x7.2.1 hn1 hd hPB (by (try simp only); rw [(ct n).2.2.2.1, if_pos rfl]) (by (try simp only); rw [(ct n).2.2.2.2.1, if_pos rfl]) x7.2.2.2.1 hS hos ⟨cf2.2.2.2.1, cf2.2.2.2.2.1⟩, x12.2.opn x12.1 x6 x7 hd (by omega) hPB (fun s hs => (hA s hs).1) (by (try simp only); rw [(ct n).2.2.2.1, if_pos rfl]) (by (try simp only); rw [(ct n).2.2.2.2.1, if_pos rfl]) hn1 (by (try simp only); rw [(ct n).1, if_pos rfl]; exact Int32.le_trans (by decide) hso.1)⟩
  · (try simp only)
    rw [if_neg (by omega)]; exact y1 hd
  · by_cases e : so = 2
    · rw [if_pos e] at sz
      have := hc2 e
      have := h3 e
      omega
    · rw [if_neg e] at sz
      have := hc1 e
      omega
  · by_cases e : so = 2
    · rw [if_pos e] at sz ⊢
      have := hc2 e
      have := h3 e
      omega
    · rw [if_neg e] at sz ⊢
      have := hc1 e
      omega
end
