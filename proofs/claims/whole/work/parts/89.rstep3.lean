/-! READING: BODIES that are over -/
section
variable {S0 S1 : x_S} {ri L n d wc D : Nat} {kk en ow fm hi dp : Nat → Nat} {T : List tx_T} {Sc Sm Tc Tm : x_S}
theorem r_X.turn (h : r_X S0 S1 ri L n d wc kk en ow fm hi dp D T Sc Sm) (hd : 1 < d) (hke : kk (d - 1) = en (d - 1)) (hw0 : r_wt (fun i => g_ar Sc 400 i) ow (fun c => g_ar Sc 107 c) (d - 1)) (kb : k_b S0 ri n d (wc + 1) Tc) (jb : j_b S1 n (d + (r_un (fun i => g_ar Sc 400 i) ow (fun c => g_ar Sc 107 c) d - 1)) Tm)
  (ct : ∀ j x, 400 ≤ j → j ≤ 406 → g_ar Tc j x = g_ar Sc j x) (cf : ∀ j c, 103 ≤ j → j ≤ 108 → ¬ c = d - 1 → g_ar Tc j c = g_ar Sc j c) (cf2 : g_ar Tc 103 (d - 1) = nI (kk (d - 2)) ∧ g_ar Tc 104 (d - 1) = g_ar Sc 104 (d - 1) ∧ g_ar Tc 105 (d - 1) = g_ar Sc 105 (d - 1) ∧ g_ar Tc 106 (d - 1) = g_ar Sc 106 (d - 1) ∧ g_ar Tc 107 (d - 1) = 1 ∧ g_ar Tc 108 (d - 1) = nI wc) (c411 : g_sc Tc 411 = g_sc Sc 411) (c410 : g_sc Tc 410 = g_sc Sc 410) (w1 : ∀ i, i < wc → g_ar Tc 407 i = g_ar Sc 407 i) (w3 : g_ar Tc 407 wc = 0) (mt : ∀ j x, 716 ≤ j → j ≤ 730 → g_ar Tm j x = g_ar Sm j x) :
  r_X S0 S1 ri L n d (wc + 1) (fun c => if c = d - 1 then en (d - 1) + 1 else kk c) (fun c => if c = d - 1 then kk (d - 2) else en c) ow fm hi dp D (T ++ [(1, g_ar Sc 106 (d - 1), 1)]) Tc Tm := by
  obtain ⟨x1, x2, x3, x4, x5, x6, x7, ⟨x8, x8b⟩, x9, x10, ⟨t1, t2, t3⟩, x12, ⟨y1, y2, y3, y4, y5⟩⟩ := h
  have eT : ∀ j, 400 ≤ j → j ≤ 406 → (fun x => g_ar Tc j x) = (fun x => g_ar Sc j x) := fun j h1 h2 => funext (fun x => ct j x h1 h2)
  have eM : ∀ j, 716 ≤ j → j ≤ 730 → (fun x => g_ar Tm j x) = (fun x => g_ar Sm j x) := fun j h1 h2 => funext (fun x => mt j x h1 h2)
  have e6 : (fun c => g_ar Tc 106 c) = (fun c => g_ar Sc 106 c) := funext (fun c => by
    by_cases e : c = d - 1
    · subst e; exact cf2.2.2.2.1
    · exact cf 106 c (by omega) (by omega) e)
  have e5 : (fun c => g_ar Tc 105 c) = (fun c => g_ar Sc 105 c) := funext (fun c => by
    by_cases e : c = d - 1
    · subst e; exact cf2.2.2.1
    · exact cf 105 c (by omega) (by omega) e)
  have e4 : (fun c => g_ar Tc 104 c) = (fun c => g_ar Sc 104 c) := funext (fun c => by
    by_cases e : c = d - 1
    · subst e; exact cf2.2.1
    · exact cf 104 c (by omega) (by omega) e)
  have hsd : ∀ c, c < d → g_ar Tc 107 c = if c = d - 1 then 1 else g_ar Sc 107 c := fun c hc => by
    by_cases e : c = d - 1
    · rw [if_pos e, e]; exact cf2.2.2.2.2.1
    · rw [if_neg e]; exact cf 107 c (by omega) (by omega) e
  have hS : ∀ c, c < d → (r_wt (fun i => g_ar Sc 400 i) ow (fun c => g_ar Tc 107 c) c ↔ (r_wt (fun i => g_ar Sc 400 i) ow (fun c => g_ar Sc 107 c) c ∧ ¬ c = d - 1)) := by
    intro c hc
    unfold r_wt
    (try simp only)
    rw [hsd c hc]
    by_cases e : c = d - 1
    · rw [if_pos e]
      exact ⟨fun q => absurd q.2 (by decide), fun q => absurd e q.2⟩
    · rw [if_neg e]
      exact ⟨fun q => ⟨q, e⟩, fun q => q.1⟩
  have hSlow : ∀ c, c < d - 1 → (r_wt (fun i => g_ar Sc 400 i) ow (fun c => g_ar Tc 107 c) c ↔ r_wt (fun i => g_ar Sc 400 i) ow (fun c => g_ar Sc 107 c) c) := fun c hc => by
    rw [hS c (by omega)]
    exact ⟨fun q => q.1, fun q => ⟨q, by omega⟩⟩
  have hq := (x5.2 (d - 2) (by omega)).2
  rw [show d - 2 + 1 = d - 1 by omega] at hq
  have hgap := hq hw0
  obtain ⟨sz, un⟩ := r_sz_turn (So := fun i => g_ar Sc 400 i) (ow := ow) (sd := fun c => g_ar Sc 107 c) (sd' := fun c => g_ar Tc 107 c) (kk := kk) (en := en) (kk' := fun c => if c = d - 1 then en (d - 1) + 1 else kk c) (en' := fun c => if c = d - 1 then kk (d - 2) else en c) hd hw0 hke (fun c => rfl) (fun c => rfl) hS
  have hcnt : tx_cnt (fun i => g_ar Sc 403 i) (fun i => g_ar Sc 404 i) (g_ar Sc 106 (d - 1)) 1 n = 0 := x12.1.2.2 (d - 1) (by omega) hw0
  have hp0 : tx_pend (fun i => g_ar Sc 403 i) (fun i => g_ar Sc 404 i) n d (fun c => g_ar Sc 106 c) (fun c => g_ar Sc 107 c) = [] := by
    unfold tx_pend
    rw [if_neg]
    rintro ⟨-, q1, -⟩
    have z : g_ar Sc 107 (d - 1) = 0 := hw0.2
    have q1' : g_ar Sc 107 (d - 1) = 1 := q1
    rw [z] at q1'
    exact absurd q1' (by decide)
  have hp1 : tx_pend (fun i => g_ar Sc 403 i) (fun i => g_ar Sc 404 i) n d (fun c => g_ar Sc 106 c) (fun c => g_ar Tc 107 c) = [(1, g_ar Sc 106 (d - 1), 1)] := by
    unfold tx_pend
    rw [if_pos ⟨by omega, cf2.2.2.2.2.1, hcnt⟩]
  rw [hp0, List.append_nil] at t1
  have hn1 : n < 1000 := by omega
  unfold r_X
  rw [eT 400 (by omega) (by omega), eT 401 (by omega) (by omega), eT 402 (by omega) (by omega), eT 403 (by omega) (by omega), eT 404 (by omega) (by omega), eT 405 (by omega) (by omega), eT 406 (by omega) (by omega), e4, e5, e6, eM 721 (by omega) (by omega), eM 722 (by omega) (by omega), eM 723 (by omega) (by omega), eM 725 (by omega) (by omega), eM 726 (by omega) (by omega), eM 727 (by omega) (by omega), eM 728 (by omega) (by omega), eM 729 (by omega) (by omega), eM 730 (by omega) (by omega), sz, c410, c411]
  refine ⟨kb, ?_, fun s hs => ?_, ?_, ?_, ?_, x7, ⟨x8, x8b⟩, x9, ?_, ⟨?_, ?_, ?_⟩, ?_, ⟨fun _ => ?_, y2, y3, ?_, y5⟩⟩
  · rw [show r_un (fun i => g_ar Sc 400 i) ow (fun c => g_ar Tc 107 c) d = r_un (fun i => g_ar Sc 400 i) ow (fun c => g_ar Sc 107 c) d - 1 by omega]
    exact jb
  · rw [mt 716 s (by omega) (by omega), mt 717 s (by omega) (by omega), mt 718 s (by omega) (by omega), mt 719 s (by omega) (by omega), mt 720 s (by omega) (by omega), ct 400 s (by omega) (by omega), ct 401 s (by omega) (by omega), ct 402 s (by omega) (by omega), ct 403 s (by omega) (by omega), ct 404 s (by omega) (by omega)]
    exact x3 s hs
  · refine x4.turn hd hw0 (fun c hc => r_un_eq c (fun c' hc' => hSlow c' (by omega))) ?_ hS (fun c => rfl) (fun c => rfl) (fun c hc => ⟨?_, rfl, rfl, rfl, hsd c hc⟩)
    · have := r_un_top (So := fun i => g_ar Sc 400 i) (ow := ow) (sd := fun c => g_ar Sc 107 c) (show 0 < d by omega)
      rw [if_pos hw0] at this
      omega
    · by_cases e : c = d - 1
      · rw [if_pos e]; (try simp only); rw [e]; exact cf2.1
      · rw [if_neg e]; exact cf 103 c (by omega) (by omega) e
  · exact x5.turn hd hw0 (fun c => rfl) (fun c => rfl) hS
  · exact x6.turn hd (by omega) hw0.1 (fun c => rfl) (fun c hc => rfl) hsd
  · exact x10.cls (fun i hi => r_F_turn hd hw0 hke (fun c => rfl) (fun c => rfl) hS i)
  · rw [hp1, t1]
  · rw [List.length_append, ← t2]; rfl
  · have hfresh : ¬ ((1, g_ar Sc 106 (d - 1), 1) : tx_T) ∈ T := by
      intro q
      rw [t1] at q
      rcases tx_L_slot n q with z | ⟨s, -, -, z⟩ | ⟨-, z⟩
      · exact absurd z.2 (by decide)
      · exact absurd z (by decide)
      · omega
    refine t3.slot (c0 := d - 1) (a := g_ar Sc 106 (d - 1)) (b := 1) (by omega) (fun i hi => w1 i (by omega)) ?_ hfresh (fun c hc e => ⟨rfl, cf 107 c (by omega) (by omega) e, cf 108 c (by omega) (by omega) e, fun q => ?_⟩) ⟨rfl, cf2.2.2.2.2.1, ?_⟩ (fun _ _ _ => trivial) (fun c hc => Or.inr hc)
    · (try simp only)
      rw [← t2, w3, hcnt]; rfl
    · have q1 : g_ar Sc 106 c = g_ar Sc 106 (d - 1) := q.1
      exact r_os_ne x6 x7.2.1 hn1 (show c < d - 1 by omega) (by omega) q1.symm
    · (try simp only)
      rw [← t2]; exact cf2.2.2.2.2.2
  · refine ⟨x12.1.turn hd ?_ (fun c hc => rfl) hsd, x12.2⟩
    simp only [if_true]
    omega
  · (try simp only)
    rw [if_neg (by omega)]; exact y1 (by omega)
  · omega
theorem r_X.pop (h : r_X S0 S1 ri L n (d + 1) wc kk en ow fm hi dp D T Sc Sm) (hd : 0 < d) (hke : kk d = en d) (hw : ¬ r_wt (fun i => g_ar Sc 400 i) ow (fun c => g_ar Sc 107 c) d) (kb : k_b S0 ri n d wc Tc) (jb : j_b S1 n (d + r_un (fun i => g_ar Sc 400 i) ow (fun c => g_ar Sc 107 c) (d + 1)) Tm)
  (ca : ∀ j x, 103 ≤ j → j ≤ 407 → j ≠ 405 → g_ar Tc j x = g_ar Sc j x) (c5 : ∀ x, g_ar Tc 405 x = if x = ow d then nI (n - 1 - ow d) else g_ar Sc 405 x) (c411 : g_sc Tc 411 = g_sc Sc 411) (c410 : g_sc Tc 410 = g_sc Sc 410) (mt : ∀ j x, 716 ≤ j → j ≤ 730 → g_ar Tm j x = g_ar Sm j x) :
  r_X S0 S1 ri L n d wc kk en ow fm (fun s => if s = ow d then n - 1 else hi s) dp D T Tc Tm := by
  obtain ⟨x1, x2, x3, x4, x5, x6, x7, ⟨x8, x8b⟩, x9, x10, ⟨t1, t2, t3⟩, x12, ⟨y1, y2, y3, y4, y5⟩⟩ := h
  have eT : ∀ j, 103 ≤ j → j ≤ 407 → j ≠ 405 → (fun x => g_ar Tc j x) = (fun x => g_ar Sc j x) := fun j h1 h2 h3 => funext (fun x => ca j x h1 h2 h3)
  have eM : ∀ j, 716 ≤ j → j ≤ 730 → (fun x => g_ar Tm j x) = (fun x => g_ar Sm j x) := fun j h1 h2 => funext (fun x => mt j x h1 h2)
  obtain ⟨sz, un⟩ := r_sz_pop (So := fun i => g_ar Sc 400 i) (ow := ow) (sd := fun c => g_ar Sc 107 c) (kk := kk) (en := en) hke hw
  have hp0 : tx_pend (fun i => g_ar Sc 403 i) (fun i => g_ar Sc 404 i) n (d + 1) (fun c => g_ar Sc 106 c) (fun c => g_ar Sc 107 c) = [] := by
    unfold tx_pend
    rw [if_neg]
    rintro ⟨-, q1, q2⟩
    have := x12.1.2.1 (by omega) q1 q2
    rw [Nat.add_sub_cancel] at this
    omega
  have hp1 : tx_pend (fun i => g_ar Sc 403 i) (fun i => g_ar Sc 404 i) n d (fun c => g_ar Sc 106 c) (fun c => g_ar Sc 107 c) = [] := by
    unfold tx_pend
    rw [if_neg]
    rintro ⟨-, q1, q2⟩
    have := x12.1.1 (d - 1) (by omega) q1
    omega
  unfold r_X
  rw [eT 400 (by omega) (by omega) (by omega), eT 401 (by omega) (by omega) (by omega), eT 402 (by omega) (by omega) (by omega), eT 403 (by omega) (by omega) (by omega), eT 404 (by omega) (by omega) (by omega), eT 406 (by omega) (by omega) (by omega), eT 407 (by omega) (by omega) (by omega), eT 103 (by omega) (by omega) (by omega), eT 104 (by omega) (by omega) (by omega), eT 105 (by omega) (by omega) (by omega), eT 106 (by omega) (by omega) (by omega), eT 107 (by omega) (by omega) (by omega), eT 108 (by omega) (by omega) (by omega), eM 721 (by omega) (by omega), eM 722 (by omega) (by omega), eM 723 (by omega) (by omega), eM 725 (by omega) (by omega), eM 726 (by omega) (by omega), eM 727 (by omega) (by omega), eM 728 (by omega) (by omega), eM 729 (by omega) (by omega), eM 730 (by omega) (by omega), c410, c411, ← sz, ← un]
  refine ⟨kb, jb, fun s hs => ?_, x4.pop, x5.pop, x6.pop, x7.pop hd c5, ⟨x8.pop, x8b⟩, x9, x10.cls (fun i hi => r_F_pop hke (Or.inl hw) i), ⟨?_, t2, t3.1, fun c hc => t3.2 c (by omega)⟩, ⟨x12.1.pop, x12.2.pop x12.1 x6 hke hw⟩, ⟨fun _ => y1 (by omega), y2, by omega, y4, y5⟩⟩
  · rw [mt 716 s (by omega) (by omega), mt 717 s (by omega) (by omega), mt 718 s (by omega) (by omega), mt 719 s (by omega) (by omega), mt 720 s (by omega) (by omega), ca 400 s (by omega) (by omega) (by omega), ca 401 s (by omega) (by omega) (by omega), ca 402 s (by omega) (by omega) (by omega), ca 403 s (by omega) (by omega) (by omega), ca 404 s (by omega) (by omega) (by omega)]
    exact x3 s hs
  · rw [t1, hp0, hp1]
theorem r_X.root (h : r_X S0 S1 ri L n 1 wc kk en ow fm hi dp D T Sc Sm) (hke : kk 0 = en 0) (kb : k_b S0 ri n 0 wc Tc) (jb : j_b S1 n 0 Tm) (ca : ∀ j x, 103 ≤ j → j ≤ 407 → g_ar Tc j x = g_ar Sc j x) (c411 : g_sc Tc 411 = g_sc Sc 411) (c410 : g_sc Tc 410 = g_sc Sc 410) (mt : ∀ j x, 716 ≤ j → j ≤ 730 → g_ar Tm j x = g_ar Sm j x) :
  r_X S0 S1 ri L n 0 wc kk en ow fm hi dp D T Tc Tm := by
  obtain ⟨x1, x2, x3, x4, x5, x6, x7, ⟨x8, x8b⟩, x9, x10, ⟨t1, t2, t3⟩, x12, ⟨y1, y2, y3, y4, y5⟩⟩ := h
  have eT : ∀ j, 103 ≤ j → j ≤ 407 → (fun x => g_ar Tc j x) = (fun x => g_ar Sc j x) := fun j h1 h2 => funext (fun x => ca j x h1 h2)
  have eM : ∀ j, 716 ≤ j → j ≤ 730 → (fun x => g_ar Tm j x) = (fun x => g_ar Sm j x) := fun j h1 h2 => funext (fun x => mt j x h1 h2)
  have z : g_ar Sc 107 0 = -1 := (x6.1 (by omega)).2
  have hw : ¬ r_wt (fun i => g_ar Sc 400 i) ow (fun c => g_ar Sc 107 c) 0 := fun q => by
    have q2 : g_ar Sc 107 0 = 0 := q.2
    rw [z] at q2; exact absurd q2 (by decide)
  obtain ⟨sz, un⟩ := r_sz_pop (So := fun i => g_ar Sc 400 i) (ow := ow) (sd := fun c => g_ar Sc 107 c) (kk := kk) (en := en) hke hw
  have hp0 : tx_pend (fun i => g_ar Sc 403 i) (fun i => g_ar Sc 404 i) n 1 (fun c => g_ar Sc 106 c) (fun c => g_ar Sc 107 c) = [] := by
    unfold tx_pend
    rw [if_neg]
    rintro ⟨-, q1, -⟩
    have q2 : g_ar Sc 107 0 = 1 := q1
    rw [z] at q2; exact absurd q2 (by decide)
  have hp1 : tx_pend (fun i => g_ar Sc 403 i) (fun i => g_ar Sc 404 i) n 0 (fun c => g_ar Sc 106 c) (fun c => g_ar Sc 107 c) = [] := by
    unfold tx_pend
    rw [if_neg (fun q => absurd q.1 (by omega))]
  unfold r_X
  rw [eT 400 (by omega) (by omega), eT 401 (by omega) (by omega), eT 402 (by omega) (by omega), eT 403 (by omega) (by omega), eT 404 (by omega) (by omega), eT 405 (by omega) (by omega), eT 406 (by omega) (by omega), eT 407 (by omega) (by omega), eT 103 (by omega) (by omega), eT 104 (by omega) (by omega), eT 105 (by omega) (by omega), eT 106 (by omega) (by omega), eT 107 (by omega) (by omega), eT 108 (by omega) (by omega), eM 721 (by omega) (by omega), eM 722 (by omega) (by omega), eM 723 (by omega) (by omega), eM 725 (by omega) (by omega), eM 726 (by omega) (by omega), eM 727 (by omega) (by omega), eM 728 (by omega) (by omega), eM 729 (by omega) (by omega), eM 730 (by omega) (by omega), c410, c411]
  refine ⟨kb, jb, fun s hs => ?_, x4.pop, x5.pop, x6.pop, x7.root, ⟨x8.pop, x8b⟩, x9, x10.cls (fun i hi => r_F_pop hke (Or.inr rfl) i), ⟨?_, t2, t3.1, fun c hc => absurd hc (by omega)⟩, ⟨x12.1.pop, x12.2.root⟩, ⟨fun q => absurd q (by omega), ?_, by omega, ?_, y5⟩⟩
  · rw [mt 716 s (by omega) (by omega), mt 717 s (by omega) (by omega), mt 718 s (by omega) (by omega), mt 719 s (by omega) (by omega), mt 720 s (by omega) (by omega), ca 400 s (by omega) (by omega), ca 401 s (by omega) (by omega), ca 402 s (by omega) (by omega), ca 403 s (by omega) (by omega), ca 404 s (by omega) (by omega)]
    exact x3 s hs
  · rw [t1, hp0, hp1]
  · rw [← sz]; exact y2
  · rw [← sz, ← un]; exact y4
end
