/-! what queries may leave behind: the invariant stays -/
def fr_c (S S1 : x_S) : Prop := (∀ x, 300 ≤ x → g_sc S1 x = g_sc S x) ∧ (∀ x y, 300 ≤ x → g_ar S1 x y = g_ar S x y) ∧ g_np S1 = g_np S ∧ (∀ x y, g_ps S1 x y = g_ps S x y) ∧ (∀ x y z, g_pa S1 x y z = g_pa S x y z) ∧ (∀ x, g_rf S1 x = g_rf S x) ∧ ∀ x y, g_ra S1 x y = g_ra S x y
theorem fr_c_rf (S : x_S) : fr_c S S := ⟨fun _ _ => rfl, fun _ _ _ => rfl, rfl, fun _ _ => rfl, fun _ _ _ => rfl, fun _ => rfl, fun _ _ => rfl⟩
theorem fr_m_rf (S : x_S) : fr_m S S := ⟨fun _ _ => rfl, fun _ _ _ => rfl⟩
theorem fr_c.tr {S T U : x_S} (h : fr_c S T) (g : fr_c T U) : fr_c S U := ⟨fun x hx => (g.1 x hx).trans (h.1 x hx), fun x y hx => (g.2.1 x y hx).trans (h.2.1 x y hx), g.2.2.1.trans h.2.2.1, fun x y => (g.2.2.2.1 x y).trans (h.2.2.2.1 x y), fun x y z => (g.2.2.2.2.1 x y z).trans (h.2.2.2.2.1 x y z), fun x => (g.2.2.2.2.2.1 x).trans (h.2.2.2.2.2.1 x), fun x y => (g.2.2.2.2.2.2 x y).trans (h.2.2.2.2.2.2 x y)⟩
theorem fr_m.tr {S T U : x_S} (h : fr_m S T) (g : fr_m T U) : fr_m S U := ⟨fun x hx => (g.1 x hx).trans (h.1 x hx), fun x y hx => (g.2 x y hx).trans (h.2 x y hx)⟩
theorem fr_c_sc (S : x_S) (k : Nat) (v : Int32) (hk : k < 300) : fr_c S (s_sc S k v) := ⟨fun x hx => by rw [q_sc_sc, if_neg (by omega)], fun _ _ _ => rfl, rfl, fun _ _ => rfl, fun _ _ _ => rfl, fun _ => rfl, fun _ _ => rfl⟩
theorem fr_c_ar (S : x_S) (k i : Nat) (v : Int32) (hk : k < 300) : fr_c S (s_ar S k i v) := ⟨fun _ _ => rfl, fun x y hx => by rw [q_ar_ar, if_neg (by omega)], rfl, fun _ _ => rfl, fun _ _ _ => rfl, fun _ => rfl, fun _ _ => rfl⟩
theorem fr_m_sc (S : x_S) (k : Nat) (v : Int32) (hk : 714 < k) : fr_m S (s_sc S k v) := ⟨fun x hx => by rw [q_sc_sc, if_neg (by omega)], fun _ _ _ => rfl⟩
theorem fr_m_ar (S : x_S) (k i : Nat) (v : Int32) (hk : 714 < k) : fr_m S (s_ar S k i v) := ⟨fun _ _ => rfl, fun x y hx => by rw [q_ar_ar, if_neg (by omega)]⟩
theorem iv_one_fr {L r : Nat} {Sc Sm Sc1 Sm1 : x_S} (h : iv_one L r Sc Sm) (e2 : ∀ x y, g_ps Sc1 x y = g_ps Sc x y) (e3 : ∀ x y z, g_pa Sc1 x y z = g_pa Sc x y z) (f2 : fr_m Sm Sm1) : iv_one L r Sc1 Sm1 :=
  iv_one_mono h (f2.2 701 r (by decide)) (fun k => e2 k _) (fun k i => e3 k _ i) (fun i _ => ⟨f2.2 702 _ (by decide), f2.2 703 _ (by decide), f2.2 704 _ (by decide), f2.2 705 _ (by decide)⟩)
theorem iv_rt_fr {N : Nat} {Sc Sm Sc1 Sm1 : x_S} (h : iv_rt N Sc Sm) (e601 : g_sc Sc1 601 = g_sc Sc 601) (enp : g_np Sc1 = g_np Sc) (era : ∀ y, g_ra Sc1 600 y = g_ra Sc 600 y) (e2 : ∀ x y, g_ps Sc1 x y = g_ps Sc x y) (e3 : ∀ x y z, g_pa Sc1 x y z = g_pa Sc x y z) (f2 : fr_m Sm Sm1) : iv_rt N Sc1 Sm1 := by
  obtain ⟨h1, h2, h3, h4, h5, h6, h7⟩ := h
  refine ⟨h1, (f2.1 700 (by decide)).trans h2, e601.trans h3, enp.trans h4, fun r hr => (era r).trans (h5 r hr), fun r hr => (era r).trans (h6 r hr), fun r hr => ?_⟩
  obtain ⟨L, hL⟩ := h7 r hr
  exact ⟨L, iv_one_fr hL e2 e3 f2⟩
theorem iv_fr {N : Nat} {Sc Sm Sc1 Sm1 : x_S} (h : iv_N N Sc Sm) (f1 : fr_c Sc Sc1) (f2 : fr_m Sm Sm1) : iv_N N Sc1 Sm1 := by
  obtain ⟨h1, ⟨k2, k2b⟩, ⟨t, t1, t2, t3, t4⟩, k4, ⟨r1, r2, ⟨o, o1, o2, o3, o4⟩, r4⟩, k6, k7⟩ := h
  obtain ⟨c1, c2, c3, c4, c5, c6, c7⟩ := f1
  refine ⟨iv_rt_fr h1 (c1 601 (by decide)) c3 (fun y => c7 600 y) c4 c5 f2, ⟨fun x i hi => ?_, fun x y i hi => ?_⟩, ⟨t, t1, (c1 606 (by decide)).trans t2, (f2.1 708 (by decide)).trans t3, fun i hi => ?_⟩, fun i hi => ?_, ⟨?_, ?_, ⟨o, o1, (c1 302 (by decide)).trans o2, (f2.1 712 (by decide)).trans o3, fun i hi => ?_⟩, fun i hi => ?_⟩, ?_, ?_⟩
  · rw [c3]; rw [c6] at hi; exact k2 x i hi
  · rw [c3]; rw [c7] at hi; exact k2b x y i hi
  · rw [c2 605 i (by decide), f2.2 707 i (by decide)]; exact t4 i hi
  · rw [c2 609 i (by decide), f2.2 706 i (by decide)]; exact k4 i hi
  · rw [c1 300 (by decide), f2.1 710 (by decide)]; exact r1
  · rw [c1 301 (by decide), f2.1 711 (by decide)]; exact r2
  · rw [c2 303 i (by decide), f2.2 713 i (by decide)]; exact o4 i hi
  · rw [c2 304 i (by decide), f2.2 714 i (by decide)]; exact r4 i hi
  · rw [c1 608 (by decide), f2.1 709 (by decide)]; exact k6
  · rcases k7 with k7 | ⟨r, L, q1, q2, q3, q4, q5⟩
    · exact Or.inl ((c1 603 (by decide)).trans k7)
    · exact Or.inr ⟨r, L, q1, (c1 603 (by decide)).trans q2, iv_one_fr q3 c4 c5 f2, iv_whole_mono q3.1 q4 (fun i _ => f2.2 705 _ (by decide)), iv_tree_mono q3.1 q5 (fun i _ => ⟨f2.2 702 _ (by decide), f2.2 703 _ (by decide), f2.2 704 _ (by decide), f2.2 705 _ (by decide)⟩) (fun k h1 h2 => c1 k (by omega)) (fun k z h1 h2 => c2 k z (by omega))⟩
/-! COME TO: the least set that has 0 and is closed -/
def cm_edge (K C : Nat → Int32) (i j : Nat) : Prop := (¬ K i = 2 ∧ ¬ K i = 4 ∧ j = i + 1) ∨ ((K i = 2 ∨ K i = 3) ∧ C i = nI j)
def cm_R (L : Nat) (K C : Nat → Int32) (i : Nat) : Prop := ∀ P : Nat → Prop, P 0 → (∀ a b, a < L → P a → cm_edge K C a b → P b) → P i
theorem cm_R0 {L : Nat} {K C : Nat → Int32} : cm_R L K C 0 := fun _ h _ => h
theorem cm_Rs {L : Nat} {K C : Nat → Int32} {a b : Nat} (ha : a < L) (h : cm_R L K C a) (he : cm_edge K C a b) : cm_R L K C b := fun P h0 hs => hs a b ha (h P h0 hs) he
def cm_cnt (f : Nat → Int32) : Nat → Nat
  | 0 => 0
  | i + 1 => cm_cnt f i + (if f i = 1 then 1 else 0)
theorem cm_cnt_le (f : Nat → Int32) : ∀ L, cm_cnt f L ≤ L
  | 0 => Nat.le_refl _
  | L + 1 => by
    have := cm_cnt_le f L
    unfold cm_cnt
    split <;> omega
theorem cm_cnt_eq {f g : Nat → Int32} : ∀ L, (∀ i, i < L → f i = g i) → cm_cnt f L = cm_cnt g L
  | 0, _ => rfl
  | L + 1, h => by
    unfold cm_cnt
    rw [cm_cnt_eq L (fun i hi => h i (by omega)), h L (by omega)]
theorem cm_cnt_set {f : Nat → Int32} {k : Nat} (hk : f k = 0) : ∀ L, k < L → cm_cnt (fun i => if i = k then 1 else f i) L = cm_cnt f L + 1 ∧ cm_cnt f L < L
  | 0, h => absurd h (by omega)
  | L + 1, h => by
    unfold cm_cnt
    by_cases e : k = L
    · subst e
      rw [cm_cnt_eq (f := fun i => if i = k then 1 else f i) (g := f) k (fun i hi => if_neg (by omega))]
      have := cm_cnt_le f k
      rw [hk]
      simp
      omega
    · obtain ⟨a, b⟩ := cm_cnt_set hk L (by omega)
      rw [a, if_neg (show ¬ L = k by omega)]
      constructor
      · omega
      · split <;> omega
