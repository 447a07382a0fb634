/-! text: the reference's row -/
def tl (S1 : x_S) (M : Nat) (t3 t4 : Nat → Int32) (T : List tx_T) (q : Nat) (st : Nat → Nat) (S : x_S) : Prop := (∀ x y, x ≠ 731 → x ≠ 735 → g_ar S x y = g_ar S1 x y) ∧ (∀ x, x ≠ 732 → x ≠ 734 → g_sc S x = g_sc S1 x) ∧ g_sc S 732 = nI T.length ∧ (∀ i t, T[i]? = some t → g_ar S 731 i = tx_v t3 t4 M t) ∧ g_sc S 734 = nI q ∧ ∀ i, i < q → g_ar S 735 i = nI (st i)
/-- the stack of IF ELSES whose first BODY is not over -/
def sk (t0 t3 t4 : Nat → Int32) (y x q : Nat) (st : Nat → Nat) : Prop := (∀ i j, i < j → j < q → st i < st j) ∧ ∀ e, (∃ i, i < q ∧ st i = e) ↔ (e < y ∧ t0 e = 2 ∧ tx_cnt t3 t4 (nI e) 1 x = 0)
section
variable {m M q : Nat} {S S1 : x_S} {st : Nat → Nat} {t0 t3 t4 : Nat → Int32} {T : List tx_T}
theorem tl_tell (h : tl S1 M t3 t4 T q st S) (hT : T.length < 1000) (t : tx_T) {v : Int32} (hv : v = tx_v t3 t4 M t) : ∃ S', f_X7_tell m S v = some S' ∧ tl S1 M t3 t4 (T ++ [t]) q st S' := by
  obtain ⟨h1, h2, h3, h4, h5, h6⟩ := h
  have c := k_in (i := T.length) (L := 1000) hT (by decide)
  have c2 : T.length < 2 ^ 31 := by omega
  refine ⟨s_sc (s_ar S 731 T.length v) 732 (nI (T.length + 1)), ?_, fun x y hx hy => ?_, fun x hx hy => ?_, ?_, fun i t' ht => ?_, ?_, fun i hi => ?_⟩
  · unfold f_X7_tell
    rw [x_l_e, h3, x_gt c, nI_clamp c2, x_l_e, x_l_e, q_sc_ar, h3, nI_1, x_l_e]
  · rw [q_ar_sc, q_ar_ar, if_neg (fun z => hx z.1)]; exact h1 x y hx hy
  · rw [y_sn _ _ _ _ hx, q_sc_ar]; exact h2 x hx hy
  · rw [y_sc, List.length_append]; rfl
  · rw [q_ar_sc, q_ar_ar]
    rcases Nat.lt_or_ge i T.length with z | z
    · rw [List.getElem?_append_left z] at ht
      rw [if_neg (by omega)]
      exact h4 i t' ht
    · rw [List.getElem?_append_right z] at ht
      cases e : i - T.length with
      | zero =>
        rw [e] at ht
        have := Option.some.inj ht
        rw [if_pos ⟨rfl, by omega⟩, hv, this]
      | succ k => rw [e] at ht; exact absurd ht (by simp)
  · rw [y_sn _ _ _ _ (by decide), q_sc_ar]; exact h5
  · rw [q_ar_sc, q_ar_ar, if_neg (by omega)]; exact h6 i hi
theorem ct_loop (hM : M ≤ 60) (h715 : g_sc S 715 = nI M) (h9 : ∀ x, x < M → g_ar S 719 x = t3 x) (h20 : ∀ x, x < M → g_ar S 720 x = t4 x) (a b c : Int32) (hab : (¬ a = -1 ∧ c = b) ∨ (a = -1 ∧ ∀ x, x < M → t3 x = -1 → t4 x = c)) : ∀ (d x k : Nat), x ≤ M → M - x = d → d < k → x_loop (fun rec z => f_X7_countIn_5 m rec z.1 z.2.1 z.2.2.1 z.2.2.2.1 z.2.2.2.2) k (S, a, b, nI (tx_cnt t3 t4 a c x), nI x) = some (nI (tx_cnt t3 t4 a c M), S) := by
  intro d
  induction d with
  | zero =>
    intro x k hx hd hk
    obtain ⟨k, rfl⟩ : ∃ z, k = z + 1 := ⟨k - 1, by omega⟩
    rw [x_loop_s]
    generalize x_loop (fun rec z => f_X7_countIn_5 m rec z.1 z.2.1 z.2.2.1 z.2.2.2.1 z.2.2.2.2) k = R
    show f_X7_countIn_5 m R S a b (nI (tx_cnt t3 t4 a c x)) (nI x) = _
    unfold f_X7_countIn_5
    rw [x_l_e, h715, if_pos (nI_le (by omega) (by omega)), show x = M by omega]
  | succ d ih =>
    intro x k hx hd hk
    obtain ⟨k, rfl⟩ : ∃ z, k = z + 1 := ⟨k - 1, by omega⟩
    rw [x_loop_s]
    have ih' := ih (x + 1) k (by omega) (by omega) (by omega)
    generalize x_loop (fun rec z => f_X7_countIn_5 m rec z.1 z.2.1 z.2.2.1 z.2.2.2.1 z.2.2.2.2) k = R at ih'
    show f_X7_countIn_5 m R S a b (nI (tx_cnt t3 t4 a c x)) (nI x) = _
    have x2 : x < 2 ^ 31 := by omega
    have cx := k_in (i := x) (L := 200) (by omega) (by decide)
    have e : tx_cnt t3 t4 a c (x + 1) = tx_cnt t3 t4 a c x + (if t3 x = a ∧ t4 x = c then 1 else 0) := rfl
    rw [e] at ih'
    unfold f_X7_countIn_5 f_X7_countIn_42 f_X7_countIn_46 f_X7_countIn_47
    rw [x_l_e, h715, if_neg (nI_ge (by omega) (by omega)), x_gt cx, nI_clamp x2, x_l_e, h9 x (by omega), nI_1, nI_1, Int32.add_zero]
    by_cases e1 : t3 x = a
    · rw [if_pos e1]
      rcases hab with ⟨na, hcb⟩ | ⟨ha, hG⟩
      · rw [if_neg na, x_gt (k_in2 (show x < 200 by omega) x2), x_l_e, h20 x (by omega)]
        by_cases e2 : t4 x = b
        · rw [if_pos ⟨e1, by rw [hcb]; exact e2⟩] at ih'
          rw [if_pos e2]; exact ih'
        · rw [if_neg (fun z => e2 (by rw [← hcb]; exact z.2))] at ih'
          rw [if_neg e2]; exact ih'
      · rw [if_pos ⟨e1, hG x (by omega) (by rw [e1, ha])⟩] at ih'
        rw [if_pos ha]; exact ih'
    · rw [if_neg (fun z => e1 z.1)] at ih'
      rw [if_neg e1]; exact ih'
theorem e_count (hm : 1000 ≤ m) (hM : M ≤ 60) (h715 : g_sc S 715 = nI M) (h9 : ∀ x, x < M → g_ar S 719 x = t3 x) (h20 : ∀ x, x < M → g_ar S 720 x = t4 x) (a b c : Int32) (hab : (¬ a = -1 ∧ c = b) ∨ (a = -1 ∧ ∀ x, x < M → t3 x = -1 → t4 x = c)) : f_X7_countIn m S a b = some (nI (tx_cnt t3 t4 a c M), S) := ct_loop hM h715 h9 h20 a b c hab M 0 m (Nat.zero_le _) rfl (by omega)
/-- the way up -/
theorem ch_up {R60 : x_S × Int32 × Int32 → Option x_S} {x e k : Nat} {g : Nat → Nat} (hM : M ≤ 60) (hx : x < M) (h715 : g_sc S 715 = nI M) (h9 : ∀ x, x < M → g_ar S 719 x = t3 x) (he : e < M) (g1 : ∀ i, i ≤ k → g i ≤ x) (g2 : ∀ i, i < k → t3 (g i) = nI (g (i + 1)) ∧ g (i + 1) ≠ e) (g3 : t3 (g k) = nI e) : ∀ (j i f : Nat), i + j = k → j < f → x_loop (fun rec z => f_X7_closeBodies_79 m R60 rec z.1 z.2.1 z.2.2.1 z.2.2.2) f (S, nI x, nI e, nI (g i)) = f_X7_closeBodies_116 m R60 S (nI x) (nI e) (nI (g k)) := by
  intro j
  induction j with
  | zero =>
    intro i f hi hf
    obtain ⟨f, rfl⟩ : ∃ z, f = z + 1 := ⟨f - 1, by omega⟩
    have e : i = k := by omega
    subst e
    have gi := g1 i (Nat.le_refl _)
    have cg := k_in (i := g i) (L := 200) (by omega) (by decide)
    rw [x_loop_s]
    generalize x_loop (fun rec z => f_X7_closeBodies_79 m R60 rec z.1 z.2.1 z.2.2.1 z.2.2.2) f = R
    show f_X7_closeBodies_79 m R60 R S (nI x) (nI e) (nI (g i)) = _
    unfold f_X7_closeBodies_79
    rw [x_l_e, h715, if_neg (nI_ge hx (by omega)), if_neg (nI_m1 (by omega)), x_gt cg, nI_clamp (by omega), x_l_e, h9 _ (by omega), g3, if_pos rfl]
  | succ j ih =>
    intro i f hi hf
    obtain ⟨f, rfl⟩ : ∃ z, f = z + 1 := ⟨f - 1, by omega⟩
    have gi := g1 i (by omega)
    have gi1 := g1 (i + 1) (by omega)
    have cg := k_in (i := g i) (L := 200) (by omega) (by decide)
    have gi2 : g i < 2 ^ 31 := by omega
    obtain ⟨p1, p2⟩ := g2 i (by omega)
    rw [x_loop_s]
    have ih' := ih (i + 1) f (by omega) (by omega)
    generalize x_loop (fun rec z => f_X7_closeBodies_79 m R60 rec z.1 z.2.1 z.2.2.1 z.2.2.2) f = R at ih'
    show f_X7_closeBodies_79 m R60 R S (nI x) (nI e) (nI (g i)) = _
    unfold f_X7_closeBodies_79
    rw [x_l_e, h715, if_neg (nI_ge hx (by omega)), if_neg (nI_m1 gi2), x_gt cg, nI_clamp gi2, x_l_e, h9 _ (by omega), p1, if_neg (fun z => p2 ((nI_eq (by omega) (by omega)).mp z)), x_gt (k_in2 (show g i < 200 by omega) gi2), x_l_e]
    exact ih'
/-- still in its first BODY -/
theorem cl_stop {R60 : x_S × Int32 × Int32 → Option x_S} {x : Nat} (hm : 1000 ≤ m) (hM : M ≤ 60) (hx : x < M) (h715 : g_sc S 715 = nI M) (h9 : ∀ x, x < M → g_ar S 719 x = t3 x) (h20 : ∀ x, x < M → g_ar S 720 x = t4 x) (h : tl S1 M t3 t4 T q st S) (hq : 0 < q) (hq2 : q ≤ 100) (he : st (q - 1) < M) (ha : r_an t3 t4 (st (q - 1)) x) : f_X7_closeBodies_60 m R60 S (nI x) 1 = R60 (S, nI x, 0) := by
  obtain ⟨k, g, k1, g0, g1, g2, g3, g4⟩ := ha
  have cq := k_in (i := q - 1) (L := 200) (by omega) (by decide)
  have eq : nI q - 1 = nI (q - 1) := by have := nI_pred (q - 1); rw [show q - 1 + 1 = q by omega] at this; exact this
  have up := ch_up (m := m) (R60 := R60) hM hx h715 h9 he g1 g2 g3 k 0 m (by omega) (by omega)
  rw [g0] at up
  have gk := g1 k (Nat.le_refl _)
  have cg := k_in (i := g k) (L := 200) (by omega) (by decide)
  unfold f_X7_closeBodies_60
  rw [if_neg i_1n, x_l_e, h.2.2.2.2.1, eq, x_gt cq, nI_clamp (by omega), x_l_e, h.2.2.2.2.2 (q - 1) (by omega), up]
  unfold f_X7_closeBodies_116 f_X7_closeBodies_145 f_X7_closeBodies_172 f_X7_closeBodies_188 f_X7_closeBodies_189
  rw [x_l_e, h715, if_neg (nI_ge hx (by omega)), if_neg (nI_m1 (by omega)), x_gt cg, nI_clamp (by omega), x_l_e, h20 _ (by omega), g4, if_pos rfl, if_neg i_1n, if_neg i_1n]
/-- its second BODY begins -/
theorem cl_pop {R60 : x_S × Int32 × Int32 → Option x_S} {x : Nat} (hm : 1000 ≤ m) (hM : M ≤ 60) (hx : x < M) (h715 : g_sc S 715 = nI M) (h9 : ∀ x, x < M → g_ar S 719 x = t3 x) (h20 : ∀ x, x < M → g_ar S 720 x = t4 x) (h : tl S1 M t3 t4 T q st S) (hT : T.length < 1000) (hq : 0 < q) (hq2 : q ≤ 100) (he : st (q - 1) < M) (ha : t3 x = nI (st (q - 1))) (hb : t4 x = 1) : ∃ S', f_X7_closeBodies_60 m R60 S (nI x) 1 = R60 (S', nI x, if q = 1 then 0 else 1) ∧ tl S1 M t3 t4 (T ++ [(1, nI (st (q - 1)), 1)]) (q - 1) st S' := by
  have cq := k_in (i := q - 1) (L := 200) (by omega) (by decide)
  have cx := k_in (i := x) (L := 200) (by omega) (by decide)
  have x2 : x < 2 ^ 31 := by omega
  have eq : nI q - 1 = nI (q - 1) := by have := nI_pred (q - 1); rw [show q - 1 + 1 = q by omega] at this; exact this
  have up := ch_up (m := m) (R60 := R60) (k := 0) (g := fun _ => x) hM hx h715 h9 he (fun _ _ => Nat.le_refl _) (fun i hi => absurd hi (Nat.not_lt_zero _)) ha 0 0 m (by omega) (by omega)
  have cn := e_count (m := m) (S := S) hm hM h715 h9 h20 (nI (st (q - 1))) 1 1 (Or.inl ⟨nI_m1 (by omega), rfl⟩)
  obtain ⟨S', z1, z2⟩ := tl_tell (m := m) h hT (1, nI (st (q - 1)), 1) (v := nI (tx_cnt t3 t4 (nI (st (q - 1))) 1 M)) (by unfold tx_v; rw [if_pos rfl])
  obtain ⟨w1, w2, w3, w4, w5, w6⟩ := z2
  refine ⟨s_sc S' 734 (nI (q - 1)), ?_, fun x y h1 h2 => w1 x y h1 h2, fun x h1 h2 => (y_sn _ _ _ _ h2).trans (w2 x h1 h2), (y_sn _ _ _ _ (by decide)).trans w3, w4, y_sc _ _ _, fun i hi => w6 i (by omega)⟩
  unfold f_X7_closeBodies_60
  rw [if_neg i_1n, x_l_e, h.2.2.2.2.1, eq, x_gt cq, nI_clamp (by omega), x_l_e, h.2.2.2.2.2 (q - 1) (by omega), up]
  unfold f_X7_closeBodies_116 f_X7_closeBodies_144 f_X7_closeBodies_145 f_X7_closeBodies_172 f_X7_closeBodies_188 f_X7_closeBodies_189
  rw [x_l_e, h715, if_neg (nI_ge hx (by omega)), if_neg (nI_m1 x2), x_gt cx, nI_clamp x2, x_l_e, h20 _ (by omega), hb, if_neg i_1n, if_pos rfl, cn, x_b2_s, z1, x_b_s, x_l_e, w5, eq, x_l_e, if_pos rfl, x_l_e, y_sc]
  by_cases e : q = 1
  · rw [if_pos e, e, if_pos (show nI (1 - 1) ≤ 0 by decide)]
  · rw [if_neg e, if_neg (show ¬ nI (q - 1) ≤ 0 from nI_ge (a := 0) (show 0 < q - 1 by omega) (by omega))]
end
