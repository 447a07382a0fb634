/-! text: the reference's row, all of it -/
section
variable {m M q s : Nat} {S S1 : x_S} {st : Nat → Nat} {t0 t3 t4 : Nat → Int32} {T : List tx_T}
theorem tl_114 {R : x_S × Int32 → Option x_S} (hm : 1000 ≤ m) (hM : M ≤ 60) (hs : s < M) (h715 : g_sc S1 715 = nI M) (h9 : ∀ x, x < M → g_ar S1 719 x = t3 x) (h20 : ∀ x, x < M → g_ar S1 720 x = t4 x) (h : tl S1 M t3 t4 T q st S) (hT : T.length < 1000) (w : Int32) : ∃ S', f_X7_tellAll_114 m R S (nI s) w = R (S', nI (s + 1)) ∧ tl S1 M t3 t4 (T ++ (if 1 ≤ w ∧ w ≤ 5 then [(1, nI s, 0)] else [])) q st S' := by
  unfold f_X7_tellAll_114 f_X7_tellAll_133
  rw [e_in, x_b_s, nI_1]
  by_cases e : 1 ≤ w ∧ w ≤ 5
  · have cn := e_count (m := m) (S := S) (t3 := t3) (t4 := t4) hm hM ((h.2.1 715 (by decide) (by decide)).trans h715) (fun x hx => (h.1 719 x (by decide) (by decide)).trans (h9 x hx)) (fun x hx => (h.1 720 x (by decide) (by decide)).trans (h20 x hx)) (nI s) 0 0 (Or.inl ⟨nI_m1 (by omega), rfl⟩)
    obtain ⟨S', z1, z2⟩ := tl_tell (m := m) h hT (1, nI s, 0) (v := nI (tx_cnt t3 t4 (nI s) 0 M)) (by unfold tx_v; rw [if_pos rfl])
    rw [if_pos e, if_pos e, if_neg i_1n, cn, x_b2_s, z1, x_b_s]
    exact ⟨S', rfl, z2⟩
  · rw [if_neg e, if_neg e, if_pos rfl, List.append_nil]
    exact ⟨S, rfl, h⟩
theorem tv_lit (v : Int32) : v = tx_v t3 t4 M (0, v, 0) := by
  show v = if (0 : Int32) = 1 then nI (tx_cnt t3 t4 v 0 M) else v
  rw [if_neg (by decide)]
theorem tl_92 {R : x_S × Int32 → Option x_S} (hm : 1000 ≤ m) (hM : M ≤ 60) (hs : s < M) (h715 : g_sc S1 715 = nI M) (h9 : ∀ x, x < M → g_ar S1 719 x = t3 x) (h20 : ∀ x, x < M → g_ar S1 720 x = t4 x) (h : tl S1 M t3 t4 T q st S) (hT : T.length < 900) (w : Int32) : ∃ S', f_X7_tellAll_92 m R S (nI s) w = R (S', nI (s + 1)) ∧ tl S1 M t3 t4 (T ++ ((if w = 8 ∨ w = 11 then [(0, g_ar S1 723 s, 0)] else []) ++ (if 1 ≤ w ∧ w ≤ 5 then [(1, nI s, 0)] else []))) q st S' := by
  have s2 : s < 2 ^ 31 := by omega
  have cs := k_in (i := s) (L := 200) (by omega) (by decide)
  have e23 : g_ar S 723 s = g_ar S1 723 s := h.1 723 s (by decide) (by decide)
  have e104 : ∃ S', f_X7_tellAll_104 m R S (nI s) w = R (S', nI (s + 1)) ∧ tl S1 M t3 t4 (T ++ ([(0, g_ar S1 723 s, 0)] ++ (if 1 ≤ w ∧ w ≤ 5 then [(1, nI s, 0)] else []))) q st S' := by
    obtain ⟨Sa, z1, z2⟩ := tl_tell (m := m) h (by omega) (0, g_ar S1 723 s, 0) (v := g_ar S1 723 s) (tv_lit _)
    obtain ⟨S', y1, y2⟩ := tl_114 (m := m) (R := R) hm hM hs h715 h9 h20 z2 (by rw [List.length_append]; show T.length + 1 < 1000; omega) w
    refine ⟨S', ?_, ?_⟩
    · unfold f_X7_tellAll_104
      rw [x_gt cs, nI_clamp s2, x_l_e, e23, z1, x_b_s, y1]
    · rw [List.append_assoc] at y2
      exact y2
  unfold f_X7_tellAll_92
  by_cases e8 : w = 8
  · rw [if_pos e8, if_pos (Or.inl e8)]
    exact e104
  · rw [if_neg e8]
    by_cases e11 : w = 11
    · rw [if_pos e11, if_pos (Or.inr e11)]
      exact e104
    · rw [if_neg e11, if_neg (fun z => z.elim e8 e11), List.nil_append]
      exact tl_114 hm hM hs h715 h9 h20 h (by omega) w
theorem tl_56 {R : x_S × Int32 → Option x_S} (hm : 1000 ≤ m) (hM : M ≤ 60) (hs : s < M) (h715 : g_sc S1 715 = nI M) (h9 : ∀ x, x < M → g_ar S1 719 x = t3 x) (h20 : ∀ x, x < M → g_ar S1 720 x = t4 x) (h : tl S1 M t3 t4 T q st S) (hT : T.length < 890) (w : Int32) : ∃ S', f_X7_tellAll_56 m R S (nI s) w = R (S', nI (s + 1)) ∧ tl S1 M t3 t4 (T ++ ((if w = 3 ∨ (6 ≤ w ∧ w ≤ 8) then [] else [(0, g_ar S1 721 s, 0), (0, g_ar S1 722 s, 0)]) ++ ((if w = 8 ∨ w = 11 then [(0, g_ar S1 723 s, 0)] else []) ++ (if 1 ≤ w ∧ w ≤ 5 then [(1, nI s, 0)] else [])))) q st S' := by
  have s2 : s < 2 ^ 31 := by omega
  have cs := k_in (i := s) (L := 200) (by omega) (by decide)
  have e21 : g_ar S 721 s = g_ar S1 721 s := h.1 721 s (by decide) (by decide)
  unfold f_X7_tellAll_56
  by_cases e3 : w = 3
  · rw [if_pos e3, if_pos (Or.inl e3), List.nil_append]
    exact tl_92 hm hM hs h715 h9 h20 h (by omega) w
  · rw [if_neg e3, e_in, x_b_s]
    by_cases e6 : 6 ≤ w ∧ w ≤ 8
    · rw [if_pos e6, if_neg i_1n, if_pos (Or.inr e6), List.nil_append]
      exact tl_92 hm hM hs h715 h9 h20 h (by omega) w
    · obtain ⟨Sa, z1, z2⟩ := tl_tell (m := m) h (by omega) (0, g_ar S1 721 s, 0) (v := g_ar S1 721 s) (tv_lit _)
      have la : (T ++ [(0, g_ar S1 721 s, 0)]).length = T.length + 1 := by rw [List.length_append]; rfl
      obtain ⟨Sb, y1, y2⟩ := tl_tell (m := m) z2 (by omega) (0, g_ar S1 722 s, 0) (v := g_ar S1 722 s) (tv_lit _)
      have lb : (T ++ [(0, g_ar S1 721 s, 0)] ++ [(0, g_ar S1 722 s, 0)]).length = T.length + 2 := by rw [List.length_append, la]; rfl
      obtain ⟨S', x1, x2⟩ := tl_92 (m := m) (R := R) hm hM hs h715 h9 h20 y2 (by omega) w
      refine ⟨S', ?_, ?_⟩
      · rw [if_neg e6, if_pos rfl, x_gt cs, nI_clamp s2, x_l_e, e21, z1, x_b_s, x_gt (k_in2 (show s < 200 by omega) s2), x_l_e, z2.1 722 s (by decide) (by decide), y1, x_b_s, x1]
      · rw [if_neg (fun z => z.elim e3 e6)]
        rw [List.append_assoc, List.append_assoc] at x2
        exact x2
theorem tl_17 {R : x_S × Int32 → Option x_S} {S0 : x_S} (hm : 1000 ≤ m) (hM : M ≤ 60) (hs : s < M) (h715 : g_sc S1 715 = nI M) (h0 : ∀ y, y < M → g_ar S1 716 y = t0 y) (h9 : ∀ x, x < M → g_ar S1 719 x = t3 x) (h20 : ∀ x, x < M → g_ar S1 720 x = t4 x) (h715' : g_sc S0 715 = nI M) (hc : f_X7_closeBodies m S0 (nI s) = some S) (h : tl S1 M t3 t4 T q st S) (hT : T.length < 880) : ∃ S', f_X7_tellAll_17 m R S0 (nI s) = R (S', nI (s + 1)) ∧ tl S1 M t3 t4 (T ++ tx_tok t0 (fun i => g_ar S1 721 i) (fun i => g_ar S1 722 i) (fun i => g_ar S1 723 i) s) q st S' := by
  have s2 : s < 2 ^ 31 := by omega
  have cs := k_in (i := s) (L := 200) (by omega) (by decide)
  have e16 : g_ar S 716 s = t0 s := (h.1 716 s (by decide) (by decide)).trans (h0 s hs)
  obtain ⟨Sa, z1, z2⟩ := tl_tell (m := m) h (by omega) (0, t0 s, 0) (v := t0 s) (tv_lit _)
  have la : (T ++ [(0, t0 s, 0)]).length = T.length + 1 := by rw [List.length_append]; rfl
  have et : tx_tok t0 (fun i => g_ar S1 721 i) (fun i => g_ar S1 722 i) (fun i => g_ar S1 723 i) s = [(0, t0 s, 0)] ++ ((if t0 s = 0 then [(0, g_ar S1 723 s, 0)] else []) ++ ((if t0 s = 3 ∨ (6 ≤ t0 s ∧ t0 s ≤ 8) then [] else [(0, g_ar S1 721 s, 0), (0, g_ar S1 722 s, 0)]) ++ ((if t0 s = 8 ∨ t0 s = 11 then [(0, g_ar S1 723 s, 0)] else []) ++ (if 1 ≤ t0 s ∧ t0 s ≤ 5 then [(1, nI s, 0)] else [])))) := rfl
  rw [et]
  unfold f_X7_tellAll_17
  rw [x_l_e, h715', if_neg (nI_ge hs (by omega)), hc, x_b_s, x_gt cs, nI_clamp s2, x_l_e, e16, z1, x_b_s]
  by_cases e0 : t0 s = 0
  · obtain ⟨Sb, y1, y2⟩ := tl_tell (m := m) z2 (by omega) (0, g_ar S1 723 s, 0) (v := g_ar S1 723 s) (tv_lit _)
    have lb : (T ++ [(0, t0 s, 0)] ++ [(0, g_ar S1 723 s, 0)]).length = T.length + 2 := by rw [List.length_append, la]; rfl
    obtain ⟨S', x1, x2⟩ := tl_56 (m := m) (R := R) hm hM hs h715 h9 h20 y2 (by omega) (t0 s)
    refine ⟨S', ?_, ?_⟩
    · rw [if_pos e0, x_gt (k_in2 (show s < 200 by omega) s2), x_l_e, z2.1 723 s (by decide) (by decide), y1, x_b_s, x1]
    · rw [if_pos e0]
      rw [List.append_assoc, List.append_assoc] at x2
      exact x2
  · obtain ⟨S', x1, x2⟩ := tl_56 (m := m) (R := R) hm hM hs h715 h9 h20 z2 (by omega) (t0 s)
    refine ⟨S', ?_, ?_⟩
    · rw [if_neg e0, x1]
    · rw [if_neg e0, List.nil_append]
      rw [List.append_assoc] at x2
      exact x2
theorem tx_len {So TA TB Go Pa Bo : Nat → Int32} : ∀ n, (tx_L So TA TB Go Pa Bo n).length ≤ 1 + 7 * n
  | 0 => Nat.le_refl _
  | n + 1 => by
    have := tx_len (So := So) (TA := TA) (TB := TB) (Go := Go) (Pa := Pa) (Bo := Bo) n
    unfold tx_L tx_pre tx_tok
    rw [List.length_append, List.length_append, List.length_cons, List.length_append, List.length_append, List.length_append]
    have a1 : (if Bo n = 1 ∧ tx_cnt Pa Bo (Pa n) 1 n = 0 then [((1, Pa n, 1) : tx_T)] else []).length ≤ 1 := by split <;> simp
    have a2 : (if So n = 0 then [((0, Go n, 0) : tx_T)] else []).length ≤ 1 := by split <;> simp
    have a3 : (if So n = 3 ∨ (6 ≤ So n ∧ So n ≤ 8) then [] else [((0, TA n, 0) : tx_T), (0, TB n, 0)]).length ≤ 2 := by split <;> simp
    have a4 : (if So n = 8 ∨ So n = 11 then [((0, Go n, 0) : tx_T)] else []).length ≤ 1 := by split <;> simp
    have a5 : (if 1 ≤ So n ∧ So n ≤ 5 then [((1, nI n, 0) : tx_T)] else []).length ≤ 1 := by split <;> simp
    omega
theorem tl_loop {TA TB Go : Nat → Int32} (hA : TA = fun i => g_ar S1 721 i) (hB : TB = fun i => g_ar S1 722 i) (hG : Go = fun i => g_ar S1 723 i) (hm : 1000 ≤ m) (hM : M ≤ 60) (h715 : g_sc S1 715 = nI M) (h0 : ∀ y, y < M → g_ar S1 716 y = t0 y) (h9 : ∀ x, x < M → g_ar S1 719 x = t3 x) (h20 : ∀ x, x < M → g_ar S1 720 x = t4 x) (hP : ∀ y, y < M → t3 y = -1 ∨ ∃ p, p < y ∧ t3 y = nI p) (hE : ∀ x, x < M → ∀ e, e < x → t0 e = 2 → tx_cnt t3 t4 (nI e) 1 x = 0 → (t3 x = nI e ∧ t4 x = 1) ∨ r_an t3 t4 e x) (hF : ∀ x, x < M → t4 x = 1 → ∃ e, e < x ∧ t3 x = nI e ∧ t0 e = 2) (hD : ∀ e, e < M → t0 e = 2 → ¬ tx_cnt t3 t4 (nI e) 1 M = 0) : ∀ (d s k q : Nat) (st : Nat → Nat) (S : x_S), s ≤ M → M - s = d → d < k → tl S1 M t3 t4 (tx_L t0 TA TB Go t3 t4 s) q st S → (s = 0 ∨ sk t0 t3 t4 (s - 1) s q st) → ∃ S' q' st', x_loop (fun rec z => f_X7_tellAll_17 m rec z.1 z.2) k (S, nI s) = some S' ∧ tl S1 M t3 t4 (tx_L t0 TA TB Go t3 t4 M) q' st' S' := by
  subst hA hB hG
  intro d
  induction d with
  | zero =>
    intro s k q st S hs hd hk h hsk
    obtain ⟨k, rfl⟩ : ∃ z, k = z + 1 := ⟨k - 1, by omega⟩
    have e : s = M := by omega
    subst e
    rw [x_loop_s]
    generalize x_loop (fun rec z => f_X7_tellAll_17 m rec z.1 z.2) k = R
    obtain ⟨S', q', st', z1, z2⟩ := cl_end (m := m) hm hM h0 hP hD h hsk
    refine ⟨S', q', st', ?_, z2⟩
    show f_X7_tellAll_17 m R S (nI s) = _
    unfold f_X7_tellAll_17
    rw [x_l_e, (h.2.1 715 (by decide) (by decide)).trans h715, if_pos (Int32.le_refl _), x_l_e, z1, x_b_s]
  | succ d ih =>
    intro s k q st S hs hd hk h hsk
    obtain ⟨k, rfl⟩ : ∃ z, k = z + 1 := ⟨k - 1, by omega⟩
    rw [x_loop_s]
    have tl1 := tx_len (So := t0) (TA := fun i => g_ar S1 721 i) (TB := fun i => g_ar S1 722 i) (Go := fun i => g_ar S1 723 i) (Pa := t3) (Bo := t4) s
    obtain ⟨Sa, qa, sa, z1, z2, z3⟩ := cl_all (m := m) (x := s) hm hM (by omega) h715 h0 h9 h20 hP hE hF h (by omega) hsk
    have lp : (tx_pre t3 t4 s).length ≤ 1 := by unfold tx_pre; split <;> simp
    obtain ⟨Sb, y1, y2⟩ := tl_17 (m := m) (R := x_loop (fun rec z => f_X7_tellAll_17 m rec z.1 z.2) k) (S0 := S) hm hM (show s < M by omega) h715 h0 h9 h20 ((h.2.1 715 (by decide) (by decide)).trans h715) z1 z2 (by rw [List.length_append]; omega)
    rw [List.append_assoc] at y2
    obtain ⟨S', q', st', w1, w2⟩ := ih (s + 1) k qa sa Sb (by omega) (by omega) (by omega) y2 (Or.inr (by rw [Nat.add_sub_cancel]; exact z3))
    refine ⟨S', q', st', ?_, w2⟩
    show f_X7_tellAll_17 m (x_loop (fun rec z => f_X7_tellAll_17 m rec z.1 z.2) k) S (nI s) = _
    rw [y1]
    exact w1
theorem s_sc2 (S : x_S) (k : Nat) (v : Int32) : s_sc (s_sc S k v) k v = s_sc S k v := by
  unfold s_sc upd
  congr 1
  funext x
  (try simp only)
  split <;> rfl
theorem e_tell {TA TB Go : Nat → Int32} (hA : TA = fun i => g_ar S1 721 i) (hB : TB = fun i => g_ar S1 722 i) (hG : Go = fun i => g_ar S1 723 i) (hm : 1000 ≤ m) (hM : M ≤ 60) (h715 : g_sc S1 715 = nI M) (h0 : ∀ y, y < M → g_ar S1 716 y = t0 y) (h9 : ∀ x, x < M → g_ar S1 719 x = t3 x) (h20 : ∀ x, x < M → g_ar S1 720 x = t4 x) (hP : ∀ y, y < M → t3 y = -1 ∨ ∃ p, p < y ∧ t3 y = nI p) (hE : ∀ x, x < M → ∀ e, e < x → t0 e = 2 → tx_cnt t3 t4 (nI e) 1 x = 0 → (t3 x = nI e ∧ t4 x = 1) ∨ r_an t3 t4 e x) (hF : ∀ x, x < M → t4 x = 1 → ∃ e, e < x ∧ t3 x = nI e ∧ t0 e = 2) (hD : ∀ e, e < M → t0 e = 2 → ¬ tx_cnt t3 t4 (nI e) 1 M = 0) (h1 : ∀ x, x < M → t3 x = -1 → t4 x = -1) : ∃ S' q' st', f_X7_tellAll m S1 = some S' ∧ tl S1 M t3 t4 (tx_L t0 TA TB Go t3 t4 M) q' st' S' := by
  have cn := e_count (m := m) (S := s_sc S1 732 0) (t3 := t3) (t4 := t4) hm hM ((y_sn _ _ _ _ (by decide)).trans h715) h9 h20 (-1) 0 (-1) (Or.inr ⟨rfl, h1⟩)
  obtain ⟨k, rfl⟩ : ∃ k, m = k + 1 := ⟨m - 1, by omega⟩
  have tl0 : tl S1 M t3 t4 (tx_L t0 TA TB Go t3 t4 0) 0 (fun _ => 0) (s_sc (s_sc (s_ar (s_sc S1 732 0) 731 0 (nI (tx_cnt t3 t4 (-1) (-1) M))) 732 (nI 1)) 734 0) := by
    refine ⟨fun x y a b => ?_, fun x a b => ?_, ?_, fun i t ht => ?_, y_sc _ _ _, fun i hi => absurd hi (Nat.not_lt_zero _)⟩
    · rw [q_ar_sc, q_ar_sc, q_ar_ar, if_neg (fun z => a z.1)]; rfl
    · rw [y_sn _ _ _ _ b, y_sn _ _ _ _ a, q_sc_ar, y_sn _ _ _ _ a]
    · rw [y_sn _ _ _ _ (by decide), y_sc]; rfl
    · rw [q_ar_sc, q_ar_sc, q_ar_ar]
      cases i with
      | zero =>
        have := Option.some.inj ht
        subst this
        rw [if_pos ⟨rfl, rfl⟩]
        unfold tx_v
        rw [if_pos rfl]
      | succ i => exact absurd ht (by unfold tx_L; simp)
  obtain ⟨S', q', st', z1, z2⟩ := tl_loop (m := k + 1) hA hB hG hm hM h715 h0 h9 h20 hP hE hF hD M 0 (k + 1) 0 (fun _ => 0) _ (Nat.zero_le _) rfl (by omega) tl0 (Or.inl rfl)
  refine ⟨S', q', st', ?_, z2⟩
  unfold f_X7_tellAll f_X7_tell
  rw [x_l_e, cn, x_b2_s, x_l_e, y_sc, x_gt (show ¬ ((0 : Int32) < 0 ∨ 1000 ≤ (0 : Int32).toNatClampNeg) by decide), x_l_e, x_l_e, q_sc_ar, y_sc, x_l_e, x_b_s]
  rw [← z1, x_loop_s, x_loop_s]
  generalize x_loop (fun rec z => f_X7_tellAll_17 (k + 1) rec z.1 z.2) k = R
  have ec : ∀ X : x_S, f_X7_closeBodies (k + 1) X 0 = f_X7_closeBodies (k + 1) (s_sc X 734 0) 0 := by
    intro X
    unfold f_X7_closeBodies
    rw [if_pos rfl, if_pos rfl, x_l_e, x_l_e, s_sc2]
  have e5 : ∀ X : x_S, g_sc X 715 = nI M → f_X7_tellAll_17 (k + 1) R X 0 = f_X7_tellAll_17 (k + 1) R (s_sc X 734 0) 0 := by
    intro X hX
    unfold f_X7_tellAll_17
    rw [x_l_e, x_l_e, hX, y_sn _ _ _ _ (by decide), hX, x_l_e, x_l_e, ← ec]
    by_cases e : nI M ≤ 0
    · rw [if_pos e, if_pos e]
      by_cases M0 : M = 0
      · subst M0
        show x_b (f_X7_closeBodies (k + 1) X 0) _ = x_b (f_X7_closeBodies (k + 1) (s_sc X 734 0) 0) _
        rw [ec]
      · exact absurd e (nI_ge (a := 0) (by omega) (by omega))
    · rw [if_neg e, if_neg e]
  exact e5 _ (by rw [y_sn _ _ _ _ (by decide), q_sc_ar, y_sn _ _ _ _ (by decide)]; exact h715)
end
