/-! READING: what the two readers do -/
def fk (S0 S : x_S) : Prop := (∀ x, (x < 100 ∨ (200 ≤ x ∧ x < 400) ∨ 500 ≤ x) → g_sc S x = g_sc S0 x) ∧ (∀ x y, (x < 100 ∨ (200 ≤ x ∧ x < 400) ∨ 500 ≤ x) → g_ar S x y = g_ar S0 x y) ∧ g_np S = g_np S0 ∧ (∀ x y, g_ps S x y = g_ps S0 x y) ∧ (∀ x y z, g_pa S x y z = g_pa S0 x y z) ∧ (∀ x, x ≠ 101 → g_rf S x = g_rf S0 x) ∧ ∀ x y, g_ra S x y = g_ra S0 x y
theorem fk_rf (S : x_S) : fk S S := ⟨fun _ _ => rfl, fun _ _ _ => rfl, rfl, fun _ _ => rfl, fun _ _ _ => rfl, fun _ _ => rfl, fun _ _ => rfl⟩
theorem fk.tr {S T U : x_S} (h : fk S T) (g : fk T U) : fk S U := ⟨fun x hx => (g.1 x hx).trans (h.1 x hx), fun x y hx => (g.2.1 x y hx).trans (h.2.1 x y hx), g.2.2.1.trans h.2.2.1, fun x y => (g.2.2.2.1 x y).trans (h.2.2.2.1 x y), fun x y z => (g.2.2.2.2.1 x y z).trans (h.2.2.2.2.1 x y z), fun x hx => (g.2.2.2.2.2.1 x hx).trans (h.2.2.2.2.2.1 x hx), fun x y => (g.2.2.2.2.2.2 x y).trans (h.2.2.2.2.2.2 x y)⟩
theorem fk_sc (S : x_S) (k : Nat) (v : Int32) (hk : (100 ≤ k ∧ k < 200) ∨ (400 ≤ k ∧ k < 500)) : fk S (s_sc S k v) := ⟨fun x hx => by rw [q_sc_sc, if_neg (by omega)], fun _ _ _ => rfl, rfl, fun _ _ => rfl, fun _ _ _ => rfl, fun _ _ => rfl, fun _ _ => rfl⟩
theorem fk_ar (S : x_S) (k i : Nat) (v : Int32) (hk : (100 ≤ k ∧ k < 200) ∨ (400 ≤ k ∧ k < 500)) : fk S (s_ar S k i v) := ⟨fun _ _ => rfl, fun x y hx => by rw [q_ar_ar, if_neg (by omega)], rfl, fun _ _ => rfl, fun _ _ _ => rfl, fun _ _ => rfl, fun _ _ => rfl⟩
def k_b (S0 : x_S) (ri n d wc : Nat) (S : x_S) : Prop := fk S0 S ∧ g_rf S 101 = some ri ∧ ri < g_np S ∧ g_sc S 102 = nI d ∧ g_sc S 408 = nI n ∧ g_sc S 409 = nI wc
/-- words -/
def k_ws (S : x_S) (wc : Nat) : List Int32 → x_S
  | [] => S
  | v :: vs => k_ws (s_sc (s_ar S 407 wc v) 409 (nI (wc + 1))) (wc + 1) vs
section
variable {m ri n d wc : Nat} {S0 S : x_S}
theorem kw_sc (j : Nat) (hj : j ≠ 409) : ∀ (vs : List Int32) (S : x_S) (wc : Nat), g_sc (k_ws S wc vs) j = g_sc S j
  | [], _, _ => rfl
  | v :: vs, S, wc => by
    unfold k_ws
    rw [kw_sc j hj vs, y_sn _ _ _ _ hj]
    rfl
theorem kw_ar (j i : Nat) (hj : j ≠ 407) : ∀ (vs : List Int32) (S : x_S) (wc : Nat), g_ar (k_ws S wc vs) j i = g_ar S j i
  | [], _, _ => rfl
  | v :: vs, S, wc => by
    unfold k_ws
    rw [kw_ar j i hj vs, q_ar_sc, q_ar_ar, if_neg (fun q => hj q.1)]
theorem kw_lo (i : Nat) : ∀ (vs : List Int32) (S : x_S) (wc : Nat), i < wc → g_ar (k_ws S wc vs) 407 i = g_ar S 407 i
  | [], _, _, _ => rfl
  | v :: vs, S, wc, h => by
    unfold k_ws
    rw [kw_lo i vs _ _ (by omega), q_ar_sc, q_ar_ar, if_neg (by omega)]
theorem kw_hi : ∀ (vs : List Int32) (S : x_S) (wc j : Nat) (v : Int32), vs[j]? = some v → g_ar (k_ws S wc vs) 407 (wc + j) = v
  | [], _, _, j, _, h => absurd h (by simp)
  | u :: vs, S, wc, 0, v, h => by
    unfold k_ws
    rw [kw_lo _ vs _ _ (by omega), q_ar_sc, q_ar_ar, if_pos ⟨rfl, rfl⟩]
    exact Option.some.inj h
  | u :: vs, S, wc, j + 1, v, h => by
    unfold k_ws
    have := kw_hi vs (s_sc (s_ar S 407 wc u) 409 (nI (wc + 1))) (wc + 1) j v h
    rw [show wc + 1 + j = wc + (j + 1) by omega] at this
    exact this
theorem kw_k : ∀ (vs : List Int32) (S : x_S) (wc : Nat), fk S (k_ws S wc vs) ∧ (∀ x, g_rf (k_ws S wc vs) x = g_rf S x)
  | [], S, _ => ⟨fk_rf S, fun _ => rfl⟩
  | v :: vs, S, wc => by
    unfold k_ws
    obtain ⟨h1, h2⟩ := kw_k vs (s_sc (s_ar S 407 wc v) 409 (nI (wc + 1))) (wc + 1)
    exact ⟨((fk_ar S 407 wc v (by omega)).tr (fk_sc _ 409 _ (by omega))).tr h1, fun x => h2 x⟩
theorem k_b.ws : ∀ (vs : List Int32) {S : x_S} {wc : Nat}, k_b S0 ri n d wc S → k_b S0 ri n d (wc + vs.length) (k_ws S wc vs)
  | [], _, _, h => h
  | v :: vs, S, wc, h => by
    obtain ⟨h1, h2, h3, h4, h5, h6⟩ := h
    have hS : k_b S0 ri n d (wc + 1) (s_sc (s_ar S 407 wc v) 409 (nI (wc + 1))) := ⟨(h1.tr (fk_ar S 407 wc v (by omega))).tr (fk_sc _ 409 _ (by omega)), h2, h3, (y_sn _ _ _ _ (by decide)).trans h4, (y_sn _ _ _ _ (by decide)).trans h5, y_sc _ _ _⟩
    have := k_b.ws vs hS
    rw [show wc + 1 + vs.length = wc + (v :: vs).length by rw [List.length_cons]; omega] at this
    exact this
theorem k_word (h : k_b S0 ri n d wc S) (hw : wc < 241) (v : Int32) : f_X4_word m S v = some (k_ws S wc [v]) := by
  have w2 : wc < 2 ^ 31 := by omega
  have c1 : ¬ (241 : Int32) ≤ nI wc := nI_ge (b := 241) hw (by decide)
  have c3 := k_in (i := wc) (L := 241) hw (by decide)
  unfold f_X4_word k_ws k_ws
  rw [x_l_e, h.2.2.2.2.2, if_neg c1, x_l_e, x_gt c3, nI_clamp w2, x_l_e, x_l_e, q_sc_ar, h.2.2.2.2.2, nI_1, x_l_e]
theorem k_wordTest (h : k_b S0 ri n d wc S) (hw : wc + 1 < 241) {k : Nat} (hk : k < 60) : f_X1_wordTest m S (nI k) = some (k_ws S wc [g_pa S0 1 ri k, g_pa S0 2 ri k]) := by
  have k2 : k < 2 ^ 31 := by omega
  have c3 := k_in (i := k) (L := 60) hk (by decide)
  have h' := k_b.ws [g_pa S0 1 ri k] h
  have p1 : g_pa S 1 ri k = g_pa S0 1 ri k := h.1.2.2.2.2.1 1 ri k
  have p2 : g_pa (k_ws S wc [g_pa S0 1 ri k]) 2 ri k = g_pa S0 2 ri k := h'.1.2.2.2.2.1 2 ri k
  unfold f_X1_wordTest
  rw [h.2.1, x_o_s, x_gt h.2.2.1, x_gt h.2.2.1, x_gt c3, nI_clamp k2, x_l_e, p1, k_word h (by omega), x_b_s, h'.2.1, x_o_s, x_gt h'.2.2.1, x_gt h'.2.2.1, x_gt (k_in2 hk k2), x_l_e, p2, k_word h' (by simp; omega), x_b_s]
  rfl
/-- begin -/
def k_bg (S : x_S) (n : Nat) (kd fr be pa bo : Int32) (own j : Nat) : x_S := s_ar (s_sc (s_ar (s_ar (s_ar (s_ar (s_ar (s_ar (s_ar S 400 n kd) 401 n fr) 402 n be) 403 n pa) 404 n bo) 405 n 0) 406 own (nI n)) 408 (nI (n + 1))) 407 j (g_ar S 407 j + 1)
theorem bg_sc (kd fr be pa bo : Int32) (own j : Nat) (x : Nat) (hx : x ≠ 408) : g_sc (k_bg S n kd fr be pa bo own j) x = g_sc S x := by
  unfold k_bg
  rw [q_sc_ar, y_sn _ _ _ _ hx]
  rfl
theorem bg_ar (kd fr be pa bo : Int32) (own j : Nat) (x y : Nat) (hx : x < 400 ∨ 407 < x) : g_ar (k_bg S n kd fr be pa bo own j) x y = g_ar S x y := by
  unfold k_bg
  rw [q_ar_ar, if_neg (by omega), q_ar_sc, q_ar_ar, if_neg (by omega), q_ar_ar, if_neg (by omega), q_ar_ar, if_neg (by omega), q_ar_ar, if_neg (by omega), q_ar_ar, if_neg (by omega), q_ar_ar, if_neg (by omega), q_ar_ar, if_neg (by omega)]
theorem bg_at (kd fr be pa bo : Int32) (own j : Nat) (y : Nat) : (g_ar (k_bg S n kd fr be pa bo own j) 400 y = if y = n then kd else g_ar S 400 y) ∧ (g_ar (k_bg S n kd fr be pa bo own j) 401 y = if y = n then fr else g_ar S 401 y) ∧ (g_ar (k_bg S n kd fr be pa bo own j) 402 y = if y = n then be else g_ar S 402 y) ∧ (g_ar (k_bg S n kd fr be pa bo own j) 403 y = if y = n then pa else g_ar S 403 y) ∧ (g_ar (k_bg S n kd fr be pa bo own j) 404 y = if y = n then bo else g_ar S 404 y) ∧ (g_ar (k_bg S n kd fr be pa bo own j) 405 y = if y = n then 0 else g_ar S 405 y) ∧ (g_ar (k_bg S n kd fr be pa bo own j) 406 y = if y = own then nI n else g_ar S 406 y) ∧ (g_ar (k_bg S n kd fr be pa bo own j) 407 y = if y = j then g_ar S 407 j + 1 else g_ar S 407 y) := by
  unfold k_bg
  simp only [q_ar_sc, q_ar_ar, Nat.reduceEqDiff, false_and, if_false, true_and, and_self]
theorem k_begin (h : k_b S0 ri n (d + 1) wc S) (hn : n < 60) (hd : d < 61) (hw : wc < 241) {j own : Nat} (hj : j < 241) (hown : own < 60) (hsl : g_ar S 108 d = nI j) (kd : Int32) (fr be : Int32) : f_X1_begin m S kd fr be (nI own) = some (nI n, k_ws (k_bg S n kd fr be (g_ar S 106 d) (g_ar S 107 d) own j) wc [kd]) ∧ k_b S0 ri (n + 1) (d + 1) wc (k_bg S n kd fr be (g_ar S 106 d) (g_ar S 107 d) own j) := by
  obtain ⟨h1, h2, h3, h4, h5, h6⟩ := id h
  have n2 : n < 2 ^ 31 := by omega
  have d2 : d < 2 ^ 31 := by omega
  have o2 : own < 2 ^ 31 := by omega
  have j2 : j < 2 ^ 31 := by omega
  have c0 : nI n < (60 : Int32) := nI_lt (b := 60) hn (by decide)
  have cn := k_in (i := n) (L := 60) hn (by decide)
  have cd := k_in (i := d) (L := 61) hd (by decide)
  have co := k_in (i := own) (L := 60) hown (by decide)
  have cj := k_in (i := j) (L := 241) hj (by decide)
  have hb : k_b S0 ri (n + 1) (d + 1) wc (k_bg S n kd fr be (g_ar S 106 d) (g_ar S 107 d) own j) := by
    refine ⟨h1.tr ?_, h2, h3, (bg_sc _ _ _ _ _ _ _ _ (by decide)).trans h4, ?_, (bg_sc _ _ _ _ _ _ _ _ (by decide)).trans h6⟩
    · exact ((((((((fk_ar S 400 n _ (by omega)).tr (fk_ar _ 401 n _ (by omega))).tr (fk_ar _ 402 n _ (by omega))).tr (fk_ar _ 403 n _ (by omega))).tr (fk_ar _ 404 n _ (by omega))).tr (fk_ar _ 405 n _ (by omega))).tr (fk_ar _ 406 own _ (by omega))).tr (fk_sc _ 408 _ (by omega))).tr (fk_ar _ 407 j _ (by omega))
    · unfold k_bg
      rw [q_sc_ar, y_sc]
  refine ⟨?_, hb⟩
  unfold f_X1_begin
  rw [x_l_e, h5, if_pos c0, x_gt cn, x_l_e, x_gt cn, x_l_e, x_gt cn, x_l_e]
  rw [x_l_e, q_sc_ar, q_sc_ar, q_sc_ar, h4, nI_pred, x_gt cd, nI_clamp d2, nI_clamp n2, x_l_e, x_gt (k_in2 hn n2), x_l_e]
  rw [x_l_e, q_sc_ar, q_sc_ar, q_sc_ar, q_sc_ar, h4, nI_pred, x_gt cd, nI_clamp d2, x_l_e, x_gt (k_in2 hn n2), x_l_e, x_gt (k_in2 hn n2), x_l_e, x_gt co, nI_clamp o2, x_l_e, nI_1, x_l_e]
  rw [x_l_e, y_sn _ _ _ _ (by decide), q_sc_ar, q_sc_ar, q_sc_ar, q_sc_ar, q_sc_ar, q_sc_ar, q_sc_ar, h4, nI_pred, x_gt cd, nI_clamp d2, x_l_e]
  have e108 : g_ar (s_sc (s_ar (s_ar (s_ar (s_ar (s_ar (s_ar (s_ar S 400 n kd) 401 n fr) 402 n be) 403 n (g_ar (s_ar (s_ar (s_ar S 400 n kd) 401 n fr) 402 n be) 106 d)) 404 n (g_ar (s_ar (s_ar (s_ar (s_ar S 400 n kd) 401 n fr) 402 n be) 403 n (g_ar (s_ar (s_ar (s_ar S 400 n kd) 401 n fr) 402 n be) 106 d)) 107 d)) 405 n 0) 406 own (nI n)) 408 (nI (n + 1))) 108 d = nI j := by
    rw [q_ar_sc]
    simp only [q_ar_ar, Nat.reduceEqDiff, false_and, if_false]
    exact hsl
  rw [e108, x_gt cj, nI_clamp j2, x_l_e, x_gt (k_in2 hj j2), x_l_e]
  have e106 : g_ar (s_ar (s_ar (s_ar S 400 n kd) 401 n fr) 402 n be) 106 d = g_ar S 106 d := by
    simp only [q_ar_ar, Nat.reduceEqDiff, false_and, if_false]
  have e107 : g_ar (s_ar (s_ar (s_ar (s_ar S 400 n kd) 401 n fr) 402 n be) 403 n (g_ar S 106 d)) 107 d = g_ar S 107 d := by
    simp only [q_ar_ar, Nat.reduceEqDiff, false_and, if_false]
  rw [e106, e107]
  have e407 : g_ar (s_sc (s_ar (s_ar (s_ar (s_ar (s_ar (s_ar (s_ar S 400 n kd) 401 n fr) 402 n be) 403 n (g_ar S 106 d)) 404 n (g_ar S 107 d)) 405 n 0) 406 own (nI n)) 408 (nI (n + 1))) 407 j = g_ar S 407 j := by
    rw [q_ar_sc]
    simp only [q_ar_ar, Nat.reduceEqDiff, false_and, if_false]
  rw [e407]
  show x_b (f_X4_word m (k_bg S n kd fr be (g_ar S 106 d) (g_ar S 107 d) own j) kd) _ = _
  rw [k_word hb hw, x_b_s]
end
