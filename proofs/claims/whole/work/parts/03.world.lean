/-! The state, and the worlds that hold it. Keys: 100 * (number of the class) + slot. -/
abbrev x_S : Type := (Nat → Int32) × (Nat → Nat → Int32) × Nat × (Nat → Nat → Int32) × (Nat → Nat → Nat → Int32) × (Nat → Option Nat) × (Nat → Nat → Option Nat)
def g_sc (S : x_S) (k : Nat) : Int32 := S.1 k
def s_sc (S : x_S) (k : Nat) (v : Int32) : x_S := (upd S.1 k v, S.2)
def g_ar (S : x_S) (k j : Nat) : Int32 := S.2.1 k j
def s_aw (S : x_S) (k : Nat) (f : Nat → Int32) : x_S := (S.1, va_up S.2.1 k f, S.2.2)
def s_ar (S : x_S) (k j : Nat) (v : Int32) : x_S := s_aw S k (upd (S.2.1 k) j v)
def g_np (S : x_S) : Nat := S.2.2.1
def g_ps (S : x_S) (k i : Nat) : Int32 := S.2.2.2.1 k i
def s_ps (S : x_S) (k i : Nat) (v : Int32) : x_S := (S.1, S.2.1, S.2.2.1, va_up S.2.2.2.1 k (upd (S.2.2.2.1 k) i v), S.2.2.2.2)
def g_pa (S : x_S) (k i j : Nat) : Int32 := S.2.2.2.2.1 k i j
def s_pa (S : x_S) (k i j : Nat) (v : Int32) : x_S := (S.1, S.2.1, S.2.2.1, S.2.2.2.1, va_up S.2.2.2.2.1 k (va_up (S.2.2.2.2.1 k) i (upd (S.2.2.2.2.1 k i) j v)), S.2.2.2.2.2)
def g_rf (S : x_S) (k : Nat) : Option Nat := S.2.2.2.2.2.1 k
def s_rf (S : x_S) (k : Nat) (r : Option Nat) : x_S := (S.1, S.2.1, S.2.2.1, S.2.2.2.1, S.2.2.2.2.1, va_up S.2.2.2.2.2.1 k r, S.2.2.2.2.2.2)
def g_ra (S : x_S) (k j : Nat) : Option Nat := S.2.2.2.2.2.2 k j
def s_ra (S : x_S) (k j : Nat) (r : Option Nat) : x_S := (S.1, S.2.1, S.2.2.1, S.2.2.2.1, S.2.2.2.2.1, S.2.2.2.2.2.1, va_up S.2.2.2.2.2.2 k (va_up (S.2.2.2.2.2.2 k) j r))
/-- a ROUTINE by its number among all that were made; THE TAPE or null -/
def x_rr (ap : Nat → Nat → Nat) (r : Option Nat) : Value := va_rf (r.map (fun i => ap i 0))
def x_nr (ad : Nat → Nat) (r : Option Nat) : Value := va_rf (r.map (fun _ => ad 605))
def x_rt (E : x_E) (ap : Nat → Nat → Nat) (S : x_S) (i : Nat) : va_W := [(ap i 0, .inr (2, [.ref (ap i 1), .ref (ap i 2), .ref (ap i 3), .ref (ap i 4), .int (g_ps S 4 i), .int (g_ps S 5 i)])), (ap i 1, .inl (E.2.1, 60, .inl (S.2.2.2.2.1 0 i))), (ap i 2, .inl (E.2.1, 60, .inl (S.2.2.2.2.1 1 i))), (ap i 3, .inl (E.2.1, 60, .inl (S.2.2.2.2.1 2 i))), (ap i 4, .inl (E.2.1, 60, .inl (S.2.2.2.2.1 3 i)))]
def x_fx (E : x_E) (ad : Nat → Nat) (ap : Nat → Nat → Nat) (S : x_S) : va_W := [(ad 699, .inr (6, [.ref (ad 600), .int (g_sc S 601), .ref (ad 199), .int (g_sc S 603), .ref (ad 99), .ref (ad 605), .int (g_sc S 606), .ref (ad 599), .int (g_sc S 608), .ref (ad 609), .ref (ad 399)])), (ad 99, .inr (0, [.ref (ad 0), .ref (ad 1), .int (g_sc S 2), .int (g_sc S 3)])), (ad 199, .inr (1, [.ref (ad 499), x_rr ap (g_rf S 101), .int (g_sc S 102), .ref (ad 103), .ref (ad 104), .ref (ad 105), .ref (ad 106), .ref (ad 107), .ref (ad 108)])), (ad 399, .inr (3, [.int (g_sc S 300), .int (g_sc S 301), .int (g_sc S 302), .ref (ad 303), .ref (ad 304), .int (g_sc S 305), .ref (ad 306), .ref (ad 307)])), (ad 499, .inr (4, [.ref (ad 400), .ref (ad 401), .ref (ad 402), .ref (ad 403), .ref (ad 404), .ref (ad 405), .ref (ad 406), .ref (ad 407), .int (g_sc S 408), .int (g_sc S 409), .int (g_sc S 410), .int (g_sc S 411)])), (ad 599, .inr (5, [.ref (ap 0 0), .int (g_sc S 501), x_nr ad (g_rf S 502), .int (g_sc S 503), .int (g_sc S 504), .int (g_sc S 505), .int (g_sc S 506), .int (g_sc S 507), .ref (ad 508), .int (g_sc S 509), .ref (ad 510), .ref (ad 511), .ref (ad 512), .ref (ad 513), .ref (ad 514), .ref (ad 515)])), (ad 600, .inl (E.2.2.2, 12, .inr (.inr (.inr (.inr (fun j => (g_ra S 600 j).map (fun i => ap i 0))))))), (ad 605, .inl (E.2.1, 300, .inl (S.2.1 605))), (ad 609, .inl (E.2.1, 4, .inl (S.2.1 609))), (ad 0, .inl (E.2.1, 60, .inl (S.2.1 0))), (ad 1, .inl (E.2.1, 60, .inl (S.2.1 1))), (ad 103, .inl (E.2.1, 61, .inl (S.2.1 103))), (ad 104, .inl (E.2.1, 61, .inl (S.2.1 104))), (ad 105, .inl (E.2.1, 61, .inl (S.2.1 105))), (ad 106, .inl (E.2.1, 61, .inl (S.2.1 106))), (ad 107, .inl (E.2.1, 61, .inl (S.2.1 107))), (ad 108, .inl (E.2.1, 61, .inl (S.2.1 108))), (ad 303, .inl (E.2.1, 200, .inl (S.2.1 303))), (ad 304, .inl (E.2.1, 4, .inl (S.2.1 304))), (ad 306, .inl (E.2.2.2, 8, .inr (.inr (.inr (.inr (fun j => (g_ra S 306 j).map (fun i => ap i 0))))))), (ad 307, .inl (E.2.1, 8, .inl (S.2.1 307))), (ad 400, .inl (E.2.1, 60, .inl (S.2.1 400))), (ad 401, .inl (E.2.1, 60, .inl (S.2.1 401))), (ad 402, .inl (E.2.1, 60, .inl (S.2.1 402))), (ad 403, .inl (E.2.1, 60, .inl (S.2.1 403))), (ad 404, .inl (E.2.1, 60, .inl (S.2.1 404))), (ad 405, .inl (E.2.1, 60, .inl (S.2.1 405))), (ad 406, .inl (E.2.1, 60, .inl (S.2.1 406))), (ad 407, .inl (E.2.1, 241, .inl (S.2.1 407))), (ad 508, .inl (E.2.1, 60, .inl (S.2.1 508))), (ad 510, .inl (E.2.1, 61, .inl (S.2.1 510))), (ad 511, .inl (E.2.1, 61, .inl (S.2.1 511))), (ad 512, .inl (E.2.1, 61, .inl (S.2.1 512))), (ad 513, .inl (E.2.1, 61, .inl (S.2.1 513))), (ad 514, .inl (E.2.1, 61, .inl (S.2.1 514))), (ad 515, .inl (E.2.1, 61, .inl (S.2.1 515)))]
def cw (E : x_E) (ad : Nat → Nat) (ap : Nat → Nat → Nat) (S : x_S) : va_W := x_fx E ad ap S ++ (List.range (g_np S)).flatMap (x_rt E ap S)
def mw (E : x_E) (ad : Nat → Nat) (S : x_S) : va_W := [(ad 799, .inr (7, [.int (g_sc S 700), .ref (ad 701), .ref (ad 702), .ref (ad 703), .ref (ad 704), .ref (ad 705), .ref (ad 706), .ref (ad 707), .int (g_sc S 708), .int (g_sc S 709), .int (g_sc S 710), .int (g_sc S 711), .int (g_sc S 712), .ref (ad 713), .ref (ad 714), .int (g_sc S 715), .ref (ad 716), .ref (ad 717), .ref (ad 718), .ref (ad 719), .ref (ad 720), .ref (ad 721), .ref (ad 722), .ref (ad 723), .int (g_sc S 724), .ref (ad 725), .ref (ad 726), .ref (ad 727), .ref (ad 728), .ref (ad 729), .ref (ad 730), .ref (ad 731), .int (g_sc S 732), .ref (ad 733), .int (g_sc S 734), .ref (ad 735), .int (g_sc S 736), .int (g_sc S 737), .int (g_sc S 738), .ref (ad 739), .ref (ad 740), .ref (ad 741), .ref (ad 742), .ref (ad 743), .ref (ad 744), .int (g_sc S 745), .ref (ad 746), .ref (ad 747), .ref (ad 748), .ref (ad 749), .ref (ad 750), .ref (ad 751), .ref (ad 752), .ref (ad 753)])), (ad 701, .inl (E.2.1, 12, .inl (S.2.1 701))), (ad 702, .inl (E.2.1, 720, .inl (S.2.1 702))), (ad 703, .inl (E.2.1, 720, .inl (S.2.1 703))), (ad 704, .inl (E.2.1, 720, .inl (S.2.1 704))), (ad 705, .inl (E.2.1, 720, .inl (S.2.1 705))), (ad 706, .inl (E.2.1, 4, .inl (S.2.1 706))), (ad 707, .inl (E.2.1, 300, .inl (S.2.1 707))), (ad 713, .inl (E.2.1, 200, .inl (S.2.1 713))), (ad 714, .inl (E.2.1, 4, .inl (S.2.1 714))), (ad 716, .inl (E.2.1, 200, .inl (S.2.1 716))), (ad 717, .inl (E.2.1, 200, .inl (S.2.1 717))), (ad 718, .inl (E.2.1, 200, .inl (S.2.1 718))), (ad 719, .inl (E.2.1, 200, .inl (S.2.1 719))), (ad 720, .inl (E.2.1, 200, .inl (S.2.1 720))), (ad 721, .inl (E.2.1, 200, .inl (S.2.1 721))), (ad 722, .inl (E.2.1, 200, .inl (S.2.1 722))), (ad 723, .inl (E.2.1, 200, .inl (S.2.1 723))), (ad 725, .inl (E.2.1, 200, .inl (S.2.1 725))), (ad 726, .inl (E.2.1, 200, .inl (S.2.1 726))), (ad 727, .inl (E.2.1, 200, .inl (S.2.1 727))), (ad 728, .inl (E.2.1, 200, .inl (S.2.1 728))), (ad 729, .inl (E.2.1, 200, .inl (S.2.1 729))), (ad 730, .inl (E.2.1, 200, .inl (S.2.1 730))), (ad 731, .inl (E.2.1, 1000, .inl (S.2.1 731))), (ad 733, .inl (E.2.2.1, 61, .inl (S.2.1 733))), (ad 735, .inl (E.2.1, 200, .inl (S.2.1 735))), (ad 739, .inl (E.2.1, 400, .inl (S.2.1 739))), (ad 740, .inl (E.2.1, 400, .inl (S.2.1 740))), (ad 741, .inl (E.2.1, 400, .inl (S.2.1 741))), (ad 742, .inl (E.2.1, 400, .inl (S.2.1 742))), (ad 743, .inl (E.2.1, 400, .inl (S.2.1 743))), (ad 744, .inl (E.2.1, 400, .inl (S.2.1 744))), (ad 746, .inl (E.2.1, 64, .inl (S.2.1 746))), (ad 747, .inl (E.2.1, 64, .inl (S.2.1 747))), (ad 748, .inl (E.2.1, 64, .inl (S.2.1 748))), (ad 749, .inl (E.2.1, 64, .inl (S.2.1 749))), (ad 750, .inl (E.2.1, 64, .inl (S.2.1 750))), (ad 751, .inl (E.2.1, 64, .inl (S.2.1 751))), (ad 752, .inl (E.2.1, 8, .inl (S.2.1 752))), (ad 753, .inl (E.2.1, 8, .inl (S.2.1 753)))]
theorem x_fx_len (E : x_E) (ad : Nat → Nat) (ap : Nat → Nat → Nat) (S : x_S) : (x_fx E ad ap S).length = 36 := rfl
theorem x_fmc {α : Type} {f g : Nat → List α} : ∀ (L : List Nat), (∀ x ∈ L, f x = g x) → L.flatMap f = L.flatMap g
  | [], _ => rfl
  | x :: L, h => by rw [List.flatMap_cons, List.flatMap_cons, h x List.mem_cons_self, x_fmc L (fun z hz => h z (List.mem_cons_of_mem _ hz))]
theorem x_fm_get {α : Type} (f : Nat → List α) (hf : ∀ i, (f i).length = 5) (j : Nat) (hj : j < 5) : ∀ (n b i : Nat), i < n → ((List.range' b n).flatMap f)[5 * i + j]? = (f (b + i))[j]? := by
  intro n
  induction n with
  | zero => intro b i h; omega
  | succ n ih =>
    intro b i h
    rw [List.range'_succ, List.flatMap_cons]
    cases i with
    | zero => rw [List.getElem?_append_left (by rw [hf]; omega)]; simp
    | succ i =>
      rw [List.getElem?_append_right (by rw [hf]; omega), hf]
      have h1 : 5 * (i + 1) + j - 5 = 5 * i + j := by omega
      rw [h1, ih (b + 1) i (by omega)]
      have h2 : b + 1 + i = b + (i + 1) := by omega
      rw [h2]
theorem x_fm_set {α : Type} (f : Nat → List α) (hf : ∀ i, (f i).length = 5) (j : Nat) (hj : j < 5) (v : α) : ∀ (n b i : Nat), i < n → ((List.range' b n).flatMap f).set (5 * i + j) v = (List.range' b n).flatMap (fun x => if x = b + i then (f x).set j v else f x) := by
  intro n
  induction n with
  | zero => intro b i h; omega
  | succ n ih =>
    intro b i h
    rw [List.range'_succ, List.flatMap_cons, List.flatMap_cons]
    cases i with
    | zero =>
      rw [List.set_append_left _ _ (by rw [hf]; omega)]
      simp only [Nat.mul_zero, Nat.zero_add, Nat.add_zero, if_true]
      congr 1
      refine x_fmc _ (fun x hx => ?_)
      have h3 := List.mem_range'_1.mp hx
      rw [if_neg (by omega)]
    | succ i =>
      rw [List.set_append_right _ _ (by rw [hf]; omega), hf]
      have h1 : 5 * (i + 1) + j - 5 = 5 * i + j := by omega
      rw [h1, ih (b + 1) i (by omega), if_neg (by omega)]
      congr 1
      refine x_fmc _ (fun x hx => ?_)
      have h2 : b + 1 + i = b + (i + 1) := by omega
      rw [h2]
theorem x_cw_get (E : x_E) (ad : Nat → Nat) (ap : Nat → Nat → Nat) (S : x_S) (i j : Nat) (hj : j < 5) (hi : i < g_np S) : (cw E ad ap S)[36 + (5 * i + j)]? = (x_rt E ap S i)[j]? := by
  unfold cw
  rw [List.getElem?_append_right (by rw [x_fx_len]; omega), x_fx_len, List.range_eq_range']
  have h1 : 36 + (5 * i + j) - 36 = 5 * i + j := by omega
  rw [h1, x_fm_get _ (fun _ => rfl) j hj (g_np S) 0 i hi, Nat.zero_add]
theorem x_cw_set (E : x_E) (ad : Nat → Nat) (ap : Nat → Nat → Nat) (S S1 : x_S) (i j : Nat) (v : Nat × va_E) (hj : j < 5) (hi : i < g_np S) (hn : g_np S1 = g_np S) (hx : x_fx E ad ap S1 = x_fx E ad ap S) (h1 : x_rt E ap S1 i = (x_rt E ap S i).set j v) (h2 : ∀ x, x ≠ i → x_rt E ap S1 x = x_rt E ap S x) : (cw E ad ap S).set (36 + (5 * i + j)) v = cw E ad ap S1 := by
  unfold cw
  rw [List.set_append_right _ _ (by rw [x_fx_len]; omega), x_fx_len, List.range_eq_range', hn, hx]
  have h3 : 36 + (5 * i + j) - 36 = 5 * i + j := by omega
  rw [h3, x_fm_set _ (fun _ => rfl) j hj v (g_np S) 0 i hi, List.range_eq_range', Nat.zero_add]
  congr 1
  refine x_fmc _ (fun x _ => ?_)
  by_cases q : x = i
  · rw [if_pos q, q, h1]
  · rw [if_neg q, h2 x q]
theorem x_cw_fx (E : x_E) (ad : Nat → Nat) (ap : Nat → Nat → Nat) (S S1 : x_S) (q : Nat) (v : Nat × va_E) (hq : q < 36) (hn : g_np S1 = g_np S) (hx : (x_fx E ad ap S).set q v = x_fx E ad ap S1) (h2 : x_rt E ap S1 = x_rt E ap S) : (cw E ad ap S).set q v = cw E ad ap S1 := by
  unfold cw
  rw [List.set_append_left _ _ (by rw [x_fx_len]; exact hq), hx, hn, h2]
theorem inX0 : ∀ z ∈ u_ws RX0 TX0 4, z ∈ x_TB := by decide +kernel
theorem inX1 : ∀ z ∈ u_ws RX1 TX1 9, z ∈ x_TB := by decide +kernel
theorem inX2 : ∀ z ∈ u_ws RX2 TX2 6, z ∈ x_TB := by decide +kernel
theorem inX3 : ∀ z ∈ u_ws RX3 TX3 8, z ∈ x_TB := by decide +kernel
theorem inX4 : ∀ z ∈ u_ws RX4 TX4 12, z ∈ x_TB := by decide +kernel
theorem inX5 : ∀ z ∈ u_ws RX5 TX5 16, z ∈ x_TB := by decide +kernel
theorem inX6 : ∀ z ∈ u_ws RX6 TX6 11, z ∈ x_TB := by decide +kernel
theorem inX7 : ∀ z ∈ u_ws RX7 TX7 54, z ∈ x_TB := by decide +kernel
