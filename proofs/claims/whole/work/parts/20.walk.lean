section
variable {p : Program} {l : Launch} {e : Env} {s : State} {m : MethodId} {args : Array Value} {below : List Frame} {meth : Method} {c : Code} {H : Heap} {locs : List Loc} {Q : State → Prop}
variable {E : x_E} {A : Nat → Prop} {ls : Array Slot} {ad : Nat → Nat} {ap : Nat → Nat → Nat} {S : x_S} {w : va_W} {n : Nat}
-- X7_countIn
def f_X7_countIn_47 (n : Nat) (rec5 : x_S × Int32 × Int32 × Int32 × Int32 → Option (Int32 × x_S)) (S : x_S) (a1 : Int32) (a2 : Int32) (a4 : Int32) (t0 : Int32) (t1 : Int32) : Option (Int32 × x_S) :=
rec5 (S, a1, a2, (t1 + t0), (a4 + (1 : Int32)))
set_option maxHeartbeats 4000000 in
set_option maxRecDepth 100000 in
theorem w_X7_countIn_47 {r : Int32 × x_S} {a1 : Int32} {a2 : Int32} {a4 : Int32} {t0 : Int32} {t1 : Int32} {rec5 : x_S × Int32 × Int32 × Int32 × Int32 → Option (Int32 × x_S)} (hC : x_C p s m args meth c cX7_countIn 5 RX7 E A) (hR : x_Ri p l e { frames := 0, cells := 0, slots := 0, locals := 0 } s m args below meth c cX7_countIn E A Q (mw E ad r.2) r.1) (hrec5 : ∀ z : x_S × Int32 × Int32 × Int32 × Int32, rec5 z = some r → ∀ (H : Heap) (locs : List Loc) (ls : Array Slot), x_I E A s.heap (mw E ad z.1) H locs → lv_has ls 5 [(0, .ref (ad 799)), (1, .int z.2.1), (2, .int z.2.2.1), (3, .int z.2.2.2.1), (4, .int z.2.2.2.2)] → W p l e { frames := 0, cells := 0, slots := 0, locals := 0 } s m args below meth c H locs 0 0 Q (F0 m 5 ls [])) (hI : x_I E A s.heap (mw E ad S) H locs) (hl : lv_has ls 5 [(0, .ref (ad 799)), (1, .int a1), (2, .int a2), (4, .int a4)]) (hf : f_X7_countIn_47 n rec5 S a1 a2 a4 t0 t1 = some r) : W p l e { frames := 0, cells := 0, slots := 0, locals := 0 } s m args below meth c H locs 0 0 Q (F0 m 47 ls [.int t0, .int t1]) := by
  obtain ⟨hx, hb, hml, hown, hts, hK, hN, hA⟩ := id hC
  unfold f_X7_countIn_47 at hf
  refine lv_iadd hx hb dX7_countIn_47 ?_
  refine lv_istore_n (lv' := [(3, .int (t1 + t0)), (0, .ref (ad 799)), (1, .int a1), (2, .int a2), (4, .int a4)]) hx hb dX7_countIn_48 rfl hl (by decide) rfl (fun ls hl => ?_)
  refine lv_iinc (v := (a4 + (1 : Int32))) (lv' := [(4, .int (a4 + (1 : Int32))), (3, .int (t1 + t0)), (0, .ref (ad 799)), (1, .int a1), (2, .int a2)]) hx hb dX7_countIn_49 hl (k := 4) rfl rfl (by decide) rfl (fun ls hl => ?_)
  refine lv_goto (tgt := 5) hx hb dX7_countIn_52 (by decide) ?_
  exact hrec5 _ hf _ _ _ hI (lv_sub hl [2, 3, 4, 1, 0] rfl)
def f_X7_countIn_46 (n : Nat) (rec5 : x_S × Int32 × Int32 × Int32 × Int32 → Option (Int32 × x_S)) (S : x_S) (a1 : Int32) (a2 : Int32) (a4 : Int32) (t0 : Int32) : Option (Int32 × x_S) :=
f_X7_countIn_47 n rec5 S a1 a2 a4 (0 : Int32) t0
set_option maxHeartbeats 4000000 in
set_option maxRecDepth 100000 in
theorem w_X7_countIn_46 {r : Int32 × x_S} {a1 : Int32} {a2 : Int32} {a4 : Int32} {t0 : Int32} {rec5 : x_S × Int32 × Int32 × Int32 × Int32 → Option (Int32 × x_S)} (hC : x_C p s m args meth c cX7_countIn 5 RX7 E A) (hR : x_Ri p l e { frames := 0, cells := 0, slots := 0, locals := 0 } s m args below meth c cX7_countIn E A Q (mw E ad r.2) r.1) (hrec5 : ∀ z : x_S × Int32 × Int32 × Int32 × Int32, rec5 z = some r → ∀ (H : Heap) (locs : List Loc) (ls : Array Slot), x_I E A s.heap (mw E ad z.1) H locs → lv_has ls 5 [(0, .ref (ad 799)), (1, .int z.2.1), (2, .int z.2.2.1), (3, .int z.2.2.2.1), (4, .int z.2.2.2.2)] → W p l e { frames := 0, cells := 0, slots := 0, locals := 0 } s m args below meth c H locs 0 0 Q (F0 m 5 ls [])) (hI : x_I E A s.heap (mw E ad S) H locs) (hl : lv_has ls 5 [(0, .ref (ad 799)), (1, .int a1), (2, .int a2), (4, .int a4)]) (hf : f_X7_countIn_46 n rec5 S a1 a2 a4 t0 = some r) : W p l e { frames := 0, cells := 0, slots := 0, locals := 0 } s m args below meth c H locs 0 0 Q (F0 m 46 ls [.int t0]) := by
  obtain ⟨hx, hb, hml, hown, hts, hK, hN, hA⟩ := id hC
  unfold f_X7_countIn_46 at hf
  refine lv_iconst (v := (0 : Int32)) hx hb dX7_countIn_46 (by decide) ?_
  exact w_X7_countIn_47 hC hR hrec5 hI (lv_sub hl [0, 1, 2, 3] rfl) hf
def f_X7_countIn_42 (n : Nat) (rec5 : x_S × Int32 × Int32 × Int32 × Int32 → Option (Int32 × x_S)) (S : x_S) (a1 : Int32) (a2 : Int32) (a4 : Int32) (t0 : Int32) : Option (Int32 × x_S) :=
f_X7_countIn_47 n rec5 S a1 a2 a4 (1 : Int32) t0
set_option maxHeartbeats 4000000 in
set_option maxRecDepth 100000 in
theorem w_X7_countIn_42 {r : Int32 × x_S} {a1 : Int32} {a2 : Int32} {a4 : Int32} {t0 : Int32} {rec5 : x_S × Int32 × Int32 × Int32 × Int32 → Option (Int32 × x_S)} (hC : x_C p s m args meth c cX7_countIn 5 RX7 E A) (hR : x_Ri p l e { frames := 0, cells := 0, slots := 0, locals := 0 } s m args below meth c cX7_countIn E A Q (mw E ad r.2) r.1) (hrec5 : ∀ z : x_S × Int32 × Int32 × Int32 × Int32, rec5 z = some r → ∀ (H : Heap) (locs : List Loc) (ls : Array Slot), x_I E A s.heap (mw E ad z.1) H locs → lv_has ls 5 [(0, .ref (ad 799)), (1, .int z.2.1), (2, .int z.2.2.1), (3, .int z.2.2.2.1), (4, .int z.2.2.2.2)] → W p l e { frames := 0, cells := 0, slots := 0, locals := 0 } s m args below meth c H locs 0 0 Q (F0 m 5 ls [])) (hI : x_I E A s.heap (mw E ad S) H locs) (hl : lv_has ls 5 [(0, .ref (ad 799)), (1, .int a1), (2, .int a2), (4, .int a4)]) (hf : f_X7_countIn_42 n rec5 S a1 a2 a4 t0 = some r) : W p l e { frames := 0, cells := 0, slots := 0, locals := 0 } s m args below meth c H locs 0 0 Q (F0 m 42 ls [.int t0]) := by
  obtain ⟨hx, hb, hml, hown, hts, hK, hN, hA⟩ := id hC
  unfold f_X7_countIn_42 at hf
  refine lv_iconst (v := (1 : Int32)) hx hb dX7_countIn_42 (by decide) ?_
  refine lv_goto (tgt := 47) hx hb dX7_countIn_43 (by decide) ?_
  exact w_X7_countIn_47 hC hR hrec5 hI (lv_sub hl [0, 1, 2, 3] rfl) hf
def f_X7_countIn_5 (n : Nat) (rec5 : x_S × Int32 × Int32 × Int32 × Int32 → Option (Int32 × x_S)) (S : x_S) (a1 : Int32) (a2 : Int32) (a3 : Int32) (a4 : Int32) : Option (Int32 × x_S) :=
x_let (g_sc S 715) (fun v1 =>
if v1 ≤ a4 then
some (a3, S)
else
x_g (¬ (a4 < 0 ∨ 200 ≤ (a4).toNatClampNeg)) (x_let (g_ar S 719 (a4).toNatClampNeg) (fun v2 =>
if v2 = a1 then
if a1 = (-1 : Int32) then
f_X7_countIn_42 n rec5 S a1 a2 a4 a3
else
x_g (¬ (a4 < 0 ∨ 200 ≤ (a4).toNatClampNeg)) (x_let (g_ar S 720 (a4).toNatClampNeg) (fun v3 =>
if v3 = a2 then
f_X7_countIn_42 n rec5 S a1 a2 a4 a3
else
f_X7_countIn_46 n rec5 S a1 a2 a4 a3))
else
f_X7_countIn_46 n rec5 S a1 a2 a4 a3)))
set_option maxHeartbeats 4000000 in
set_option maxRecDepth 100000 in
theorem w_X7_countIn_5 {r : Int32 × x_S} {a1 : Int32} {a2 : Int32} {a3 : Int32} {a4 : Int32} {rec5 : x_S × Int32 × Int32 × Int32 × Int32 → Option (Int32 × x_S)} (hC : x_C p s m args meth c cX7_countIn 5 RX7 E A) (hR : x_Ri p l e { frames := 0, cells := 0, slots := 0, locals := 0 } s m args below meth c cX7_countIn E A Q (mw E ad r.2) r.1) (hrec5 : ∀ z : x_S × Int32 × Int32 × Int32 × Int32, rec5 z = some r → ∀ (H : Heap) (locs : List Loc) (ls : Array Slot), x_I E A s.heap (mw E ad z.1) H locs → lv_has ls 5 [(0, .ref (ad 799)), (1, .int z.2.1), (2, .int z.2.2.1), (3, .int z.2.2.2.1), (4, .int z.2.2.2.2)] → W p l e { frames := 0, cells := 0, slots := 0, locals := 0 } s m args below meth c H locs 0 0 Q (F0 m 5 ls [])) (hI : x_I E A s.heap (mw E ad S) H locs) (hl : lv_has ls 5 [(0, .ref (ad 799)), (1, .int a1), (2, .int a2), (3, .int a3), (4, .int a4)]) (hf : f_X7_countIn_5 n rec5 S a1 a2 a3 a4 = some r) : W p l e { frames := 0, cells := 0, slots := 0, locals := 0 } s m args below meth c H locs 0 0 Q (F0 m 5 ls []) := by
  obtain ⟨hx, hb, hml, hown, hts, hK, hN, hA⟩ := id hC
  unfold f_X7_countIn_5 at hf
  refine lv_iload hx hb dX7_countIn_5 (lv_at hl 4 rfl) ?_
  refine lv_aload_n hx hb dX7_countIn_7 rfl (lv_at hl 0 rfl) ?_
  refine gX7_15 hC hI hf lkf_X7_160 dX7_countIn_8 (fun v1 hf => ?_)
  refine x_ige hC 55 hf dX7_countIn_11 (by decide) (fun hf => ?_) (fun hf => ?_)
  · refine lv_iload_n hx hb dX7_countIn_55 rfl (lv_at hl 3 rfl) ?_
    obtain rfl := Option.some.inj hf
    exact hR _ _ _ _ hI dX7_countIn_56
  · refine lv_iload_n hx hb dX7_countIn_14 rfl (lv_at hl 3 rfl) ?_
    refine lv_aload_n hx hb dX7_countIn_15 rfl (lv_at hl 0 rfl) ?_
    refine gX7_19 hC hI lkf_X7_50 dX7_countIn_16 ?_
    refine lv_iload hx hb dX7_countIn_19 (lv_at hl 4 rfl) ?_
    refine aX7_19 hC hI hf dX7_countIn_21 (fun v2 hf => ?_)
    refine lv_iload_n hx hb dX7_countIn_22 rfl (lv_at hl 1 rfl) ?_
    refine x_ine hC 46 hf dX7_countIn_23 (by decide) (fun hf => ?_) (fun hf => ?_)
    · exact w_X7_countIn_46 hC hR hrec5 hI (lv_sub hl [0, 1, 2, 4] rfl) hf
    · refine lv_iload_n hx hb dX7_countIn_26 rfl (lv_at hl 1 rfl) ?_
      refine lv_iconst (v := (-1 : Int32)) hx hb dX7_countIn_27 (by decide) ?_
      refine x_ieq hC 42 hf dX7_countIn_28 (by decide) (fun hf => ?_) (fun hf => ?_)
      · exact w_X7_countIn_42 hC hR hrec5 hI (lv_sub hl [0, 1, 2, 4] rfl) hf
      · refine lv_aload_n hx hb dX7_countIn_31 rfl (lv_at hl 0 rfl) ?_
        refine gX7_20 hC hI lkf_X7_53 dX7_countIn_32 ?_
        refine lv_iload hx hb dX7_countIn_35 (lv_at hl 4 rfl) ?_
        refine aX7_20 hC hI hf dX7_countIn_37 (fun v3 hf => ?_)
        refine lv_iload_n hx hb dX7_countIn_38 rfl (lv_at hl 2 rfl) ?_
        refine x_ine hC 46 hf dX7_countIn_39 (by decide) (fun hf => ?_) (fun hf => ?_)
        · exact w_X7_countIn_46 hC hR hrec5 hI (lv_sub hl [0, 1, 2, 4] rfl) hf
        · exact w_X7_countIn_42 hC hR hrec5 hI (lv_sub hl [0, 1, 2, 4] rfl) hf
theorem w_X7_countIn_5_loop {r : Int32 × x_S} (hC : x_C p s m args meth c cX7_countIn 5 RX7 E A) (hR : x_Ri p l e { frames := 0, cells := 0, slots := 0, locals := 0 } s m args below meth c cX7_countIn E A Q (mw E ad r.2) r.1) : ∀ (k : Nat) (z : x_S × Int32 × Int32 × Int32 × Int32), x_loop (fun rec z => f_X7_countIn_5 n rec z.1 z.2.1 z.2.2.1 z.2.2.2.1 z.2.2.2.2) k z = some r → ∀ (H : Heap) (locs : List Loc) (ls : Array Slot), x_I E A s.heap (mw E ad z.1) H locs → lv_has ls 5 [(0, .ref (ad 799)), (1, .int z.2.1), (2, .int z.2.2.1), (3, .int z.2.2.2.1), (4, .int z.2.2.2.2)] → W p l e { frames := 0, cells := 0, slots := 0, locals := 0 } s m args below meth c H locs 0 0 Q (F0 m 5 ls []) :=
  x_loop_ind (P := fun (z : x_S × Int32 × Int32 × Int32 × Int32) => ∀ (H : Heap) (locs : List Loc) (ls : Array Slot), x_I E A s.heap (mw E ad z.1) H locs → lv_has ls 5 [(0, .ref (ad 799)), (1, .int z.2.1), (2, .int z.2.2.1), (3, .int z.2.2.2.1), (4, .int z.2.2.2.2)] → W p l e { frames := 0, cells := 0, slots := 0, locals := 0 } s m args below meth c H locs 0 0 Q (F0 m 5 ls [])) (fun rec hrec z hf H locs ls hI hl => w_X7_countIn_5 hC hR hrec hI hl hf)
def f_X7_countIn (n : Nat) (S : x_S) (a1 : Int32) (a2 : Int32) : Option (Int32 × x_S) :=
x_loop (fun rec z => f_X7_countIn_5 n rec z.1 z.2.1 z.2.2.1 z.2.2.2.1 z.2.2.2.2) n (S, a1, a2, (0 : Int32), (0 : Int32))
set_option maxHeartbeats 4000000 in
set_option maxRecDepth 100000 in
theorem w_X7_countIn {r : Int32 × x_S} {a1 : Int32} {a2 : Int32} (hC : x_C p s m args meth c cX7_countIn 5 RX7 E A) (hR : x_Ri p l e { frames := 0, cells := 0, slots := 0, locals := 0 } s m args below meth c cX7_countIn E A Q (mw E ad r.2) r.1) (hI : x_I E A s.heap (mw E ad S) H locs) (hl : lv_has ls 5 [(0, .ref (ad 799)), (1, .int a1), (2, .int a2)]) (hf : f_X7_countIn n S a1 a2 = some r) : W p l e { frames := 0, cells := 0, slots := 0, locals := 0 } s m args below meth c H locs 0 0 Q (F0 m 0 ls []) := by
  obtain ⟨hx, hb, hml, hown, hts, hK, hN, hA⟩ := id hC
  unfold f_X7_countIn at hf
  refine lv_iconst (v := (0 : Int32)) hx hb dX7_countIn_0 (by decide) ?_
  refine lv_istore_n (lv' := [(3, .int (0 : Int32)), (0, .ref (ad 799)), (1, .int a1), (2, .int a2)]) hx hb dX7_countIn_1 rfl hl (by decide) rfl (fun ls hl => ?_)
  refine lv_iconst (v := (0 : Int32)) hx hb dX7_countIn_2 (by decide) ?_
  refine lv_istore (lv' := [(4, .int (0 : Int32)), (3, .int (0 : Int32)), (0, .ref (ad 799)), (1, .int a1), (2, .int a2)]) hx hb dX7_countIn_3 hl (by decide) rfl (fun ls hl => ?_)
  exact w_X7_countIn_5_loop hC hR _ _ hf _ _ _ hI (lv_sub hl [2, 3, 4, 1, 0] rfl)
theorem c_X7_countIn {a1 : Int32} {a2 : Int32} {v : Int32} {S1 : x_S} (hf : f_X7_countIn n S a1 a2 = some (v, S1)) : x_M l yX7_countIn cX7_countIn 5 (some .int) 0 0 E [.ref (ad 799), .int a1, .int a2] (mw E ad S) (mw E ad S1) (some (.int v)) :=
  x_entI (by decide) (Nat.le_of_ble_eq_true rfl) (fun p e s m args below meth c A Q ls hC hI hR hl => w_X7_countIn (r := (v, S1)) hC hR hI hl hf)
-- X7_tell
def f_X7_tell (n : Nat) (S : x_S) (a1 : Int32) : Option (x_S) :=
x_let (g_sc S 732) (fun v1 =>
x_g (¬ (v1 < 0 ∨ 1000 ≤ (v1).toNatClampNeg)) (x_let (s_ar S 731 (v1).toNatClampNeg a1) (fun S =>
x_let (g_sc S 732) (fun v2 =>
x_let (s_sc S 732 (v2 + (1 : Int32))) (fun S =>
some S)))))
set_option maxHeartbeats 4000000 in
set_option maxRecDepth 100000 in
theorem w_X7_tell {r : x_S} {a1 : Int32} (hC : x_C p s m args meth c cX7_tell 2 RX7 E A) (hR : x_Rv p l e { frames := 0, cells := 0, slots := 0, locals := 0 } s m args below meth c cX7_tell E A Q (mw E ad r)) (hI : x_I E A s.heap (mw E ad S) H locs) (hl : lv_has ls 2 [(0, .ref (ad 799)), (1, .int a1)]) (hf : f_X7_tell n S a1 = some r) : W p l e { frames := 0, cells := 0, slots := 0, locals := 0 } s m args below meth c H locs 0 0 Q (F0 m 0 ls []) := by
  obtain ⟨hx, hb, hml, hown, hts, hK, hN, hA⟩ := id hC
  unfold f_X7_tell at hf
  refine lv_aload_n hx hb dX7_tell_0 rfl (lv_at hl 0 rfl) ?_
  refine gX7_31 hC hI lkf_X7_83 dX7_tell_1 ?_
  refine lv_aload_n hx hb dX7_tell_4 rfl (lv_at hl 0 rfl) ?_
  refine gX7_32 hC hI hf lkf_X7_208 dX7_tell_5 (fun v1 hf => ?_)
  refine lv_iload_n hx hb dX7_tell_8 rfl (lv_at hl 1 rfl) ?_
  refine tX7_31 hC hI hf dX7_tell_9 (fun S H locs hI hf => ?_)
  refine lv_aload_n hx hb dX7_tell_10 rfl (lv_at hl 0 rfl) ?_
  refine lv_dup hx hb dX7_tell_11 rfl ?_
  refine gX7_32 hC hI hf lkf_X7_208 dX7_tell_12 (fun v2 hf => ?_)
  refine lv_iconst (v := (1 : Int32)) hx hb dX7_tell_15 (by decide) ?_
  refine lv_iadd hx hb dX7_tell_16 ?_
  refine pX7_32 hC hI hf lkf_X7_208 dX7_tell_17 (fun S H locs hI hf => ?_)
  obtain rfl := Option.some.inj hf
  exact hR _ _ _ _ hI dX7_tell_20
theorem c_X7_tell {a1 : Int32} {S1 : x_S} (hf : f_X7_tell n S a1 = some S1) : x_M l yX7_tell cX7_tell 2 none 0 0 E [.ref (ad 799), .int a1] (mw E ad S) (mw E ad S1) none :=
  x_entV (by decide) (Nat.le_of_ble_eq_true rfl) (fun p e s m args below meth c A Q ls hC hI hR hl => w_X7_tell (r := S1) hC hR hI hl hf)
-- X7_closeBodies
def f_X7_closeBodies_189 (n : Nat) (rec60 : x_S × Int32 × Int32 → Option (x_S)) (S : x_S) (a1 : Int32) (t0 : Int32) : Option (x_S) :=
rec60 (S, a1, t0)
set_option maxHeartbeats 4000000 in
set_option maxRecDepth 100000 in
theorem w_X7_closeBodies_189 {r : x_S} {a1 : Int32} {t0 : Int32} {rec60 : x_S × Int32 × Int32 → Option (x_S)} (hC : x_C p s m args meth c cX7_closeBodies 6 RX7 E A) (hR : x_Rv p l e { frames := 1, cells := 0, slots := 0, locals := 24 } s m args below meth c cX7_closeBodies E A Q (mw E ad r)) (hrec60 : ∀ z : x_S × Int32 × Int32, rec60 z = some r → ∀ (H : Heap) (locs : List Loc) (ls : Array Slot), x_I E A s.heap (mw E ad z.1) H locs → lv_has ls 6 [(0, .ref (ad 799)), (1, .int z.2.1), (2, .int z.2.2)] → W p l e { frames := 1, cells := 0, slots := 0, locals := 24 } s m args below meth c H locs 0 0 Q (F0 m 60 ls [])) (hI : x_I E A s.heap (mw E ad S) H locs) (hl : lv_has ls 6 [(0, .ref (ad 799)), (1, .int a1)]) (hf : f_X7_closeBodies_189 n rec60 S a1 t0 = some r) : W p l e { frames := 1, cells := 0, slots := 0, locals := 24 } s m args below meth c H locs 0 0 Q (F0 m 189 ls [.int t0]) := by
  obtain ⟨hx, hb, hml, hown, hts, hK, hN, hA⟩ := id hC
  unfold f_X7_closeBodies_189 at hf
  refine lv_istore_n (lv' := [(2, .int t0), (0, .ref (ad 799)), (1, .int a1)]) hx hb dX7_closeBodies_189 rfl hl (by decide) rfl (fun ls hl => ?_)
  refine lv_goto (tgt := 60) hx hb dX7_closeBodies_190 (by decide) ?_
  exact hrec60 _ hf _ _ _ hI (lv_sub hl [1, 2, 0] rfl)
def f_X7_closeBodies_188 (n : Nat) (rec60 : x_S × Int32 × Int32 → Option (x_S)) (S : x_S) (a1 : Int32) : Option (x_S) :=
f_X7_closeBodies_189 n rec60 S a1 (0 : Int32)
set_option maxHeartbeats 4000000 in
set_option maxRecDepth 100000 in
theorem w_X7_closeBodies_188 {r : x_S} {a1 : Int32} {rec60 : x_S × Int32 × Int32 → Option (x_S)} (hC : x_C p s m args meth c cX7_closeBodies 6 RX7 E A) (hR : x_Rv p l e { frames := 1, cells := 0, slots := 0, locals := 24 } s m args below meth c cX7_closeBodies E A Q (mw E ad r)) (hrec60 : ∀ z : x_S × Int32 × Int32, rec60 z = some r → ∀ (H : Heap) (locs : List Loc) (ls : Array Slot), x_I E A s.heap (mw E ad z.1) H locs → lv_has ls 6 [(0, .ref (ad 799)), (1, .int z.2.1), (2, .int z.2.2)] → W p l e { frames := 1, cells := 0, slots := 0, locals := 24 } s m args below meth c H locs 0 0 Q (F0 m 60 ls [])) (hI : x_I E A s.heap (mw E ad S) H locs) (hl : lv_has ls 6 [(0, .ref (ad 799)), (1, .int a1)]) (hf : f_X7_closeBodies_188 n rec60 S a1 = some r) : W p l e { frames := 1, cells := 0, slots := 0, locals := 24 } s m args below meth c H locs 0 0 Q (F0 m 188 ls []) := by
  obtain ⟨hx, hb, hml, hown, hts, hK, hN, hA⟩ := id hC
  unfold f_X7_closeBodies_188 at hf
  refine lv_iconst (v := (0 : Int32)) hx hb dX7_closeBodies_188 (by decide) ?_
  exact w_X7_closeBodies_189 hC hR hrec60 hI (lv_sub hl [0, 1] rfl) hf
def f_X7_closeBodies_172 (n : Nat) (rec60 : x_S × Int32 × Int32 → Option (x_S)) (S : x_S) (a1 : Int32) (a5 : Int32) : Option (x_S) :=
if a5 = 0 then
x_let (g_sc S 734) (fun v6 =>
if v6 ≤ 0 then
f_X7_closeBodies_188 n rec60 S a1
else
f_X7_closeBodies_189 n rec60 S a1 (1 : Int32))
else
f_X7_closeBodies_188 n rec60 S a1
set_option maxHeartbeats 4000000 in
set_option maxRecDepth 100000 in
theorem w_X7_closeBodies_172 {r : x_S} {a1 : Int32} {a5 : Int32} {rec60 : x_S × Int32 × Int32 → Option (x_S)} (hC : x_C p s m args meth c cX7_closeBodies 6 RX7 E A) (hR : x_Rv p l e { frames := 1, cells := 0, slots := 0, locals := 24 } s m args below meth c cX7_closeBodies E A Q (mw E ad r)) (hrec60 : ∀ z : x_S × Int32 × Int32, rec60 z = some r → ∀ (H : Heap) (locs : List Loc) (ls : Array Slot), x_I E A s.heap (mw E ad z.1) H locs → lv_has ls 6 [(0, .ref (ad 799)), (1, .int z.2.1), (2, .int z.2.2)] → W p l e { frames := 1, cells := 0, slots := 0, locals := 24 } s m args below meth c H locs 0 0 Q (F0 m 60 ls [])) (hI : x_I E A s.heap (mw E ad S) H locs) (hl : lv_has ls 6 [(0, .ref (ad 799)), (1, .int a1), (5, .int a5)]) (hf : f_X7_closeBodies_172 n rec60 S a1 a5 = some r) : W p l e { frames := 1, cells := 0, slots := 0, locals := 24 } s m args below meth c H locs 0 0 Q (F0 m 172 ls []) := by
  obtain ⟨hx, hb, hml, hown, hts, hK, hN, hA⟩ := id hC
  unfold f_X7_closeBodies_172 at hf
  refine lv_iload hx hb dX7_closeBodies_172 (lv_at hl 2 rfl) ?_
  refine x_ne0 hC 188 hf dX7_closeBodies_174 (by decide) (fun hf => ?_) (fun hf => ?_)
  · exact w_X7_closeBodies_188 hC hR hrec60 hI (lv_sub hl [0, 1] rfl) hf
  · refine lv_aload_n hx hb dX7_closeBodies_177 rfl (lv_at hl 0 rfl) ?_
    refine gX7_34 hC hI hf lkf_X7_221 dX7_closeBodies_178 (fun v6 hf => ?_)
    refine x_le0 hC 188 hf dX7_closeBodies_181 (by decide) (fun hf => ?_) (fun hf => ?_)
    · exact w_X7_closeBodies_188 hC hR hrec60 hI (lv_sub hl [0, 1] rfl) hf
    · refine lv_iconst (v := (1 : Int32)) hx hb dX7_closeBodies_184 (by decide) ?_
      refine lv_goto (tgt := 189) hx hb dX7_closeBodies_185 (by decide) ?_
      exact w_X7_closeBodies_189 hC hR hrec60 hI (lv_sub hl [0, 1] rfl) hf
def f_X7_closeBodies_145 (n : Nat) (rec60 : x_S × Int32 × Int32 → Option (x_S)) (S : x_S) (a1 : Int32) (a3 : Int32) (t0 : Int32) : Option (x_S) :=
if t0 = 0 then
x_b2 (f_X7_countIn n S a3 (1 : Int32)) (fun v8 S =>
x_b (f_X7_tell n S v8) (fun S =>
x_let (g_sc S 734) (fun v10 =>
x_let (s_sc S 734 (v10 - (1 : Int32))) (fun S =>
f_X7_closeBodies_172 n rec60 S a1 t0))))
else
f_X7_closeBodies_172 n rec60 S a1 t0
set_option maxHeartbeats 4000000 in
set_option maxRecDepth 100000 in
theorem w_X7_closeBodies_145 {r : x_S} {a1 : Int32} {a3 : Int32} {t0 : Int32} {rec60 : x_S × Int32 × Int32 → Option (x_S)} (hC : x_C p s m args meth c cX7_closeBodies 6 RX7 E A) (hR : x_Rv p l e { frames := 1, cells := 0, slots := 0, locals := 24 } s m args below meth c cX7_closeBodies E A Q (mw E ad r)) (hrec60 : ∀ z : x_S × Int32 × Int32, rec60 z = some r → ∀ (H : Heap) (locs : List Loc) (ls : Array Slot), x_I E A s.heap (mw E ad z.1) H locs → lv_has ls 6 [(0, .ref (ad 799)), (1, .int z.2.1), (2, .int z.2.2)] → W p l e { frames := 1, cells := 0, slots := 0, locals := 24 } s m args below meth c H locs 0 0 Q (F0 m 60 ls [])) (hI : x_I E A s.heap (mw E ad S) H locs) (hl : lv_has ls 6 [(0, .ref (ad 799)), (1, .int a1), (3, .int a3)]) (hf : f_X7_closeBodies_145 n rec60 S a1 a3 t0 = some r) : W p l e { frames := 1, cells := 0, slots := 0, locals := 24 } s m args below meth c H locs 0 0 Q (F0 m 145 ls [.int t0]) := by
  obtain ⟨hx, hb, hml, hown, hts, hK, hN, hA⟩ := id hC
  unfold f_X7_closeBodies_145 at hf
  refine lv_istore (lv' := [(5, .int t0), (0, .ref (ad 799)), (1, .int a1), (3, .int a3)]) hx hb dX7_closeBodies_145 hl (by decide) rfl (fun ls hl => ?_)
  refine lv_iload hx hb dX7_closeBodies_147 (lv_at hl 0 rfl) ?_
  refine x_ne0 hC 172 hf dX7_closeBodies_149 (by decide) (fun hf => ?_) (fun hf => ?_)
  · exact w_X7_closeBodies_172 hC hR hrec60 hI (lv_sub hl [1, 2, 0] rfl) hf
  · refine lv_aload_n hx hb dX7_closeBodies_152 rfl (lv_at hl 1 rfl) ?_
    refine lv_aload_n hx hb dX7_closeBodies_153 rfl (lv_at hl 1 rfl) ?_
    refine lv_iload_n hx hb dX7_closeBodies_154 rfl (lv_at hl 3 rfl) ?_
    refine lv_iconst (v := (1 : Int32)) hx hb dX7_closeBodies_155 (by decide) ?_
    obtain ⟨v8, S, hc7, hf⟩ := x_b2_eq hf
    refine x_callV hC hI (c_X7_countIn hc7) 0 7 rfl rfl kv_X7_211 rfl ⟨Nat.le_of_ble_eq_true rfl, Nat.le_of_ble_eq_true rfl⟩ ⟨Nat.le_refl _, Nat.le_refl _⟩ hl.1 rfl (Nat.le_of_ble_eq_true rfl) dX7_closeBodies_156 (fun H locs hI => ?_)
    obtain ⟨S, hc9, hf⟩ := x_b_eq hf
    refine x_callV hC hI (c_X7_tell hc9) 0 7 rfl rfl kv_X7_215 rfl ⟨Nat.le_of_ble_eq_true rfl, Nat.le_of_ble_eq_true rfl⟩ ⟨Nat.le_refl _, Nat.le_refl _⟩ hl.1 rfl (Nat.le_of_ble_eq_true rfl) dX7_closeBodies_159 (fun H locs hI => ?_)
    refine lv_aload_n hx hb dX7_closeBodies_162 rfl (lv_at hl 1 rfl) ?_
    refine lv_dup hx hb dX7_closeBodies_163 rfl ?_
    refine gX7_34 hC hI hf lkf_X7_221 dX7_closeBodies_164 (fun v10 hf => ?_)
    refine lv_iconst (v := (1 : Int32)) hx hb dX7_closeBodies_167 (by decide) ?_
    refine lv_isub hx hb dX7_closeBodies_168 ?_
    refine pX7_34 hC hI hf lkf_X7_221 dX7_closeBodies_169 (fun S H locs hI hf => ?_)
    exact w_X7_closeBodies_172 hC hR hrec60 hI (lv_sub hl [1, 2, 0] rfl) hf
def f_X7_closeBodies_144 (n : Nat) (rec60 : x_S × Int32 × Int32 → Option (x_S)) (S : x_S) (a1 : Int32) (a3 : Int32) : Option (x_S) :=
f_X7_closeBodies_145 n rec60 S a1 a3 (0 : Int32)
set_option maxHeartbeats 4000000 in
set_option maxRecDepth 100000 in
theorem w_X7_closeBodies_144 {r : x_S} {a1 : Int32} {a3 : Int32} {rec60 : x_S × Int32 × Int32 → Option (x_S)} (hC : x_C p s m args meth c cX7_closeBodies 6 RX7 E A) (hR : x_Rv p l e { frames := 1, cells := 0, slots := 0, locals := 24 } s m args below meth c cX7_closeBodies E A Q (mw E ad r)) (hrec60 : ∀ z : x_S × Int32 × Int32, rec60 z = some r → ∀ (H : Heap) (locs : List Loc) (ls : Array Slot), x_I E A s.heap (mw E ad z.1) H locs → lv_has ls 6 [(0, .ref (ad 799)), (1, .int z.2.1), (2, .int z.2.2)] → W p l e { frames := 1, cells := 0, slots := 0, locals := 24 } s m args below meth c H locs 0 0 Q (F0 m 60 ls [])) (hI : x_I E A s.heap (mw E ad S) H locs) (hl : lv_has ls 6 [(0, .ref (ad 799)), (1, .int a1), (3, .int a3)]) (hf : f_X7_closeBodies_144 n rec60 S a1 a3 = some r) : W p l e { frames := 1, cells := 0, slots := 0, locals := 24 } s m args below meth c H locs 0 0 Q (F0 m 144 ls []) := by
  obtain ⟨hx, hb, hml, hown, hts, hK, hN, hA⟩ := id hC
  unfold f_X7_closeBodies_144 at hf
  refine lv_iconst (v := (0 : Int32)) hx hb dX7_closeBodies_144 (by decide) ?_
  exact w_X7_closeBodies_145 hC hR hrec60 hI (lv_sub hl [0, 1, 2] rfl) hf
def f_X7_closeBodies_116 (n : Nat) (rec60 : x_S × Int32 × Int32 → Option (x_S)) (S : x_S) (a1 : Int32) (a3 : Int32) (a4 : Int32) : Option (x_S) :=
x_let (g_sc S 715) (fun v5 =>
if v5 ≤ a1 then
f_X7_closeBodies_144 n rec60 S a1 a3
else
if a4 = (-1 : Int32) then
f_X7_closeBodies_144 n rec60 S a1 a3
else
x_g (¬ (a4 < 0 ∨ 200 ≤ (a4).toNatClampNeg)) (x_let (g_ar S 720 (a4).toNatClampNeg) (fun v11 =>
if v11 = 0 then
f_X7_closeBodies_145 n rec60 S a1 a3 (1 : Int32)
else
f_X7_closeBodies_144 n rec60 S a1 a3)))
set_option maxHeartbeats 4000000 in
set_option maxRecDepth 100000 in
theorem w_X7_closeBodies_116 {r : x_S} {a1 : Int32} {a3 : Int32} {a4 : Int32} {rec60 : x_S × Int32 × Int32 → Option (x_S)} (hC : x_C p s m args meth c cX7_closeBodies 6 RX7 E A) (hR : x_Rv p l e { frames := 1, cells := 0, slots := 0, locals := 24 } s m args below meth c cX7_closeBodies E A Q (mw E ad r)) (hrec60 : ∀ z : x_S × Int32 × Int32, rec60 z = some r → ∀ (H : Heap) (locs : List Loc) (ls : Array Slot), x_I E A s.heap (mw E ad z.1) H locs → lv_has ls 6 [(0, .ref (ad 799)), (1, .int z.2.1), (2, .int z.2.2)] → W p l e { frames := 1, cells := 0, slots := 0, locals := 24 } s m args below meth c H locs 0 0 Q (F0 m 60 ls [])) (hI : x_I E A s.heap (mw E ad S) H locs) (hl : lv_has ls 6 [(0, .ref (ad 799)), (1, .int a1), (3, .int a3), (4, .int a4)]) (hf : f_X7_closeBodies_116 n rec60 S a1 a3 a4 = some r) : W p l e { frames := 1, cells := 0, slots := 0, locals := 24 } s m args below meth c H locs 0 0 Q (F0 m 116 ls []) := by
  obtain ⟨hx, hb, hml, hown, hts, hK, hN, hA⟩ := id hC
  unfold f_X7_closeBodies_116 at hf
  refine lv_iload_n hx hb dX7_closeBodies_116 rfl (lv_at hl 1 rfl) ?_
  refine lv_aload_n hx hb dX7_closeBodies_117 rfl (lv_at hl 0 rfl) ?_
  refine gX7_15 hC hI hf lkf_X7_160 dX7_closeBodies_118 (fun v5 hf => ?_)
  refine x_ige hC 144 hf dX7_closeBodies_121 (by decide) (fun hf => ?_) (fun hf => ?_)
  · exact w_X7_closeBodies_144 hC hR hrec60 hI (lv_sub hl [0, 1, 2] rfl) hf
  · refine lv_iload hx hb dX7_closeBodies_124 (lv_at hl 3 rfl) ?_
    refine lv_iconst (v := (-1 : Int32)) hx hb dX7_closeBodies_126 (by decide) ?_
    refine x_ieq hC 144 hf dX7_closeBodies_127 (by decide) (fun hf => ?_) (fun hf => ?_)
    · exact w_X7_closeBodies_144 hC hR hrec60 hI (lv_sub hl [0, 1, 2] rfl) hf
    · refine lv_aload_n hx hb dX7_closeBodies_130 rfl (lv_at hl 0 rfl) ?_
      refine gX7_20 hC hI lkf_X7_53 dX7_closeBodies_131 ?_
      refine lv_iload hx hb dX7_closeBodies_134 (lv_at hl 3 rfl) ?_
      refine aX7_20 hC hI hf dX7_closeBodies_136 (fun v11 hf => ?_)
      refine x_ne0 hC 144 hf dX7_closeBodies_137 (by decide) (fun hf => ?_) (fun hf => ?_)
      · exact w_X7_closeBodies_144 hC hR hrec60 hI (lv_sub hl [0, 1, 2] rfl) hf
      · refine lv_iconst (v := (1 : Int32)) hx hb dX7_closeBodies_140 (by decide) ?_
        refine lv_goto (tgt := 145) hx hb dX7_closeBodies_141 (by decide) ?_
        exact w_X7_closeBodies_145 hC hR hrec60 hI (lv_sub hl [0, 1, 2] rfl) hf
def f_X7_closeBodies_79 (n : Nat) (rec60 : x_S × Int32 × Int32 → Option (x_S)) (rec79 : x_S × Int32 × Int32 × Int32 → Option (x_S)) (S : x_S) (a1 : Int32) (a3 : Int32) (a4 : Int32) : Option (x_S) :=
x_let (g_sc S 715) (fun v4 =>
if v4 ≤ a1 then
f_X7_closeBodies_116 n rec60 S a1 a3 a4
else
if a4 = (-1 : Int32) then
f_X7_closeBodies_116 n rec60 S a1 a3 a4
else
x_g (¬ (a4 < 0 ∨ 200 ≤ (a4).toNatClampNeg)) (x_let (g_ar S 719 (a4).toNatClampNeg) (fun v12 =>
if v12 = a3 then
f_X7_closeBodies_116 n rec60 S a1 a3 a4
else
x_g (¬ (a4 < 0 ∨ 200 ≤ (a4).toNatClampNeg)) (x_let (g_ar S 719 (a4).toNatClampNeg) (fun v13 =>
rec79 (S, a1, a3, v13))))))
set_option maxHeartbeats 4000000 in
set_option maxRecDepth 100000 in
theorem w_X7_closeBodies_79 {r : x_S} {a1 : Int32} {a3 : Int32} {a4 : Int32} {rec60 : x_S × Int32 × Int32 → Option (x_S)} {rec79 : x_S × Int32 × Int32 × Int32 → Option (x_S)} (hC : x_C p s m args meth c cX7_closeBodies 6 RX7 E A) (hR : x_Rv p l e { frames := 1, cells := 0, slots := 0, locals := 24 } s m args below meth c cX7_closeBodies E A Q (mw E ad r)) (hrec60 : ∀ z : x_S × Int32 × Int32, rec60 z = some r → ∀ (H : Heap) (locs : List Loc) (ls : Array Slot), x_I E A s.heap (mw E ad z.1) H locs → lv_has ls 6 [(0, .ref (ad 799)), (1, .int z.2.1), (2, .int z.2.2)] → W p l e { frames := 1, cells := 0, slots := 0, locals := 24 } s m args below meth c H locs 0 0 Q (F0 m 60 ls [])) (hrec79 : ∀ z : x_S × Int32 × Int32 × Int32, rec79 z = some r → ∀ (H : Heap) (locs : List Loc) (ls : Array Slot), x_I E A s.heap (mw E ad z.1) H locs → lv_has ls 6 [(0, .ref (ad 799)), (1, .int z.2.1), (3, .int z.2.2.1), (4, .int z.2.2.2)] → W p l e { frames := 1, cells := 0, slots := 0, locals := 24 } s m args below meth c H locs 0 0 Q (F0 m 79 ls [])) (hI : x_I E A s.heap (mw E ad S) H locs) (hl : lv_has ls 6 [(0, .ref (ad 799)), (1, .int a1), (3, .int a3), (4, .int a4)]) (hf : f_X7_closeBodies_79 n rec60 rec79 S a1 a3 a4 = some r) : W p l e { frames := 1, cells := 0, slots := 0, locals := 24 } s m args below meth c H locs 0 0 Q (F0 m 79 ls []) := by
  obtain ⟨hx, hb, hml, hown, hts, hK, hN, hA⟩ := id hC
  unfold f_X7_closeBodies_79 at hf
  refine lv_iload_n hx hb dX7_closeBodies_79 rfl (lv_at hl 1 rfl) ?_
  refine lv_aload_n hx hb dX7_closeBodies_80 rfl (lv_at hl 0 rfl) ?_
  refine gX7_15 hC hI hf lkf_X7_160 dX7_closeBodies_81 (fun v4 hf => ?_)
  refine x_ige hC 116 hf dX7_closeBodies_84 (by decide) (fun hf => ?_) (fun hf => ?_)
  · exact w_X7_closeBodies_116 hC hR hrec60 hI (lv_sub hl [0, 1, 2, 3] rfl) hf
  · refine lv_iload hx hb dX7_closeBodies_87 (lv_at hl 3 rfl) ?_
    refine lv_iconst (v := (-1 : Int32)) hx hb dX7_closeBodies_89 (by decide) ?_
    refine x_ieq hC 116 hf dX7_closeBodies_90 (by decide) (fun hf => ?_) (fun hf => ?_)
    · exact w_X7_closeBodies_116 hC hR hrec60 hI (lv_sub hl [0, 1, 2, 3] rfl) hf
    · refine lv_aload_n hx hb dX7_closeBodies_93 rfl (lv_at hl 0 rfl) ?_
      refine gX7_19 hC hI lkf_X7_50 dX7_closeBodies_94 ?_
      refine lv_iload hx hb dX7_closeBodies_97 (lv_at hl 3 rfl) ?_
      refine aX7_19 hC hI hf dX7_closeBodies_99 (fun v12 hf => ?_)
      refine lv_iload_n hx hb dX7_closeBodies_100 rfl (lv_at hl 2 rfl) ?_
      refine x_ieq hC 116 hf dX7_closeBodies_101 (by decide) (fun hf => ?_) (fun hf => ?_)
      · exact w_X7_closeBodies_116 hC hR hrec60 hI (lv_sub hl [0, 1, 2, 3] rfl) hf
      · refine lv_aload_n hx hb dX7_closeBodies_104 rfl (lv_at hl 0 rfl) ?_
        refine gX7_19 hC hI lkf_X7_50 dX7_closeBodies_105 ?_
        refine lv_iload hx hb dX7_closeBodies_108 (lv_at hl 3 rfl) ?_
        refine aX7_19 hC hI hf dX7_closeBodies_110 (fun v13 hf => ?_)
        refine lv_istore (lv' := [(4, .int v13), (0, .ref (ad 799)), (1, .int a1), (3, .int a3)]) hx hb dX7_closeBodies_111 hl (by decide) rfl (fun ls hl => ?_)
        refine lv_goto (tgt := 79) hx hb dX7_closeBodies_113 (by decide) ?_
        exact hrec79 _ hf _ _ _ hI (lv_sub hl [1, 2, 3, 0] rfl)
theorem w_X7_closeBodies_79_loop {r : x_S} {rec60 : x_S × Int32 × Int32 → Option (x_S)} (hC : x_C p s m args meth c cX7_closeBodies 6 RX7 E A) (hR : x_Rv p l e { frames := 1, cells := 0, slots := 0, locals := 24 } s m args below meth c cX7_closeBodies E A Q (mw E ad r)) (hrec60 : ∀ z : x_S × Int32 × Int32, rec60 z = some r → ∀ (H : Heap) (locs : List Loc) (ls : Array Slot), x_I E A s.heap (mw E ad z.1) H locs → lv_has ls 6 [(0, .ref (ad 799)), (1, .int z.2.1), (2, .int z.2.2)] → W p l e { frames := 1, cells := 0, slots := 0, locals := 24 } s m args below meth c H locs 0 0 Q (F0 m 60 ls [])) : ∀ (k : Nat) (z : x_S × Int32 × Int32 × Int32), x_loop (fun rec z => f_X7_closeBodies_79 n rec60 rec z.1 z.2.1 z.2.2.1 z.2.2.2) k z = some r → ∀ (H : Heap) (locs : List Loc) (ls : Array Slot), x_I E A s.heap (mw E ad z.1) H locs → lv_has ls 6 [(0, .ref (ad 799)), (1, .int z.2.1), (3, .int z.2.2.1), (4, .int z.2.2.2)] → W p l e { frames := 1, cells := 0, slots := 0, locals := 24 } s m args below meth c H locs 0 0 Q (F0 m 79 ls []) :=
  x_loop_ind (P := fun (z : x_S × Int32 × Int32 × Int32) => ∀ (H : Heap) (locs : List Loc) (ls : Array Slot), x_I E A s.heap (mw E ad z.1) H locs → lv_has ls 6 [(0, .ref (ad 799)), (1, .int z.2.1), (3, .int z.2.2.1), (4, .int z.2.2.2)] → W p l e { frames := 1, cells := 0, slots := 0, locals := 24 } s m args below meth c H locs 0 0 Q (F0 m 79 ls [])) (fun rec hrec z hf H locs ls hI hl => w_X7_closeBodies_79 hC hR hrec60 hrec hI hl hf)
def f_X7_closeBodies_60 (n : Nat) (rec60 : x_S × Int32 × Int32 → Option (x_S)) (S : x_S) (a1 : Int32) (a2 : Int32) : Option (x_S) :=
if a2 = 0 then
some S
else
x_let (g_sc S 734) (fun v2 =>
x_g (¬ ((v2 - (1 : Int32)) < 0 ∨ 200 ≤ ((v2 - (1 : Int32))).toNatClampNeg)) (x_let (g_ar S 735 ((v2 - (1 : Int32))).toNatClampNeg) (fun v3 =>
x_loop (fun rec z => f_X7_closeBodies_79 n rec60 rec z.1 z.2.1 z.2.2.1 z.2.2.2) n (S, a1, v3, a1))))
set_option maxHeartbeats 4000000 in
set_option maxRecDepth 100000 in
theorem w_X7_closeBodies_60 {r : x_S} {a1 : Int32} {a2 : Int32} {rec60 : x_S × Int32 × Int32 → Option (x_S)} (hC : x_C p s m args meth c cX7_closeBodies 6 RX7 E A) (hR : x_Rv p l e { frames := 1, cells := 0, slots := 0, locals := 24 } s m args below meth c cX7_closeBodies E A Q (mw E ad r)) (hrec60 : ∀ z : x_S × Int32 × Int32, rec60 z = some r → ∀ (H : Heap) (locs : List Loc) (ls : Array Slot), x_I E A s.heap (mw E ad z.1) H locs → lv_has ls 6 [(0, .ref (ad 799)), (1, .int z.2.1), (2, .int z.2.2)] → W p l e { frames := 1, cells := 0, slots := 0, locals := 24 } s m args below meth c H locs 0 0 Q (F0 m 60 ls [])) (hI : x_I E A s.heap (mw E ad S) H locs) (hl : lv_has ls 6 [(0, .ref (ad 799)), (1, .int a1), (2, .int a2)]) (hf : f_X7_closeBodies_60 n rec60 S a1 a2 = some r) : W p l e { frames := 1, cells := 0, slots := 0, locals := 24 } s m args below meth c H locs 0 0 Q (F0 m 60 ls []) := by
  obtain ⟨hx, hb, hml, hown, hts, hK, hN, hA⟩ := id hC
  unfold f_X7_closeBodies_60 at hf
  refine lv_iload_n hx hb dX7_closeBodies_60 rfl (lv_at hl 2 rfl) ?_
  refine x_eq0 hC 193 hf dX7_closeBodies_61 (by decide) (fun hf => ?_) (fun hf => ?_)
  · obtain rfl := Option.some.inj hf
    exact hR _ _ _ _ hI dX7_closeBodies_193
  · refine lv_aload_n hx hb dX7_closeBodies_64 rfl (lv_at hl 0 rfl) ?_
    refine gX7_35 hC hI lkf_X7_90 dX7_closeBodies_65 ?_
    refine lv_aload_n hx hb dX7_closeBodies_68 rfl (lv_at hl 0 rfl) ?_
    refine gX7_34 hC hI hf lkf_X7_221 dX7_closeBodies_69 (fun v2 hf => ?_)
    refine lv_iconst (v := (1 : Int32)) hx hb dX7_closeBodies_72 (by decide) ?_
    refine lv_isub hx hb dX7_closeBodies_73 ?_
    refine aX7_35 hC hI hf dX7_closeBodies_74 (fun v3 hf => ?_)
    refine lv_istore_n (lv' := [(3, .int v3), (0, .ref (ad 799)), (1, .int a1), (2, .int a2)]) hx hb dX7_closeBodies_75 rfl hl (by decide) rfl (fun ls hl => ?_)
    refine lv_iload_n hx hb dX7_closeBodies_76 rfl (lv_at hl 2 rfl) ?_
    refine lv_istore (lv' := [(4, .int a1), (3, .int v3), (0, .ref (ad 799)), (1, .int a1), (2, .int a2)]) hx hb dX7_closeBodies_77 hl (by decide) rfl (fun ls hl => ?_)
    exact w_X7_closeBodies_79_loop hC hR hrec60 _ _ hf _ _ _ hI (lv_sub hl [2, 3, 1, 0] rfl)
theorem w_X7_closeBodies_60_loop {r : x_S} (hC : x_C p s m args meth c cX7_closeBodies 6 RX7 E A) (hR : x_Rv p l e { frames := 1, cells := 0, slots := 0, locals := 24 } s m args below meth c cX7_closeBodies E A Q (mw E ad r)) : ∀ (k : Nat) (z : x_S × Int32 × Int32), x_loop (fun rec z => f_X7_closeBodies_60 n rec z.1 z.2.1 z.2.2) k z = some r → ∀ (H : Heap) (locs : List Loc) (ls : Array Slot), x_I E A s.heap (mw E ad z.1) H locs → lv_has ls 6 [(0, .ref (ad 799)), (1, .int z.2.1), (2, .int z.2.2)] → W p l e { frames := 1, cells := 0, slots := 0, locals := 24 } s m args below meth c H locs 0 0 Q (F0 m 60 ls []) :=
  x_loop_ind (P := fun (z : x_S × Int32 × Int32) => ∀ (H : Heap) (locs : List Loc) (ls : Array Slot), x_I E A s.heap (mw E ad z.1) H locs → lv_has ls 6 [(0, .ref (ad 799)), (1, .int z.2.1), (2, .int z.2.2)] → W p l e { frames := 1, cells := 0, slots := 0, locals := 24 } s m args below meth c H locs 0 0 Q (F0 m 60 ls [])) (fun rec hrec z hf H locs ls hI hl => w_X7_closeBodies_60 hC hR hrec hI hl hf)
def f_X7_closeBodies_59 (n : Nat) (S : x_S) (a1 : Int32) (t0 : Int32) : Option (x_S) :=
x_loop (fun rec z => f_X7_closeBodies_60 n rec z.1 z.2.1 z.2.2) n (S, a1, t0)
set_option maxHeartbeats 4000000 in
set_option maxRecDepth 100000 in
theorem w_X7_closeBodies_59 {r : x_S} {a1 : Int32} {t0 : Int32} (hC : x_C p s m args meth c cX7_closeBodies 6 RX7 E A) (hR : x_Rv p l e { frames := 1, cells := 0, slots := 0, locals := 24 } s m args below meth c cX7_closeBodies E A Q (mw E ad r)) (hI : x_I E A s.heap (mw E ad S) H locs) (hl : lv_has ls 6 [(0, .ref (ad 799)), (1, .int a1)]) (hf : f_X7_closeBodies_59 n S a1 t0 = some r) : W p l e { frames := 1, cells := 0, slots := 0, locals := 24 } s m args below meth c H locs 0 0 Q (F0 m 59 ls [.int t0]) := by
  obtain ⟨hx, hb, hml, hown, hts, hK, hN, hA⟩ := id hC
  unfold f_X7_closeBodies_59 at hf
  refine lv_istore_n (lv' := [(2, .int t0), (0, .ref (ad 799)), (1, .int a1)]) hx hb dX7_closeBodies_59 rfl hl (by decide) rfl (fun ls hl => ?_)
  exact w_X7_closeBodies_60_loop hC hR _ _ hf _ _ _ hI (lv_sub hl [1, 2, 0] rfl)
def f_X7_closeBodies_47 (n : Nat) (S : x_S) (a1 : Int32) : Option (x_S) :=
x_let (g_sc S 734) (fun v1 =>
if v1 ≤ 0 then
f_X7_closeBodies_59 n S a1 (0 : Int32)
else
f_X7_closeBodies_59 n S a1 (1 : Int32))
set_option maxHeartbeats 4000000 in
set_option maxRecDepth 100000 in
theorem w_X7_closeBodies_47 {r : x_S} {a1 : Int32} (hC : x_C p s m args meth c cX7_closeBodies 6 RX7 E A) (hR : x_Rv p l e { frames := 1, cells := 0, slots := 0, locals := 24 } s m args below meth c cX7_closeBodies E A Q (mw E ad r)) (hI : x_I E A s.heap (mw E ad S) H locs) (hl : lv_has ls 6 [(0, .ref (ad 799)), (1, .int a1)]) (hf : f_X7_closeBodies_47 n S a1 = some r) : W p l e { frames := 1, cells := 0, slots := 0, locals := 24 } s m args below meth c H locs 0 0 Q (F0 m 47 ls []) := by
  obtain ⟨hx, hb, hml, hown, hts, hK, hN, hA⟩ := id hC
  unfold f_X7_closeBodies_47 at hf
  refine lv_aload_n hx hb dX7_closeBodies_47 rfl (lv_at hl 0 rfl) ?_
  refine gX7_34 hC hI hf lkf_X7_221 dX7_closeBodies_48 (fun v1 hf => ?_)
  refine x_le0 hC 58 hf dX7_closeBodies_51 (by decide) (fun hf => ?_) (fun hf => ?_)
  · refine lv_iconst (v := (0 : Int32)) hx hb dX7_closeBodies_58 (by decide) ?_
    exact w_X7_closeBodies_59 hC hR hI (lv_sub hl [0, 1] rfl) hf
  · refine lv_iconst (v := (1 : Int32)) hx hb dX7_closeBodies_54 (by decide) ?_
    refine lv_goto (tgt := 59) hx hb dX7_closeBodies_55 (by decide) ?_
    exact w_X7_closeBodies_59 hC hR hI (lv_sub hl [0, 1] rfl) hf
def f_X7_closeBodies_9 (n : Nat) (S : x_S) (a1 : Int32) : Option (x_S) :=
if a1 ≤ 0 then
f_X7_closeBodies_47 n S a1
else
x_g (¬ ((a1 - (1 : Int32)) < 0 ∨ 200 ≤ ((a1 - (1 : Int32))).toNatClampNeg)) (x_let (g_ar S 716 ((a1 - (1 : Int32))).toNatClampNeg) (fun v14 =>
if v14 = (2 : Int32) then
x_let (g_sc S 734) (fun v15 =>
x_g (¬ (v15 < 0 ∨ 200 ≤ (v15).toNatClampNeg)) (x_let (s_ar S 735 (v15).toNatClampNeg (a1 - (1 : Int32))) (fun S =>
x_let (g_sc S 734) (fun v16 =>
x_let (s_sc S 734 (v16 + (1 : Int32))) (fun S =>
f_X7_closeBodies_47 n S a1)))))
else
f_X7_closeBodies_47 n S a1))
set_option maxHeartbeats 4000000 in
set_option maxRecDepth 100000 in
theorem w_X7_closeBodies_9 {r : x_S} {a1 : Int32} (hC : x_C p s m args meth c cX7_closeBodies 6 RX7 E A) (hR : x_Rv p l e { frames := 1, cells := 0, slots := 0, locals := 24 } s m args below meth c cX7_closeBodies E A Q (mw E ad r)) (hI : x_I E A s.heap (mw E ad S) H locs) (hl : lv_has ls 6 [(0, .ref (ad 799)), (1, .int a1)]) (hf : f_X7_closeBodies_9 n S a1 = some r) : W p l e { frames := 1, cells := 0, slots := 0, locals := 24 } s m args below meth c H locs 0 0 Q (F0 m 9 ls []) := by
  obtain ⟨hx, hb, hml, hown, hts, hK, hN, hA⟩ := id hC
  unfold f_X7_closeBodies_9 at hf
  refine lv_iload_n hx hb dX7_closeBodies_9 rfl (lv_at hl 1 rfl) ?_
  refine x_le0 hC 47 hf dX7_closeBodies_10 (by decide) (fun hf => ?_) (fun hf => ?_)
  · exact w_X7_closeBodies_47 hC hR hI (lv_sub hl [0, 1] rfl) hf
  · refine lv_aload_n hx hb dX7_closeBodies_13 rfl (lv_at hl 0 rfl) ?_
    refine gX7_16 hC hI lkf_X7_41 dX7_closeBodies_14 ?_
    refine lv_iload_n hx hb dX7_closeBodies_17 rfl (lv_at hl 1 rfl) ?_
    refine lv_iconst (v := (1 : Int32)) hx hb dX7_closeBodies_18 (by decide) ?_
    refine lv_isub hx hb dX7_closeBodies_19 ?_
    refine aX7_16 hC hI hf dX7_closeBodies_20 (fun v14 hf => ?_)
    refine lv_iconst (v := (2 : Int32)) hx hb dX7_closeBodies_21 (by decide) ?_
    refine x_ine hC 47 hf dX7_closeBodies_22 (by decide) (fun hf => ?_) (fun hf => ?_)
    · exact w_X7_closeBodies_47 hC hR hI (lv_sub hl [0, 1] rfl) hf
    · refine lv_aload_n hx hb dX7_closeBodies_25 rfl (lv_at hl 0 rfl) ?_
      refine gX7_35 hC hI lkf_X7_90 dX7_closeBodies_26 ?_
      refine lv_aload_n hx hb dX7_closeBodies_29 rfl (lv_at hl 0 rfl) ?_
      refine gX7_34 hC hI hf lkf_X7_221 dX7_closeBodies_30 (fun v15 hf => ?_)
      refine lv_iload_n hx hb dX7_closeBodies_33 rfl (lv_at hl 1 rfl) ?_
      refine lv_iconst (v := (1 : Int32)) hx hb dX7_closeBodies_34 (by decide) ?_
      refine lv_isub hx hb dX7_closeBodies_35 ?_
      refine tX7_35 hC hI hf dX7_closeBodies_36 (fun S H locs hI hf => ?_)
      refine lv_aload_n hx hb dX7_closeBodies_37 rfl (lv_at hl 0 rfl) ?_
      refine lv_dup hx hb dX7_closeBodies_38 rfl ?_
      refine gX7_34 hC hI hf lkf_X7_221 dX7_closeBodies_39 (fun v16 hf => ?_)
      refine lv_iconst (v := (1 : Int32)) hx hb dX7_closeBodies_42 (by decide) ?_
      refine lv_iadd hx hb dX7_closeBodies_43 ?_
      refine pX7_34 hC hI hf lkf_X7_221 dX7_closeBodies_44 (fun S H locs hI hf => ?_)
      exact w_X7_closeBodies_47 hC hR hI (lv_sub hl [0, 1] rfl) hf
def f_X7_closeBodies (n : Nat) (S : x_S) (a1 : Int32) : Option (x_S) :=
if a1 = 0 then
x_let (s_sc S 734 (0 : Int32)) (fun S =>
f_X7_closeBodies_9 n S a1)
else
f_X7_closeBodies_9 n S a1
set_option maxHeartbeats 4000000 in
set_option maxRecDepth 100000 in
theorem w_X7_closeBodies {r : x_S} {a1 : Int32} (hC : x_C p s m args meth c cX7_closeBodies 6 RX7 E A) (hR : x_Rv p l e { frames := 1, cells := 0, slots := 0, locals := 24 } s m args below meth c cX7_closeBodies E A Q (mw E ad r)) (hI : x_I E A s.heap (mw E ad S) H locs) (hl : lv_has ls 6 [(0, .ref (ad 799)), (1, .int a1)]) (hf : f_X7_closeBodies n S a1 = some r) : W p l e { frames := 1, cells := 0, slots := 0, locals := 24 } s m args below meth c H locs 0 0 Q (F0 m 0 ls []) := by
  obtain ⟨hx, hb, hml, hown, hts, hK, hN, hA⟩ := id hC
  unfold f_X7_closeBodies at hf
  refine lv_iload_n hx hb dX7_closeBodies_0 rfl (lv_at hl 1 rfl) ?_
  refine x_ne0 hC 9 hf dX7_closeBodies_1 (by decide) (fun hf => ?_) (fun hf => ?_)
  · exact w_X7_closeBodies_9 hC hR hI (lv_sub hl [0, 1] rfl) hf
  · refine lv_aload_n hx hb dX7_closeBodies_4 rfl (lv_at hl 0 rfl) ?_
    refine lv_iconst (v := (0 : Int32)) hx hb dX7_closeBodies_5 (by decide) ?_
    refine pX7_34 hC hI hf lkf_X7_221 dX7_closeBodies_6 (fun S H locs hI hf => ?_)
    exact w_X7_closeBodies_9 hC hR hI (lv_sub hl [0, 1] rfl) hf
theorem c_X7_closeBodies {a1 : Int32} {S1 : x_S} (hf : f_X7_closeBodies n S a1 = some S1) : x_M l yX7_closeBodies cX7_closeBodies 6 none 1 24 E [.ref (ad 799), .int a1] (mw E ad S) (mw E ad S1) none :=
  x_entV (by decide) (Nat.le_of_ble_eq_true rfl) (fun p e s m args below meth c A Q ls hC hI hR hl => w_X7_closeBodies (r := S1) hC hR hI hl hf)
-- X7_tellAll
def f_X7_tellAll_133 (n : Nat) (rec17 : x_S × Int32 → Option (x_S)) (S : x_S) (a1 : Int32) : Option (x_S) :=
rec17 (S, (a1 + (1 : Int32)))
set_option maxHeartbeats 4000000 in
set_option maxRecDepth 100000 in
theorem w_X7_tellAll_133 {r : x_S} {a1 : Int32} {rec17 : x_S × Int32 → Option (x_S)} (hC : x_C p s m args meth c cX7_tellAll 3 RX7 E A) (hR : x_Rv p l e { frames := 2, cells := 0, slots := 0, locals := 49 } s m args below meth c cX7_tellAll E A Q (mw E ad r)) (hrec17 : ∀ z : x_S × Int32, rec17 z = some r → ∀ (H : Heap) (locs : List Loc) (ls : Array Slot), x_I E A s.heap (mw E ad z.1) H locs → lv_has ls 3 [(0, .ref (ad 799)), (1, .int z.2)] → W p l e { frames := 2, cells := 0, slots := 0, locals := 49 } s m args below meth c H locs 0 0 Q (F0 m 17 ls [])) (hI : x_I E A s.heap (mw E ad S) H locs) (hl : lv_has ls 3 [(0, .ref (ad 799)), (1, .int a1)]) (hf : f_X7_tellAll_133 n rec17 S a1 = some r) : W p l e { frames := 2, cells := 0, slots := 0, locals := 49 } s m args below meth c H locs 0 0 Q (F0 m 133 ls []) := by
  obtain ⟨hx, hb, hml, hown, hts, hK, hN, hA⟩ := id hC
  unfold f_X7_tellAll_133 at hf
  refine lv_iinc (v := (a1 + (1 : Int32))) (lv' := [(1, .int (a1 + (1 : Int32))), (0, .ref (ad 799))]) hx hb dX7_tellAll_133 hl (k := 1) rfl rfl (by decide) rfl (fun ls hl => ?_)
  refine lv_goto (tgt := 17) hx hb dX7_tellAll_136 (by decide) ?_
  exact hrec17 _ hf _ _ _ hI (lv_sub hl [1, 0] rfl)
def f_X7_tellAll_114 (n : Nat) (rec17 : x_S × Int32 → Option (x_S)) (S : x_S) (a1 : Int32) (a2 : Int32) : Option (x_S) :=
x_b (f_X7_in n a2 (1 : Int32) (5 : Int32)) (fun v13 =>
if v13 = 0 then
f_X7_tellAll_133 n rec17 S a1
else
x_b2 (f_X7_countIn n S a1 (0 : Int32)) (fun v15 S =>
x_b (f_X7_tell n S v15) (fun S =>
f_X7_tellAll_133 n rec17 S a1)))
set_option maxHeartbeats 4000000 in
set_option maxRecDepth 100000 in
theorem w_X7_tellAll_114 {r : x_S} {a1 : Int32} {a2 : Int32} {rec17 : x_S × Int32 → Option (x_S)} (hC : x_C p s m args meth c cX7_tellAll 3 RX7 E A) (hR : x_Rv p l e { frames := 2, cells := 0, slots := 0, locals := 49 } s m args below meth c cX7_tellAll E A Q (mw E ad r)) (hrec17 : ∀ z : x_S × Int32, rec17 z = some r → ∀ (H : Heap) (locs : List Loc) (ls : Array Slot), x_I E A s.heap (mw E ad z.1) H locs → lv_has ls 3 [(0, .ref (ad 799)), (1, .int z.2)] → W p l e { frames := 2, cells := 0, slots := 0, locals := 49 } s m args below meth c H locs 0 0 Q (F0 m 17 ls [])) (hI : x_I E A s.heap (mw E ad S) H locs) (hl : lv_has ls 3 [(0, .ref (ad 799)), (1, .int a1), (2, .int a2)]) (hf : f_X7_tellAll_114 n rec17 S a1 a2 = some r) : W p l e { frames := 2, cells := 0, slots := 0, locals := 49 } s m args below meth c H locs 0 0 Q (F0 m 114 ls []) := by
  obtain ⟨hx, hb, hml, hown, hts, hK, hN, hA⟩ := id hC
  unfold f_X7_tellAll_114 at hf
  refine lv_iload_n hx hb dX7_tellAll_114 rfl (lv_at hl 2 rfl) ?_
  refine lv_iconst (v := (1 : Int32)) hx hb dX7_tellAll_115 (by decide) ?_
  refine lv_iconst (v := (5 : Int32)) hx hb dX7_tellAll_116 (by decide) ?_
  obtain ⟨v13, hc12, hf⟩ := x_b_eq hf
  refine x_callS hC hI (c_X7_in hc12) ks_X7_138 rfl ⟨Nat.le_of_ble_eq_true rfl, Nat.le_of_ble_eq_true rfl⟩ ⟨Nat.le_refl _, Nat.le_refl _⟩ hl.1 rfl (Nat.le_of_ble_eq_true rfl) dX7_tellAll_117 (fun H locs hI => ?_)
  refine x_eq0 hC 133 hf dX7_tellAll_120 (by decide) (fun hf => ?_) (fun hf => ?_)
  · exact w_X7_tellAll_133 hC hR hrec17 hI (lv_sub hl [0, 1] rfl) hf
  · refine lv_aload_n hx hb dX7_tellAll_123 rfl (lv_at hl 0 rfl) ?_
    refine lv_aload_n hx hb dX7_tellAll_124 rfl (lv_at hl 0 rfl) ?_
    refine lv_iload_n hx hb dX7_tellAll_125 rfl (lv_at hl 1 rfl) ?_
    refine lv_iconst (v := (0 : Int32)) hx hb dX7_tellAll_126 (by decide) ?_
    obtain ⟨v15, S, hc14, hf⟩ := x_b2_eq hf
    refine x_callV hC hI (c_X7_countIn hc14) 0 7 rfl rfl kv_X7_211 rfl ⟨Nat.le_of_ble_eq_true rfl, Nat.le_of_ble_eq_true rfl⟩ ⟨Nat.le_refl _, Nat.le_refl _⟩ hl.1 rfl (Nat.le_of_ble_eq_true rfl) dX7_tellAll_127 (fun H locs hI => ?_)
    obtain ⟨S, hc16, hf⟩ := x_b_eq hf
    refine x_callV hC hI (c_X7_tell hc16) 0 7 rfl rfl kv_X7_215 rfl ⟨Nat.le_of_ble_eq_true rfl, Nat.le_of_ble_eq_true rfl⟩ ⟨Nat.le_refl _, Nat.le_refl _⟩ hl.1 rfl (Nat.le_of_ble_eq_true rfl) dX7_tellAll_130 (fun H locs hI => ?_)
    exact w_X7_tellAll_133 hC hR hrec17 hI (lv_sub hl [0, 1] rfl) hf
def f_X7_tellAll_104 (n : Nat) (rec17 : x_S × Int32 → Option (x_S)) (S : x_S) (a1 : Int32) (a2 : Int32) : Option (x_S) :=
x_g (¬ (a1 < 0 ∨ 200 ≤ (a1).toNatClampNeg)) (x_let (g_ar S 723 (a1).toNatClampNeg) (fun v10 =>
x_b (f_X7_tell n S v10) (fun S =>
f_X7_tellAll_114 n rec17 S a1 a2)))
set_option maxHeartbeats 4000000 in
set_option maxRecDepth 100000 in
theorem w_X7_tellAll_104 {r : x_S} {a1 : Int32} {a2 : Int32} {rec17 : x_S × Int32 → Option (x_S)} (hC : x_C p s m args meth c cX7_tellAll 3 RX7 E A) (hR : x_Rv p l e { frames := 2, cells := 0, slots := 0, locals := 49 } s m args below meth c cX7_tellAll E A Q (mw E ad r)) (hrec17 : ∀ z : x_S × Int32, rec17 z = some r → ∀ (H : Heap) (locs : List Loc) (ls : Array Slot), x_I E A s.heap (mw E ad z.1) H locs → lv_has ls 3 [(0, .ref (ad 799)), (1, .int z.2)] → W p l e { frames := 2, cells := 0, slots := 0, locals := 49 } s m args below meth c H locs 0 0 Q (F0 m 17 ls [])) (hI : x_I E A s.heap (mw E ad S) H locs) (hl : lv_has ls 3 [(0, .ref (ad 799)), (1, .int a1), (2, .int a2)]) (hf : f_X7_tellAll_104 n rec17 S a1 a2 = some r) : W p l e { frames := 2, cells := 0, slots := 0, locals := 49 } s m args below meth c H locs 0 0 Q (F0 m 104 ls []) := by
  obtain ⟨hx, hb, hml, hown, hts, hK, hN, hA⟩ := id hC
  unfold f_X7_tellAll_104 at hf
  refine lv_aload_n hx hb dX7_tellAll_104 rfl (lv_at hl 0 rfl) ?_
  refine lv_aload_n hx hb dX7_tellAll_105 rfl (lv_at hl 0 rfl) ?_
  refine gX7_23 hC hI lkf_X7_62 dX7_tellAll_106 ?_
  refine lv_iload_n hx hb dX7_tellAll_109 rfl (lv_at hl 1 rfl) ?_
  refine aX7_23 hC hI hf dX7_tellAll_110 (fun v10 hf => ?_)
  obtain ⟨S, hc11, hf⟩ := x_b_eq hf
  refine x_callV hC hI (c_X7_tell hc11) 0 7 rfl rfl kv_X7_215 rfl ⟨Nat.le_of_ble_eq_true rfl, Nat.le_of_ble_eq_true rfl⟩ ⟨Nat.le_refl _, Nat.le_refl _⟩ hl.1 rfl (Nat.le_of_ble_eq_true rfl) dX7_tellAll_111 (fun H locs hI => ?_)
  exact w_X7_tellAll_114 hC hR hrec17 hI (lv_sub hl [0, 1, 2] rfl) hf
def f_X7_tellAll_92 (n : Nat) (rec17 : x_S × Int32 → Option (x_S)) (S : x_S) (a1 : Int32) (a2 : Int32) : Option (x_S) :=
if a2 = (8 : Int32) then
f_X7_tellAll_104 n rec17 S a1 a2
else
if a2 = (11 : Int32) then
f_X7_tellAll_104 n rec17 S a1 a2
else
f_X7_tellAll_114 n rec17 S a1 a2
set_option maxHeartbeats 4000000 in
set_option maxRecDepth 100000 in
theorem w_X7_tellAll_92 {r : x_S} {a1 : Int32} {a2 : Int32} {rec17 : x_S × Int32 → Option (x_S)} (hC : x_C p s m args meth c cX7_tellAll 3 RX7 E A) (hR : x_Rv p l e { frames := 2, cells := 0, slots := 0, locals := 49 } s m args below meth c cX7_tellAll E A Q (mw E ad r)) (hrec17 : ∀ z : x_S × Int32, rec17 z = some r → ∀ (H : Heap) (locs : List Loc) (ls : Array Slot), x_I E A s.heap (mw E ad z.1) H locs → lv_has ls 3 [(0, .ref (ad 799)), (1, .int z.2)] → W p l e { frames := 2, cells := 0, slots := 0, locals := 49 } s m args below meth c H locs 0 0 Q (F0 m 17 ls [])) (hI : x_I E A s.heap (mw E ad S) H locs) (hl : lv_has ls 3 [(0, .ref (ad 799)), (1, .int a1), (2, .int a2)]) (hf : f_X7_tellAll_92 n rec17 S a1 a2 = some r) : W p l e { frames := 2, cells := 0, slots := 0, locals := 49 } s m args below meth c H locs 0 0 Q (F0 m 92 ls []) := by
  obtain ⟨hx, hb, hml, hown, hts, hK, hN, hA⟩ := id hC
  unfold f_X7_tellAll_92 at hf
  refine lv_iload_n hx hb dX7_tellAll_92 rfl (lv_at hl 2 rfl) ?_
  refine lv_bipush (v := (8 : Int32)) hx hb dX7_tellAll_93 (by decide) ?_
  refine x_ieq hC 104 hf dX7_tellAll_95 (by decide) (fun hf => ?_) (fun hf => ?_)
  · exact w_X7_tellAll_104 hC hR hrec17 hI (lv_sub hl [0, 1, 2] rfl) hf
  · refine lv_iload_n hx hb dX7_tellAll_98 rfl (lv_at hl 2 rfl) ?_
    refine lv_bipush (v := (11 : Int32)) hx hb dX7_tellAll_99 (by decide) ?_
    refine x_ine hC 114 hf dX7_tellAll_101 (by decide) (fun hf => ?_) (fun hf => ?_)
    · exact w_X7_tellAll_114 hC hR hrec17 hI (lv_sub hl [0, 1, 2] rfl) hf
    · exact w_X7_tellAll_104 hC hR hrec17 hI (lv_sub hl [0, 1, 2] rfl) hf
def f_X7_tellAll_56 (n : Nat) (rec17 : x_S × Int32 → Option (x_S)) (S : x_S) (a1 : Int32) (a2 : Int32) : Option (x_S) :=
if a2 = (3 : Int32) then
f_X7_tellAll_92 n rec17 S a1 a2
else
x_b (f_X7_in n a2 (6 : Int32) (8 : Int32)) (fun v18 =>
if v18 = 0 then
x_g (¬ (a1 < 0 ∨ 200 ≤ (a1).toNatClampNeg)) (x_let (g_ar S 721 (a1).toNatClampNeg) (fun v19 =>
x_b (f_X7_tell n S v19) (fun S =>
x_g (¬ (a1 < 0 ∨ 200 ≤ (a1).toNatClampNeg)) (x_let (g_ar S 722 (a1).toNatClampNeg) (fun v21 =>
x_b (f_X7_tell n S v21) (fun S =>
f_X7_tellAll_92 n rec17 S a1 a2))))))
else
f_X7_tellAll_92 n rec17 S a1 a2)
set_option maxHeartbeats 4000000 in
set_option maxRecDepth 100000 in
theorem w_X7_tellAll_56 {r : x_S} {a1 : Int32} {a2 : Int32} {rec17 : x_S × Int32 → Option (x_S)} (hC : x_C p s m args meth c cX7_tellAll 3 RX7 E A) (hR : x_Rv p l e { frames := 2, cells := 0, slots := 0, locals := 49 } s m args below meth c cX7_tellAll E A Q (mw E ad r)) (hrec17 : ∀ z : x_S × Int32, rec17 z = some r → ∀ (H : Heap) (locs : List Loc) (ls : Array Slot), x_I E A s.heap (mw E ad z.1) H locs → lv_has ls 3 [(0, .ref (ad 799)), (1, .int z.2)] → W p l e { frames := 2, cells := 0, slots := 0, locals := 49 } s m args below meth c H locs 0 0 Q (F0 m 17 ls [])) (hI : x_I E A s.heap (mw E ad S) H locs) (hl : lv_has ls 3 [(0, .ref (ad 799)), (1, .int a1), (2, .int a2)]) (hf : f_X7_tellAll_56 n rec17 S a1 a2 = some r) : W p l e { frames := 2, cells := 0, slots := 0, locals := 49 } s m args below meth c H locs 0 0 Q (F0 m 56 ls []) := by
  obtain ⟨hx, hb, hml, hown, hts, hK, hN, hA⟩ := id hC
  unfold f_X7_tellAll_56 at hf
  refine lv_iload_n hx hb dX7_tellAll_56 rfl (lv_at hl 2 rfl) ?_
  refine lv_iconst (v := (3 : Int32)) hx hb dX7_tellAll_57 (by decide) ?_
  refine x_ieq hC 92 hf dX7_tellAll_58 (by decide) (fun hf => ?_) (fun hf => ?_)
  · exact w_X7_tellAll_92 hC hR hrec17 hI (lv_sub hl [0, 1, 2] rfl) hf
  · refine lv_iload_n hx hb dX7_tellAll_61 rfl (lv_at hl 2 rfl) ?_
    refine lv_bipush (v := (6 : Int32)) hx hb dX7_tellAll_62 (by decide) ?_
    refine lv_bipush (v := (8 : Int32)) hx hb dX7_tellAll_64 (by decide) ?_
    obtain ⟨v18, hc17, hf⟩ := x_b_eq hf
    refine x_callS hC hI (c_X7_in hc17) ks_X7_138 rfl ⟨Nat.le_of_ble_eq_true rfl, Nat.le_of_ble_eq_true rfl⟩ ⟨Nat.le_refl _, Nat.le_refl _⟩ hl.1 rfl (Nat.le_of_ble_eq_true rfl) dX7_tellAll_66 (fun H locs hI => ?_)
    refine x_ne0 hC 92 hf dX7_tellAll_69 (by decide) (fun hf => ?_) (fun hf => ?_)
    · exact w_X7_tellAll_92 hC hR hrec17 hI (lv_sub hl [0, 1, 2] rfl) hf
    · refine lv_aload_n hx hb dX7_tellAll_72 rfl (lv_at hl 0 rfl) ?_
      refine lv_aload_n hx hb dX7_tellAll_73 rfl (lv_at hl 0 rfl) ?_
      refine gX7_21 hC hI lkf_X7_56 dX7_tellAll_74 ?_
      refine lv_iload_n hx hb dX7_tellAll_77 rfl (lv_at hl 1 rfl) ?_
      refine aX7_21 hC hI hf dX7_tellAll_78 (fun v19 hf => ?_)
      obtain ⟨S, hc20, hf⟩ := x_b_eq hf
      refine x_callV hC hI (c_X7_tell hc20) 0 7 rfl rfl kv_X7_215 rfl ⟨Nat.le_of_ble_eq_true rfl, Nat.le_of_ble_eq_true rfl⟩ ⟨Nat.le_refl _, Nat.le_refl _⟩ hl.1 rfl (Nat.le_of_ble_eq_true rfl) dX7_tellAll_79 (fun H locs hI => ?_)
      refine lv_aload_n hx hb dX7_tellAll_82 rfl (lv_at hl 0 rfl) ?_
      refine lv_aload_n hx hb dX7_tellAll_83 rfl (lv_at hl 0 rfl) ?_
      refine gX7_22 hC hI lkf_X7_59 dX7_tellAll_84 ?_
      refine lv_iload_n hx hb dX7_tellAll_87 rfl (lv_at hl 1 rfl) ?_
      refine aX7_22 hC hI hf dX7_tellAll_88 (fun v21 hf => ?_)
      obtain ⟨S, hc22, hf⟩ := x_b_eq hf
      refine x_callV hC hI (c_X7_tell hc22) 0 7 rfl rfl kv_X7_215 rfl ⟨Nat.le_of_ble_eq_true rfl, Nat.le_of_ble_eq_true rfl⟩ ⟨Nat.le_refl _, Nat.le_refl _⟩ hl.1 rfl (Nat.le_of_ble_eq_true rfl) dX7_tellAll_89 (fun H locs hI => ?_)
      exact w_X7_tellAll_92 hC hR hrec17 hI (lv_sub hl [0, 1, 2] rfl) hf
def f_X7_tellAll_17 (n : Nat) (rec17 : x_S × Int32 → Option (x_S)) (S : x_S) (a1 : Int32) : Option (x_S) :=
x_let (g_sc S 715) (fun v4 =>
if v4 ≤ a1 then
x_let (g_sc S 715) (fun v5 =>
x_b (f_X7_closeBodies n S v5) (fun S =>
some S))
else
x_b (f_X7_closeBodies n S a1) (fun S =>
x_g (¬ (a1 < 0 ∨ 200 ≤ (a1).toNatClampNeg)) (x_let (g_ar S 716 (a1).toNatClampNeg) (fun v8 =>
x_b (f_X7_tell n S v8) (fun S =>
if v8 = 0 then
x_g (¬ (a1 < 0 ∨ 200 ≤ (a1).toNatClampNeg)) (x_let (g_ar S 723 (a1).toNatClampNeg) (fun v23 =>
x_b (f_X7_tell n S v23) (fun S =>
f_X7_tellAll_56 n rec17 S a1 v8)))
else
f_X7_tellAll_56 n rec17 S a1 v8)))))
set_option maxHeartbeats 4000000 in
set_option maxRecDepth 100000 in
theorem w_X7_tellAll_17 {r : x_S} {a1 : Int32} {rec17 : x_S × Int32 → Option (x_S)} (hC : x_C p s m args meth c cX7_tellAll 3 RX7 E A) (hR : x_Rv p l e { frames := 2, cells := 0, slots := 0, locals := 49 } s m args below meth c cX7_tellAll E A Q (mw E ad r)) (hrec17 : ∀ z : x_S × Int32, rec17 z = some r → ∀ (H : Heap) (locs : List Loc) (ls : Array Slot), x_I E A s.heap (mw E ad z.1) H locs → lv_has ls 3 [(0, .ref (ad 799)), (1, .int z.2)] → W p l e { frames := 2, cells := 0, slots := 0, locals := 49 } s m args below meth c H locs 0 0 Q (F0 m 17 ls [])) (hI : x_I E A s.heap (mw E ad S) H locs) (hl : lv_has ls 3 [(0, .ref (ad 799)), (1, .int a1)]) (hf : f_X7_tellAll_17 n rec17 S a1 = some r) : W p l e { frames := 2, cells := 0, slots := 0, locals := 49 } s m args below meth c H locs 0 0 Q (F0 m 17 ls []) := by
  obtain ⟨hx, hb, hml, hown, hts, hK, hN, hA⟩ := id hC
  unfold f_X7_tellAll_17 at hf
  refine lv_iload_n hx hb dX7_tellAll_17 rfl (lv_at hl 1 rfl) ?_
  refine lv_aload_n hx hb dX7_tellAll_18 rfl (lv_at hl 0 rfl) ?_
  refine gX7_15 hC hI hf lkf_X7_160 dX7_tellAll_19 (fun v4 hf => ?_)
  refine x_ige hC 139 hf dX7_tellAll_22 (by decide) (fun hf => ?_) (fun hf => ?_)
  · refine lv_aload_n hx hb dX7_tellAll_139 rfl (lv_at hl 0 rfl) ?_
    refine lv_aload_n hx hb dX7_tellAll_140 rfl (lv_at hl 0 rfl) ?_
    refine gX7_15 hC hI hf lkf_X7_160 dX7_tellAll_141 (fun v5 hf => ?_)
    obtain ⟨S, hc6, hf⟩ := x_b_eq hf
    refine x_callV hC hI (c_X7_closeBodies hc6) 0 7 rfl rfl kv_X7_218 rfl ⟨Nat.le_of_ble_eq_true rfl, Nat.le_of_ble_eq_true rfl⟩ ⟨Nat.le_refl _, Nat.le_refl _⟩ hl.1 rfl (Nat.le_of_ble_eq_true rfl) dX7_tellAll_144 (fun H locs hI => ?_)
    obtain rfl := Option.some.inj hf
    exact hR _ _ _ _ hI dX7_tellAll_147
  · refine lv_aload_n hx hb dX7_tellAll_25 rfl (lv_at hl 0 rfl) ?_
    refine lv_iload_n hx hb dX7_tellAll_26 rfl (lv_at hl 1 rfl) ?_
    obtain ⟨S, hc7, hf⟩ := x_b_eq hf
    refine x_callV hC hI (c_X7_closeBodies hc7) 0 7 rfl rfl kv_X7_218 rfl ⟨Nat.le_of_ble_eq_true rfl, Nat.le_of_ble_eq_true rfl⟩ ⟨Nat.le_refl _, Nat.le_refl _⟩ hl.1 rfl (Nat.le_of_ble_eq_true rfl) dX7_tellAll_27 (fun H locs hI => ?_)
    refine lv_aload_n hx hb dX7_tellAll_30 rfl (lv_at hl 0 rfl) ?_
    refine gX7_16 hC hI lkf_X7_41 dX7_tellAll_31 ?_
    refine lv_iload_n hx hb dX7_tellAll_34 rfl (lv_at hl 1 rfl) ?_
    refine aX7_16 hC hI hf dX7_tellAll_35 (fun v8 hf => ?_)
    refine lv_istore_n (lv' := [(2, .int v8), (0, .ref (ad 799)), (1, .int a1)]) hx hb dX7_tellAll_36 rfl hl (by decide) rfl (fun ls hl => ?_)
    refine lv_aload_n hx hb dX7_tellAll_37 rfl (lv_at hl 1 rfl) ?_
    refine lv_iload_n hx hb dX7_tellAll_38 rfl (lv_at hl 0 rfl) ?_
    obtain ⟨S, hc9, hf⟩ := x_b_eq hf
    refine x_callV hC hI (c_X7_tell hc9) 0 7 rfl rfl kv_X7_215 rfl ⟨Nat.le_of_ble_eq_true rfl, Nat.le_of_ble_eq_true rfl⟩ ⟨Nat.le_refl _, Nat.le_refl _⟩ hl.1 rfl (Nat.le_of_ble_eq_true rfl) dX7_tellAll_39 (fun H locs hI => ?_)
    refine lv_iload_n hx hb dX7_tellAll_42 rfl (lv_at hl 0 rfl) ?_
    refine x_ne0 hC 56 hf dX7_tellAll_43 (by decide) (fun hf => ?_) (fun hf => ?_)
    · exact w_X7_tellAll_56 hC hR hrec17 hI (lv_sub hl [1, 2, 0] rfl) hf
    · refine lv_aload_n hx hb dX7_tellAll_46 rfl (lv_at hl 1 rfl) ?_
      refine lv_aload_n hx hb dX7_tellAll_47 rfl (lv_at hl 1 rfl) ?_
      refine gX7_23 hC hI lkf_X7_62 dX7_tellAll_48 ?_
      refine lv_iload_n hx hb dX7_tellAll_51 rfl (lv_at hl 2 rfl) ?_
      refine aX7_23 hC hI hf dX7_tellAll_52 (fun v23 hf => ?_)
      obtain ⟨S, hc24, hf⟩ := x_b_eq hf
      refine x_callV hC hI (c_X7_tell hc24) 0 7 rfl rfl kv_X7_215 rfl ⟨Nat.le_of_ble_eq_true rfl, Nat.le_of_ble_eq_true rfl⟩ ⟨Nat.le_refl _, Nat.le_refl _⟩ hl.1 rfl (Nat.le_of_ble_eq_true rfl) dX7_tellAll_53 (fun H locs hI => ?_)
      exact w_X7_tellAll_56 hC hR hrec17 hI (lv_sub hl [1, 2, 0] rfl) hf
theorem w_X7_tellAll_17_loop {r : x_S} (hC : x_C p s m args meth c cX7_tellAll 3 RX7 E A) (hR : x_Rv p l e { frames := 2, cells := 0, slots := 0, locals := 49 } s m args below meth c cX7_tellAll E A Q (mw E ad r)) : ∀ (k : Nat) (z : x_S × Int32), x_loop (fun rec z => f_X7_tellAll_17 n rec z.1 z.2) k z = some r → ∀ (H : Heap) (locs : List Loc) (ls : Array Slot), x_I E A s.heap (mw E ad z.1) H locs → lv_has ls 3 [(0, .ref (ad 799)), (1, .int z.2)] → W p l e { frames := 2, cells := 0, slots := 0, locals := 49 } s m args below meth c H locs 0 0 Q (F0 m 17 ls []) :=
  x_loop_ind (P := fun (z : x_S × Int32) => ∀ (H : Heap) (locs : List Loc) (ls : Array Slot), x_I E A s.heap (mw E ad z.1) H locs → lv_has ls 3 [(0, .ref (ad 799)), (1, .int z.2)] → W p l e { frames := 2, cells := 0, slots := 0, locals := 49 } s m args below meth c H locs 0 0 Q (F0 m 17 ls [])) (fun rec hrec z hf H locs ls hI hl => w_X7_tellAll_17 hC hR hrec hI hl hf)
def f_X7_tellAll (n : Nat) (S : x_S) : Option (x_S) :=
x_let (s_sc S 732 (0 : Int32)) (fun S =>
x_b2 (f_X7_countIn n S (-1 : Int32) (0 : Int32)) (fun v2 S =>
x_b (f_X7_tell n S v2) (fun S =>
x_loop (fun rec z => f_X7_tellAll_17 n rec z.1 z.2) n (S, (0 : Int32)))))
set_option maxHeartbeats 4000000 in
set_option maxRecDepth 100000 in
theorem w_X7_tellAll {r : x_S} (hC : x_C p s m args meth c cX7_tellAll 3 RX7 E A) (hR : x_Rv p l e { frames := 2, cells := 0, slots := 0, locals := 49 } s m args below meth c cX7_tellAll E A Q (mw E ad r)) (hI : x_I E A s.heap (mw E ad S) H locs) (hl : lv_has ls 3 [(0, .ref (ad 799))]) (hf : f_X7_tellAll n S = some r) : W p l e { frames := 2, cells := 0, slots := 0, locals := 49 } s m args below meth c H locs 0 0 Q (F0 m 0 ls []) := by
  obtain ⟨hx, hb, hml, hown, hts, hK, hN, hA⟩ := id hC
  unfold f_X7_tellAll at hf
  refine lv_aload_n hx hb dX7_tellAll_0 rfl (lv_at hl 0 rfl) ?_
  refine lv_iconst (v := (0 : Int32)) hx hb dX7_tellAll_1 (by decide) ?_
  refine pX7_32 hC hI hf lkf_X7_208 dX7_tellAll_2 (fun S H locs hI hf => ?_)
  refine lv_aload_n hx hb dX7_tellAll_5 rfl (lv_at hl 0 rfl) ?_
  refine lv_aload_n hx hb dX7_tellAll_6 rfl (lv_at hl 0 rfl) ?_
  refine lv_iconst (v := (-1 : Int32)) hx hb dX7_tellAll_7 (by decide) ?_
  refine lv_iconst (v := (0 : Int32)) hx hb dX7_tellAll_8 (by decide) ?_
  obtain ⟨v2, S, hc1, hf⟩ := x_b2_eq hf
  refine x_callV hC hI (c_X7_countIn hc1) 0 7 rfl rfl kv_X7_211 rfl ⟨Nat.le_of_ble_eq_true rfl, Nat.le_of_ble_eq_true rfl⟩ ⟨Nat.le_refl _, Nat.le_refl _⟩ hl.1 rfl (Nat.le_of_ble_eq_true rfl) dX7_tellAll_9 (fun H locs hI => ?_)
  obtain ⟨S, hc3, hf⟩ := x_b_eq hf
  refine x_callV hC hI (c_X7_tell hc3) 0 7 rfl rfl kv_X7_215 rfl ⟨Nat.le_of_ble_eq_true rfl, Nat.le_of_ble_eq_true rfl⟩ ⟨Nat.le_refl _, Nat.le_refl _⟩ hl.1 rfl (Nat.le_of_ble_eq_true rfl) dX7_tellAll_12 (fun H locs hI => ?_)
  refine lv_iconst (v := (0 : Int32)) hx hb dX7_tellAll_15 (by decide) ?_
  refine lv_istore_n (lv' := [(1, .int (0 : Int32)), (0, .ref (ad 799))]) hx hb dX7_tellAll_16 rfl hl (by decide) rfl (fun ls hl => ?_)
  exact w_X7_tellAll_17_loop hC hR _ _ hf _ _ _ hI (lv_sub hl [1, 0] rfl)
theorem c_X7_tellAll {S1 : x_S} (hf : f_X7_tellAll n S = some S1) : x_M l yX7_tellAll cX7_tellAll 3 none 2 49 E [.ref (ad 799)] (mw E ad S) (mw E ad S1) none :=
  x_entV (by decide) (Nat.le_of_ble_eq_true rfl) (fun p e s m args below meth c A Q ls hC hI hR hl => w_X7_tellAll (r := S1) hC hR hI hl hf)
-- X7_text
def f_X7_text (n : Nat) (S : x_S) (a1 : Int32) (a2 : Int32) : Option (Int32 × x_S) :=
x_b2 (f_X7_isRoutine n S a1) (fun v2 S =>
if v2 = 0 then
some ((-2 : Int32), S)
else
if (-1 : Int32) ≤ a2 then
x_b2 (f_X7_isWhole n S a1) (fun v4 S =>
if v4 = 0 then
some ((-3 : Int32), S)
else
x_b (f_X7_read n S a1) (fun S =>
x_b (f_X7_tellAll n S) (fun S =>
if a2 = (-1 : Int32) then
x_let (g_sc S 732) (fun v11 =>
some (v11, S))
else
x_let (g_sc S 732) (fun v7 =>
x_b (f_X7_in n a2 (0 : Int32) (v7 - (1 : Int32))) (fun v9 =>
if v9 = 0 then
some ((-2 : Int32), S)
else
x_g (¬ (a2 < 0 ∨ 1000 ≤ (a2).toNatClampNeg)) (x_let (g_ar S 731 (a2).toNatClampNeg) (fun v10 =>
some (v10, S))))))))
else
some ((-2 : Int32), S))
set_option maxHeartbeats 4000000 in
set_option maxRecDepth 100000 in
theorem w_X7_text {r : Int32 × x_S} {a1 : Int32} {a2 : Int32} (hC : x_C p s m args meth c cX7_text 3 RX7 E A) (hR : x_Ri p l e { frames := 4, cells := 0, slots := 0, locals := 111 } s m args below meth c cX7_text E A Q (mw E ad r.2) r.1) (hI : x_I E A s.heap (mw E ad S) H locs) (hl : lv_has ls 3 [(0, .ref (ad 799)), (1, .int a1), (2, .int a2)]) (hf : f_X7_text n S a1 a2 = some r) : W p l e { frames := 4, cells := 0, slots := 0, locals := 111 } s m args below meth c H locs 0 0 Q (F0 m 0 ls []) := by
  obtain ⟨hx, hb, hml, hown, hts, hK, hN, hA⟩ := id hC
  unfold f_X7_text at hf
  refine lv_aload_n hx hb dX7_text_0 rfl (lv_at hl 0 rfl) ?_
  refine lv_iload_n hx hb dX7_text_1 rfl (lv_at hl 1 rfl) ?_
  obtain ⟨v2, S, hc1, hf⟩ := x_b2_eq hf
  refine x_callV hC hI (c_X7_isRoutine hc1) 0 7 rfl rfl kv_X7_142 rfl ⟨Nat.le_of_ble_eq_true rfl, Nat.le_of_ble_eq_true rfl⟩ ⟨Nat.le_refl _, Nat.le_refl _⟩ hl.1 rfl (Nat.le_of_ble_eq_true rfl) dX7_text_2 (fun H locs hI => ?_)
  refine x_eq0 hC 13 hf dX7_text_5 (by decide) (fun hf => ?_) (fun hf => ?_)
  · refine lv_bipush (v := (-2 : Int32)) hx hb dX7_text_13 (by decide) ?_
    obtain rfl := Option.some.inj hf
    exact hR _ _ _ _ hI dX7_text_15
  · refine lv_iload_n hx hb dX7_text_8 rfl (lv_at hl 2 rfl) ?_
    refine lv_iconst (v := (-1 : Int32)) hx hb dX7_text_9 (by decide) ?_
    refine x_ige hC 16 hf dX7_text_10 (by decide) (fun hf => ?_) (fun hf => ?_)
    · refine lv_aload_n hx hb dX7_text_16 rfl (lv_at hl 0 rfl) ?_
      refine lv_iload_n hx hb dX7_text_17 rfl (lv_at hl 1 rfl) ?_
      obtain ⟨v4, S, hc3, hf⟩ := x_b2_eq hf
      refine x_callV hC hI (c_X7_isWhole hc3) 0 7 rfl rfl kv_X7_184 rfl ⟨Nat.le_of_ble_eq_true rfl, Nat.le_of_ble_eq_true rfl⟩ ⟨Nat.le_refl _, Nat.le_refl _⟩ hl.1 rfl (Nat.le_of_ble_eq_true rfl) dX7_text_18 (fun H locs hI => ?_)
      refine x_ne0 hC 27 hf dX7_text_21 (by decide) (fun hf => ?_) (fun hf => ?_)
      · refine lv_aload_n hx hb dX7_text_27 rfl (lv_at hl 0 rfl) ?_
        refine lv_iload_n hx hb dX7_text_28 rfl (lv_at hl 1 rfl) ?_
        obtain ⟨S, hc5, hf⟩ := x_b_eq hf
        refine x_callV hC hI (c_X7_read hc5) 0 7 rfl rfl kv_X7_191 rfl ⟨Nat.le_of_ble_eq_true rfl, Nat.le_of_ble_eq_true rfl⟩ ⟨Nat.le_refl _, Nat.le_refl _⟩ hl.1 rfl (Nat.le_of_ble_eq_true rfl) dX7_text_29 (fun H locs hI => ?_)
        refine lv_aload_n hx hb dX7_text_32 rfl (lv_at hl 0 rfl) ?_
        obtain ⟨S, hc6, hf⟩ := x_b_eq hf
        refine x_callV hC hI (c_X7_tellAll hc6) 0 7 rfl rfl kv_X7_224 rfl ⟨Nat.le_of_ble_eq_true rfl, Nat.le_of_ble_eq_true rfl⟩ ⟨Nat.le_refl _, Nat.le_refl _⟩ hl.1 rfl (Nat.le_of_ble_eq_true rfl) dX7_text_33 (fun H locs hI => ?_)
        refine lv_iload_n hx hb dX7_text_36 rfl (lv_at hl 2 rfl) ?_
        refine lv_iconst (v := (-1 : Int32)) hx hb dX7_text_37 (by decide) ?_
        refine x_ine hC 48 hf dX7_text_38 (by decide) (fun hf => ?_) (fun hf => ?_)
        · refine lv_iload_n hx hb dX7_text_48 rfl (lv_at hl 2 rfl) ?_
          refine lv_iconst (v := (0 : Int32)) hx hb dX7_text_49 (by decide) ?_
          refine lv_aload_n hx hb dX7_text_50 rfl (lv_at hl 0 rfl) ?_
          refine gX7_32 hC hI hf lkf_X7_208 dX7_text_51 (fun v7 hf => ?_)
          refine lv_iconst (v := (1 : Int32)) hx hb dX7_text_54 (by decide) ?_
          refine lv_isub hx hb dX7_text_55 ?_
          obtain ⟨v9, hc8, hf⟩ := x_b_eq hf
          refine x_callS hC hI (c_X7_in hc8) ks_X7_138 rfl ⟨Nat.le_of_ble_eq_true rfl, Nat.le_of_ble_eq_true rfl⟩ ⟨Nat.le_refl _, Nat.le_refl _⟩ hl.1 rfl (Nat.le_of_ble_eq_true rfl) dX7_text_56 (fun H locs hI => ?_)
          refine x_eq0 hC 71 hf dX7_text_59 (by decide) (fun hf => ?_) (fun hf => ?_)
          · refine lv_bipush (v := (-2 : Int32)) hx hb dX7_text_71 (by decide) ?_
            obtain rfl := Option.some.inj hf
            exact hR _ _ _ _ hI dX7_text_73
          · refine lv_aload_n hx hb dX7_text_62 rfl (lv_at hl 0 rfl) ?_
            refine gX7_31 hC hI lkf_X7_83 dX7_text_63 ?_
            refine lv_iload_n hx hb dX7_text_66 rfl (lv_at hl 2 rfl) ?_
            refine aX7_31 hC hI hf dX7_text_67 (fun v10 hf => ?_)
            refine lv_goto (tgt := 73) hx hb dX7_text_68 (by decide) ?_
            obtain rfl := Option.some.inj hf
            exact hR _ _ _ _ hI dX7_text_73
        · refine lv_aload_n hx hb dX7_text_41 rfl (lv_at hl 0 rfl) ?_
          refine gX7_32 hC hI hf lkf_X7_208 dX7_text_42 (fun v11 hf => ?_)
          refine lv_goto (tgt := 73) hx hb dX7_text_45 (by decide) ?_
          obtain rfl := Option.some.inj hf
          exact hR _ _ _ _ hI dX7_text_73
      · refine lv_bipush (v := (-3 : Int32)) hx hb dX7_text_24 (by decide) ?_
        obtain rfl := Option.some.inj hf
        exact hR _ _ _ _ hI dX7_text_26
    · refine lv_bipush (v := (-2 : Int32)) hx hb dX7_text_13 (by decide) ?_
      obtain rfl := Option.some.inj hf
      exact hR _ _ _ _ hI dX7_text_15
theorem c_X7_text {a1 : Int32} {a2 : Int32} {v : Int32} {S1 : x_S} (hf : f_X7_text n S a1 a2 = some (v, S1)) : x_M l yX7_text cX7_text 3 (some .int) 4 111 E [.ref (ad 799), .int a1, .int a2] (mw E ad S) (mw E ad S1) (some (.int v)) :=
  x_entI (by decide) (Nat.le_of_ble_eq_true rfl) (fun p e s m args below meth c A Q ls hC hI hR hl => w_X7_text (r := (v, S1)) hC hR hI hl hf)
-- X7_feed
def f_X7_feed (n : Nat) (S : x_S) (a1 : Int32) : Option (Int32 × x_S) :=
x_let (g_sc S 708) (fun v1 =>
if v1 = (300 : Int32) then
some ((-4 : Int32), S)
else
x_let (g_sc S 708) (fun v2 =>
x_g (¬ (v2 < 0 ∨ 300 ≤ (v2).toNatClampNeg)) (x_let (s_ar S 707 (v2).toNatClampNeg a1) (fun S =>
x_let (g_sc S 708) (fun v3 =>
x_let (s_sc S 708 (v3 + (1 : Int32))) (fun S =>
x_let (g_sc S 708) (fun v4 =>
some (v4, S))))))))
set_option maxHeartbeats 4000000 in
set_option maxRecDepth 100000 in
theorem w_X7_feed {r : Int32 × x_S} {a1 : Int32} (hC : x_C p s m args meth c cX7_feed 2 RX7 E A) (hR : x_Ri p l e { frames := 0, cells := 0, slots := 0, locals := 0 } s m args below meth c cX7_feed E A Q (mw E ad r.2) r.1) (hI : x_I E A s.heap (mw E ad S) H locs) (hl : lv_has ls 2 [(0, .ref (ad 799)), (1, .int a1)]) (hf : f_X7_feed n S a1 = some r) : W p l e { frames := 0, cells := 0, slots := 0, locals := 0 } s m args below meth c H locs 0 0 Q (F0 m 0 ls []) := by
  obtain ⟨hx, hb, hml, hown, hts, hK, hN, hA⟩ := id hC
  unfold f_X7_feed at hf
  refine lv_aload_n hx hb dX7_feed_0 rfl (lv_at hl 0 rfl) ?_
  refine gX7_8 hC hI hf lkf_X7_227 dX7_feed_1 (fun v1 hf => ?_)
  refine lv_sipush (v := (300 : Int32)) hx hb dX7_feed_4 (by decide) ?_
  refine x_ine hC 13 hf dX7_feed_7 (by decide) (fun hf => ?_) (fun hf => ?_)
  · refine lv_aload_n hx hb dX7_feed_13 rfl (lv_at hl 0 rfl) ?_
    refine gX7_7 hC hI lkf_X7_28 dX7_feed_14 ?_
    refine lv_aload_n hx hb dX7_feed_17 rfl (lv_at hl 0 rfl) ?_
    refine gX7_8 hC hI hf lkf_X7_227 dX7_feed_18 (fun v2 hf => ?_)
    refine lv_iload_n hx hb dX7_feed_21 rfl (lv_at hl 1 rfl) ?_
    refine tX7_7 hC hI hf dX7_feed_22 (fun S H locs hI hf => ?_)
    refine lv_aload_n hx hb dX7_feed_23 rfl (lv_at hl 0 rfl) ?_
    refine lv_dup hx hb dX7_feed_24 rfl ?_
    refine gX7_8 hC hI hf lkf_X7_227 dX7_feed_25 (fun v3 hf => ?_)
    refine lv_iconst (v := (1 : Int32)) hx hb dX7_feed_28 (by decide) ?_
    refine lv_iadd hx hb dX7_feed_29 ?_
    refine pX7_8 hC hI hf lkf_X7_227 dX7_feed_30 (fun S H locs hI hf => ?_)
    refine lv_aload_n hx hb dX7_feed_33 rfl (lv_at hl 0 rfl) ?_
    refine gX7_8 hC hI hf lkf_X7_227 dX7_feed_34 (fun v4 hf => ?_)
    obtain rfl := Option.some.inj hf
    exact hR _ _ _ _ hI dX7_feed_37
  · refine lv_bipush (v := (-4 : Int32)) hx hb dX7_feed_10 (by decide) ?_
    obtain rfl := Option.some.inj hf
    exact hR _ _ _ _ hI dX7_feed_12
theorem c_X7_feed {a1 : Int32} {v : Int32} {S1 : x_S} (hf : f_X7_feed n S a1 = some (v, S1)) : x_M l yX7_feed cX7_feed 2 (some .int) 0 0 E [.ref (ad 799), .int a1] (mw E ad S) (mw E ad S1) (some (.int v)) :=
  x_entI (by decide) (Nat.le_of_ble_eq_true rfl) (fun p e s m args below meth c A Q ls hC hI hR hl => w_X7_feed (r := (v, S1)) hC hR hI hl hf)
-- X7_copy
def f_X7_copy_51 (n : Nat) (rec51 : x_S × Int32 → Option (Int32 × x_S)) (S : x_S) (a2 : Int32) : Option (Int32 × x_S) :=
x_let (g_sc S 732) (fun v9 =>
if v9 ≤ a2 then
x_let (g_sc S 708) (fun v10 =>
x_let (g_sc S 732) (fun v11 =>
x_let (s_sc S 708 (v10 + v11)) (fun S =>
x_let (g_sc S 708) (fun v12 =>
some (v12, S)))))
else
x_let (g_sc S 708) (fun v13 =>
x_g (¬ (a2 < 0 ∨ 1000 ≤ (a2).toNatClampNeg)) (x_let (g_ar S 731 (a2).toNatClampNeg) (fun v14 =>
x_g (¬ ((v13 + a2) < 0 ∨ 300 ≤ ((v13 + a2)).toNatClampNeg)) (x_let (s_ar S 707 ((v13 + a2)).toNatClampNeg v14) (fun S =>
rec51 (S, (a2 + (1 : Int32)))))))))
set_option maxHeartbeats 4000000 in
set_option maxRecDepth 100000 in
theorem w_X7_copy_51 {r : Int32 × x_S} {a2 : Int32} {rec51 : x_S × Int32 → Option (Int32 × x_S)} (hC : x_C p s m args meth c cX7_copy 3 RX7 E A) (hR : x_Ri p l e { frames := 4, cells := 0, slots := 0, locals := 111 } s m args below meth c cX7_copy E A Q (mw E ad r.2) r.1) (hrec51 : ∀ z : x_S × Int32, rec51 z = some r → ∀ (H : Heap) (locs : List Loc) (ls : Array Slot), x_I E A s.heap (mw E ad z.1) H locs → lv_has ls 3 [(0, .ref (ad 799)), (2, .int z.2)] → W p l e { frames := 4, cells := 0, slots := 0, locals := 111 } s m args below meth c H locs 0 0 Q (F0 m 51 ls [])) (hI : x_I E A s.heap (mw E ad S) H locs) (hl : lv_has ls 3 [(0, .ref (ad 799)), (2, .int a2)]) (hf : f_X7_copy_51 n rec51 S a2 = some r) : W p l e { frames := 4, cells := 0, slots := 0, locals := 111 } s m args below meth c H locs 0 0 Q (F0 m 51 ls []) := by
  obtain ⟨hx, hb, hml, hown, hts, hK, hN, hA⟩ := id hC
  unfold f_X7_copy_51 at hf
  refine lv_iload_n hx hb dX7_copy_51 rfl (lv_at hl 1 rfl) ?_
  refine lv_aload_n hx hb dX7_copy_52 rfl (lv_at hl 0 rfl) ?_
  refine gX7_32 hC hI hf lkf_X7_208 dX7_copy_53 (fun v9 hf => ?_)
  refine x_ige hC 82 hf dX7_copy_56 (by decide) (fun hf => ?_) (fun hf => ?_)
  · refine lv_aload_n hx hb dX7_copy_82 rfl (lv_at hl 0 rfl) ?_
    refine lv_dup hx hb dX7_copy_83 rfl ?_
    refine gX7_8 hC hI hf lkf_X7_227 dX7_copy_84 (fun v10 hf => ?_)
    refine lv_aload_n hx hb dX7_copy_87 rfl (lv_at hl 0 rfl) ?_
    refine gX7_32 hC hI hf lkf_X7_208 dX7_copy_88 (fun v11 hf => ?_)
    refine lv_iadd hx hb dX7_copy_91 ?_
    refine pX7_8 hC hI hf lkf_X7_227 dX7_copy_92 (fun S H locs hI hf => ?_)
    refine lv_aload_n hx hb dX7_copy_95 rfl (lv_at hl 0 rfl) ?_
    refine gX7_8 hC hI hf lkf_X7_227 dX7_copy_96 (fun v12 hf => ?_)
    obtain rfl := Option.some.inj hf
    exact hR _ _ _ _ hI dX7_copy_99
  · refine lv_aload_n hx hb dX7_copy_59 rfl (lv_at hl 0 rfl) ?_
    refine gX7_7 hC hI lkf_X7_28 dX7_copy_60 ?_
    refine lv_aload_n hx hb dX7_copy_63 rfl (lv_at hl 0 rfl) ?_
    refine gX7_8 hC hI hf lkf_X7_227 dX7_copy_64 (fun v13 hf => ?_)
    refine lv_iload_n hx hb dX7_copy_67 rfl (lv_at hl 1 rfl) ?_
    refine lv_iadd hx hb dX7_copy_68 ?_
    refine lv_aload_n hx hb dX7_copy_69 rfl (lv_at hl 0 rfl) ?_
    refine gX7_31 hC hI lkf_X7_83 dX7_copy_70 ?_
    refine lv_iload_n hx hb dX7_copy_73 rfl (lv_at hl 1 rfl) ?_
    refine aX7_31 hC hI hf dX7_copy_74 (fun v14 hf => ?_)
    refine tX7_7 hC hI hf dX7_copy_75 (fun S H locs hI hf => ?_)
    refine lv_iinc (v := (a2 + (1 : Int32))) (lv' := [(2, .int (a2 + (1 : Int32))), (0, .ref (ad 799))]) hx hb dX7_copy_76 hl (k := 1) rfl rfl (by decide) rfl (fun ls hl => ?_)
    refine lv_goto (tgt := 51) hx hb dX7_copy_79 (by decide) ?_
    exact hrec51 _ hf _ _ _ hI (lv_sub hl [1, 0] rfl)
theorem w_X7_copy_51_loop {r : Int32 × x_S} (hC : x_C p s m args meth c cX7_copy 3 RX7 E A) (hR : x_Ri p l e { frames := 4, cells := 0, slots := 0, locals := 111 } s m args below meth c cX7_copy E A Q (mw E ad r.2) r.1) : ∀ (k : Nat) (z : x_S × Int32), x_loop (fun rec z => f_X7_copy_51 n rec z.1 z.2) k z = some r → ∀ (H : Heap) (locs : List Loc) (ls : Array Slot), x_I E A s.heap (mw E ad z.1) H locs → lv_has ls 3 [(0, .ref (ad 799)), (2, .int z.2)] → W p l e { frames := 4, cells := 0, slots := 0, locals := 111 } s m args below meth c H locs 0 0 Q (F0 m 51 ls []) :=
  x_loop_ind (P := fun (z : x_S × Int32) => ∀ (H : Heap) (locs : List Loc) (ls : Array Slot), x_I E A s.heap (mw E ad z.1) H locs → lv_has ls 3 [(0, .ref (ad 799)), (2, .int z.2)] → W p l e { frames := 4, cells := 0, slots := 0, locals := 111 } s m args below meth c H locs 0 0 Q (F0 m 51 ls [])) (fun rec hrec z hf H locs ls hI hl => w_X7_copy_51 hC hR hrec hI hl hf)
def f_X7_copy (n : Nat) (S : x_S) (a1 : Int32) : Option (Int32 × x_S) :=
x_b2 (f_X7_isRoutine n S a1) (fun v2 S =>
if v2 = 0 then
some ((-2 : Int32), S)
else
x_b2 (f_X7_isWhole n S a1) (fun v4 S =>
if v4 = 0 then
some ((-3 : Int32), S)
else
x_b (f_X7_read n S a1) (fun S =>
x_b (f_X7_tellAll n S) (fun S =>
x_let (g_sc S 708) (fun v7 =>
x_let (g_sc S 732) (fun v8 =>
if (v7 + v8) ≤ (300 : Int32) then
x_loop (fun rec z => f_X7_copy_51 n rec z.1 z.2) n (S, (0 : Int32))
else
some ((-4 : Int32), S)))))))
set_option maxHeartbeats 4000000 in
set_option maxRecDepth 100000 in
theorem w_X7_copy {r : Int32 × x_S} {a1 : Int32} (hC : x_C p s m args meth c cX7_copy 3 RX7 E A) (hR : x_Ri p l e { frames := 4, cells := 0, slots := 0, locals := 111 } s m args below meth c cX7_copy E A Q (mw E ad r.2) r.1) (hI : x_I E A s.heap (mw E ad S) H locs) (hl : lv_has ls 3 [(0, .ref (ad 799)), (1, .int a1)]) (hf : f_X7_copy n S a1 = some r) : W p l e { frames := 4, cells := 0, slots := 0, locals := 111 } s m args below meth c H locs 0 0 Q (F0 m 0 ls []) := by
  obtain ⟨hx, hb, hml, hown, hts, hK, hN, hA⟩ := id hC
  unfold f_X7_copy at hf
  refine lv_aload_n hx hb dX7_copy_0 rfl (lv_at hl 0 rfl) ?_
  refine lv_iload_n hx hb dX7_copy_1 rfl (lv_at hl 1 rfl) ?_
  obtain ⟨v2, S, hc1, hf⟩ := x_b2_eq hf
  refine x_callV hC hI (c_X7_isRoutine hc1) 0 7 rfl rfl kv_X7_142 rfl ⟨Nat.le_of_ble_eq_true rfl, Nat.le_of_ble_eq_true rfl⟩ ⟨Nat.le_refl _, Nat.le_refl _⟩ hl.1 rfl (Nat.le_of_ble_eq_true rfl) dX7_copy_2 (fun H locs hI => ?_)
  refine x_ne0 hC 11 hf dX7_copy_5 (by decide) (fun hf => ?_) (fun hf => ?_)
  · refine lv_aload_n hx hb dX7_copy_11 rfl (lv_at hl 0 rfl) ?_
    refine lv_iload_n hx hb dX7_copy_12 rfl (lv_at hl 1 rfl) ?_
    obtain ⟨v4, S, hc3, hf⟩ := x_b2_eq hf
    refine x_callV hC hI (c_X7_isWhole hc3) 0 7 rfl rfl kv_X7_184 rfl ⟨Nat.le_of_ble_eq_true rfl, Nat.le_of_ble_eq_true rfl⟩ ⟨Nat.le_refl _, Nat.le_refl _⟩ hl.1 rfl (Nat.le_of_ble_eq_true rfl) dX7_copy_13 (fun H locs hI => ?_)
    refine x_ne0 hC 22 hf dX7_copy_16 (by decide) (fun hf => ?_) (fun hf => ?_)
    · refine lv_aload_n hx hb dX7_copy_22 rfl (lv_at hl 0 rfl) ?_
      refine lv_iload_n hx hb dX7_copy_23 rfl (lv_at hl 1 rfl) ?_
      obtain ⟨S, hc5, hf⟩ := x_b_eq hf
      refine x_callV hC hI (c_X7_read hc5) 0 7 rfl rfl kv_X7_191 rfl ⟨Nat.le_of_ble_eq_true rfl, Nat.le_of_ble_eq_true rfl⟩ ⟨Nat.le_refl _, Nat.le_refl _⟩ hl.1 rfl (Nat.le_of_ble_eq_true rfl) dX7_copy_24 (fun H locs hI => ?_)
      refine lv_aload_n hx hb dX7_copy_27 rfl (lv_at hl 0 rfl) ?_
      obtain ⟨S, hc6, hf⟩ := x_b_eq hf
      refine x_callV hC hI (c_X7_tellAll hc6) 0 7 rfl rfl kv_X7_224 rfl ⟨Nat.le_of_ble_eq_true rfl, Nat.le_of_ble_eq_true rfl⟩ ⟨Nat.le_refl _, Nat.le_refl _⟩ hl.1 rfl (Nat.le_of_ble_eq_true rfl) dX7_copy_28 (fun H locs hI => ?_)
      refine lv_aload_n hx hb dX7_copy_31 rfl (lv_at hl 0 rfl) ?_
      refine gX7_8 hC hI hf lkf_X7_227 dX7_copy_32 (fun v7 hf => ?_)
      refine lv_aload_n hx hb dX7_copy_35 rfl (lv_at hl 0 rfl) ?_
      refine gX7_32 hC hI hf lkf_X7_208 dX7_copy_36 (fun v8 hf => ?_)
      refine lv_iadd hx hb dX7_copy_39 ?_
      refine lv_sipush (v := (300 : Int32)) hx hb dX7_copy_40 (by decide) ?_
      refine x_ile hC 49 hf dX7_copy_43 (by decide) (fun hf => ?_) (fun hf => ?_)
      · refine lv_iconst (v := (0 : Int32)) hx hb dX7_copy_49 (by decide) ?_
        refine lv_istore_n (lv' := [(2, .int (0 : Int32)), (0, .ref (ad 799)), (1, .int a1)]) hx hb dX7_copy_50 rfl hl (by decide) rfl (fun ls hl => ?_)
        exact w_X7_copy_51_loop hC hR _ _ hf _ _ _ hI (lv_sub hl [1, 0] rfl)
      · refine lv_bipush (v := (-4 : Int32)) hx hb dX7_copy_46 (by decide) ?_
        obtain rfl := Option.some.inj hf
        exact hR _ _ _ _ hI dX7_copy_48
    · refine lv_bipush (v := (-3 : Int32)) hx hb dX7_copy_19 (by decide) ?_
      obtain rfl := Option.some.inj hf
      exact hR _ _ _ _ hI dX7_copy_21
  · refine lv_bipush (v := (-2 : Int32)) hx hb dX7_copy_8 (by decide) ?_
    obtain rfl := Option.some.inj hf
    exact hR _ _ _ _ hI dX7_copy_10
theorem c_X7_copy {a1 : Int32} {v : Int32} {S1 : x_S} (hf : f_X7_copy n S a1 = some (v, S1)) : x_M l yX7_copy cX7_copy 3 (some .int) 4 111 E [.ref (ad 799), .int a1] (mw E ad S) (mw E ad S1) (some (.int v)) :=
  x_entI (by decide) (Nat.le_of_ble_eq_true rfl) (fun p e s m args below meth c A Q ls hC hI hR hl => w_X7_copy (r := (v, S1)) hC hR hI hl hf)
-- X7_fault
def f_X7_fault (n : Nat) (S : x_S) : Option (Int32 × x_S) :=
x_let (g_sc S 709) (fun v1 =>
some (v1, S))
set_option maxHeartbeats 4000000 in
set_option maxRecDepth 100000 in
theorem w_X7_fault {r : Int32 × x_S} (hC : x_C p s m args meth c cX7_fault 1 RX7 E A) (hR : x_Ri p l e { frames := 0, cells := 0, slots := 0, locals := 0 } s m args below meth c cX7_fault E A Q (mw E ad r.2) r.1) (hI : x_I E A s.heap (mw E ad S) H locs) (hl : lv_has ls 1 [(0, .ref (ad 799))]) (hf : f_X7_fault n S = some r) : W p l e { frames := 0, cells := 0, slots := 0, locals := 0 } s m args below meth c H locs 0 0 Q (F0 m 0 ls []) := by
  obtain ⟨hx, hb, hml, hown, hts, hK, hN, hA⟩ := id hC
  unfold f_X7_fault at hf
  refine lv_aload_n hx hb dX7_fault_0 rfl (lv_at hl 0 rfl) ?_
  refine gX7_9 hC hI hf lkf_X7_31 dX7_fault_1 (fun v1 hf => ?_)
  obtain rfl := Option.some.inj hf
  exact hR _ _ _ _ hI dX7_fault_4
theorem c_X7_fault {v : Int32} {S1 : x_S} (hf : f_X7_fault n S = some (v, S1)) : x_M l yX7_fault cX7_fault 1 (some .int) 0 0 E [.ref (ad 799)] (mw E ad S) (mw E ad S1) (some (.int v)) :=
  x_entI (by decide) (Nat.le_of_ble_eq_true rfl) (fun p e s m args below meth c A Q ls hC hI hR hl => w_X7_fault (r := (v, S1)) hC hR hI hl hf)
-- X7_clear
def f_X7_clear (n : Nat) (S : x_S) : Option (Int32 × x_S) :=
x_let (g_sc S 708) (fun v1 =>
x_let (s_sc S 708 (0 : Int32)) (fun S =>
some (v1, S)))
set_option maxHeartbeats 4000000 in
set_option maxRecDepth 100000 in
theorem w_X7_clear {r : Int32 × x_S} (hC : x_C p s m args meth c cX7_clear 2 RX7 E A) (hR : x_Ri p l e { frames := 0, cells := 0, slots := 0, locals := 0 } s m args below meth c cX7_clear E A Q (mw E ad r.2) r.1) (hI : x_I E A s.heap (mw E ad S) H locs) (hl : lv_has ls 2 [(0, .ref (ad 799))]) (hf : f_X7_clear n S = some r) : W p l e { frames := 0, cells := 0, slots := 0, locals := 0 } s m args below meth c H locs 0 0 Q (F0 m 0 ls []) := by
  obtain ⟨hx, hb, hml, hown, hts, hK, hN, hA⟩ := id hC
  unfold f_X7_clear at hf
  refine lv_aload_n hx hb dX7_clear_0 rfl (lv_at hl 0 rfl) ?_
  refine gX7_8 hC hI hf lkf_X7_227 dX7_clear_1 (fun v1 hf => ?_)
  refine lv_istore_n (lv' := [(1, .int v1), (0, .ref (ad 799))]) hx hb dX7_clear_4 rfl hl (by decide) rfl (fun ls hl => ?_)
  refine lv_aload_n hx hb dX7_clear_5 rfl (lv_at hl 1 rfl) ?_
  refine lv_iconst (v := (0 : Int32)) hx hb dX7_clear_6 (by decide) ?_
  refine pX7_8 hC hI hf lkf_X7_227 dX7_clear_7 (fun S H locs hI hf => ?_)
  refine lv_iload_n hx hb dX7_clear_10 rfl (lv_at hl 0 rfl) ?_
  obtain rfl := Option.some.inj hf
  exact hR _ _ _ _ hI dX7_clear_11
theorem c_X7_clear {v : Int32} {S1 : x_S} (hf : f_X7_clear n S = some (v, S1)) : x_M l yX7_clear cX7_clear 2 (some .int) 0 0 E [.ref (ad 799)] (mw E ad S) (mw E ad S1) (some (.int v)) :=
  x_entI (by decide) (Nat.le_of_ble_eq_true rfl) (fun p e s m args below meth c A Q ls hC hI hR hl => w_X7_clear (r := (v, S1)) hC hR hI hl hf)
end
