section
variable {p : Program} {l : Launch} {e : Env} {s : State} {m : MethodId} {args : Array Value} {below : List Frame} {meth : Method} {c : Code} {H : Heap} {locs : List Loc} {Q : State → Prop}
variable {E : x_E} {A : Nat → Prop} {ls : Array Slot} {ad : Nat → Nat} {ap : Nat → Nat → Nat} {S : x_S} {w : va_W} {n : Nat}
-- X7_write
def f_X7_write_244 (n : Nat) (rec244 : x_S × Int32 × Int32 → Option (Int32 × x_S)) (S : x_S) (a1 : Int32) (a2 : Int32) : Option (Int32 × x_S) :=
x_let (g_sc S 738) (fun v9 =>
if v9 ≤ a2 then
some (a1, S)
else
x_g (¬ (a2 < 0 ∨ 400 ≤ (a2).toNatClampNeg)) (x_let (g_ar S 739 (a2).toNatClampNeg) (fun v10 =>
x_g (¬ (a2 < 0 ∨ 400 ≤ (a2).toNatClampNeg)) (x_let (g_ar S 740 (a2).toNatClampNeg) (fun v11 =>
x_g (¬ (a2 < 0 ∨ 400 ≤ (a2).toNatClampNeg)) (x_let (g_ar S 741 (a2).toNatClampNeg) (fun v12 =>
x_g (¬ (a2 < 0 ∨ 400 ≤ (a2).toNatClampNeg)) (x_let (g_ar S 742 (a2).toNatClampNeg) (fun v13 =>
x_b (f_X7_put n S a1 a2 v10 v11 v12 v13) (fun S =>
rec244 (S, a1, (a2 + (1 : Int32)))))))))))))
set_option maxHeartbeats 4000000 in
set_option maxRecDepth 100000 in
theorem w_X7_write_244 {r : Int32 × x_S} {a1 : Int32} {a2 : Int32} {rec244 : x_S × Int32 × Int32 → Option (Int32 × x_S)} (hC : x_C p s m args meth c cX7_write 3 RX7 E A) (hR : x_Ri p l e { frames := 4, cells := 0, slots := 0, locals := 94 } s m args below meth c cX7_write E A Q (mw E ad r.2) r.1) (hrec244 : ∀ z : x_S × Int32 × Int32, rec244 z = some r → ∀ (H : Heap) (locs : List Loc) (ls : Array Slot), x_I E A s.heap (mw E ad z.1) H locs → lv_has ls 3 [(0, .ref (ad 799)), (1, .int z.2.1), (2, .int z.2.2)] → W p l e { frames := 4, cells := 0, slots := 0, locals := 94 } s m args below meth c H locs 0 0 Q (F0 m 244 ls [])) (hI : x_I E A s.heap (mw E ad S) H locs) (hl : lv_has ls 3 [(0, .ref (ad 799)), (1, .int a1), (2, .int a2)]) (hf : f_X7_write_244 n rec244 S a1 a2 = some r) : W p l e { frames := 4, cells := 0, slots := 0, locals := 94 } s m args below meth c H locs 0 0 Q (F0 m 244 ls []) := by
  obtain ⟨hx, hb, hml, hown, hts, hK, hN, hA⟩ := id hC
  unfold f_X7_write_244 at hf
  refine lv_iload_n hx hb dX7_write_244 rfl (lv_at hl 2 rfl) ?_
  refine lv_aload_n hx hb dX7_write_245 rfl (lv_at hl 0 rfl) ?_
  refine gX7_38 hC hI hf lkf_X7_236 dX7_write_246 (fun v9 hf => ?_)
  refine x_ige hC 288 hf dX7_write_249 (by decide) (fun hf => ?_) (fun hf => ?_)
  · refine lv_iload_n hx hb dX7_write_288 rfl (lv_at hl 1 rfl) ?_
    obtain rfl := Option.some.inj hf
    exact hR _ _ _ _ hI dX7_write_289
  · refine lv_aload_n hx hb dX7_write_252 rfl (lv_at hl 0 rfl) ?_
    refine lv_iload_n hx hb dX7_write_253 rfl (lv_at hl 1 rfl) ?_
    refine lv_iload_n hx hb dX7_write_254 rfl (lv_at hl 2 rfl) ?_
    refine lv_aload_n hx hb dX7_write_255 rfl (lv_at hl 0 rfl) ?_
    refine gX7_39 hC hI lkf_X7_93 dX7_write_256 ?_
    refine lv_iload_n hx hb dX7_write_259 rfl (lv_at hl 2 rfl) ?_
    refine aX7_39 hC hI hf dX7_write_260 (fun v10 hf => ?_)
    refine lv_aload_n hx hb dX7_write_261 rfl (lv_at hl 0 rfl) ?_
    refine gX7_40 hC hI lkf_X7_96 dX7_write_262 ?_
    refine lv_iload_n hx hb dX7_write_265 rfl (lv_at hl 2 rfl) ?_
    refine aX7_40 hC hI hf dX7_write_266 (fun v11 hf => ?_)
    refine lv_aload_n hx hb dX7_write_267 rfl (lv_at hl 0 rfl) ?_
    refine gX7_41 hC hI lkf_X7_99 dX7_write_268 ?_
    refine lv_iload_n hx hb dX7_write_271 rfl (lv_at hl 2 rfl) ?_
    refine aX7_41 hC hI hf dX7_write_272 (fun v12 hf => ?_)
    refine lv_aload_n hx hb dX7_write_273 rfl (lv_at hl 0 rfl) ?_
    refine gX7_42 hC hI lkf_X7_102 dX7_write_274 ?_
    refine lv_iload_n hx hb dX7_write_277 rfl (lv_at hl 2 rfl) ?_
    refine aX7_42 hC hI hf dX7_write_278 (fun v13 hf => ?_)
    obtain ⟨S, hc14, hf⟩ := x_b_eq hf
    refine x_callV hC hI (c_X7_put hc14) 0 7 rfl rfl kv_X7_150 rfl ⟨Nat.le_of_ble_eq_true rfl, Nat.le_of_ble_eq_true rfl⟩ ⟨Nat.le_refl _, Nat.le_refl _⟩ hl.1 rfl (Nat.le_of_ble_eq_true rfl) dX7_write_279 (fun H locs hI => ?_)
    refine lv_iinc (v := (a2 + (1 : Int32))) (lv' := [(2, .int (a2 + (1 : Int32))), (0, .ref (ad 799)), (1, .int a1)]) hx hb dX7_write_282 hl (k := 2) rfl rfl (by decide) rfl (fun ls hl => ?_)
    refine lv_goto (tgt := 244) hx hb dX7_write_285 (by decide) ?_
    exact hrec244 _ hf _ _ _ hI (lv_sub hl [1, 2, 0] rfl)
theorem w_X7_write_244_loop {r : Int32 × x_S} (hC : x_C p s m args meth c cX7_write 3 RX7 E A) (hR : x_Ri p l e { frames := 4, cells := 0, slots := 0, locals := 94 } s m args below meth c cX7_write E A Q (mw E ad r.2) r.1) : ∀ (k : Nat) (z : x_S × Int32 × Int32), x_loop (fun rec z => f_X7_write_244 n rec z.1 z.2.1 z.2.2) k z = some r → ∀ (H : Heap) (locs : List Loc) (ls : Array Slot), x_I E A s.heap (mw E ad z.1) H locs → lv_has ls 3 [(0, .ref (ad 799)), (1, .int z.2.1), (2, .int z.2.2)] → W p l e { frames := 4, cells := 0, slots := 0, locals := 94 } s m args below meth c H locs 0 0 Q (F0 m 244 ls []) :=
  x_loop_ind (P := fun (z : x_S × Int32 × Int32) => ∀ (H : Heap) (locs : List Loc) (ls : Array Slot), x_I E A s.heap (mw E ad z.1) H locs → lv_has ls 3 [(0, .ref (ad 799)), (1, .int z.2.1), (2, .int z.2.2)] → W p l e { frames := 4, cells := 0, slots := 0, locals := 94 } s m args below meth c H locs 0 0 Q (F0 m 244 ls [])) (fun rec hrec z hf H locs ls hI hl => w_X7_write_244 hC hR hrec hI hl hf)
def f_X7_write_189 (n : Nat) (S : x_S) : Option (Int32 × x_S) :=
x_let (s_sc S 708 (0 : Int32)) (fun S =>
x_let (g_sc S 737) (fun v5 =>
if v5 = 0 then
x_let (g_sc S 700) (fun v6 =>
x_let (g_sc S 700) (fun v7 =>
x_let (s_sc S 700 (v7 + (1 : Int32))) (fun S =>
x_let (g_sc S 738) (fun v8 =>
x_g (¬ (v6 < 0 ∨ 12 ≤ (v6).toNatClampNeg)) (x_let (s_ar S 701 (v6).toNatClampNeg v8) (fun S =>
x_loop (fun rec z => f_X7_write_244 n rec z.1 z.2.1 z.2.2) n (S, v6, (0 : Int32))))))))
else
x_let (g_sc S 736) (fun v15 =>
x_let (s_sc S 709 v15) (fun S =>
x_let (g_sc S 737) (fun v16 =>
some (((-10 : Int32) - v16), S))))))
set_option maxHeartbeats 4000000 in
set_option maxRecDepth 100000 in
theorem w_X7_write_189 {r : Int32 × x_S} (hC : x_C p s m args meth c cX7_write 3 RX7 E A) (hR : x_Ri p l e { frames := 4, cells := 0, slots := 0, locals := 94 } s m args below meth c cX7_write E A Q (mw E ad r.2) r.1) (hI : x_I E A s.heap (mw E ad S) H locs) (hl : lv_has ls 3 [(0, .ref (ad 799))]) (hf : f_X7_write_189 n S = some r) : W p l e { frames := 4, cells := 0, slots := 0, locals := 94 } s m args below meth c H locs 0 0 Q (F0 m 189 ls []) := by
  obtain ⟨hx, hb, hml, hown, hts, hK, hN, hA⟩ := id hC
  unfold f_X7_write_189 at hf
  refine lv_aload_n hx hb dX7_write_189 rfl (lv_at hl 0 rfl) ?_
  refine lv_iconst (v := (0 : Int32)) hx hb dX7_write_190 (by decide) ?_
  refine pX7_8 hC hI hf lkf_X7_227 dX7_write_191 (fun S H locs hI hf => ?_)
  refine lv_aload_n hx hb dX7_write_194 rfl (lv_at hl 0 rfl) ?_
  refine gX7_37 hC hI hf lkf_X7_230 dX7_write_195 (fun v5 hf => ?_)
  refine x_eq0 hC 217 hf dX7_write_198 (by decide) (fun hf => ?_) (fun hf => ?_)
  · refine lv_aload_n hx hb dX7_write_217 rfl (lv_at hl 0 rfl) ?_
    refine gX7_0 hC hI hf lkf_X7_135 dX7_write_218 (fun v6 hf => ?_)
    refine lv_istore_n (lv' := [(1, .int v6), (0, .ref (ad 799))]) hx hb dX7_write_221 rfl hl (by decide) rfl (fun ls hl => ?_)
    refine lv_aload_n hx hb dX7_write_222 rfl (lv_at hl 1 rfl) ?_
    refine lv_dup hx hb dX7_write_223 rfl ?_
    refine gX7_0 hC hI hf lkf_X7_135 dX7_write_224 (fun v7 hf => ?_)
    refine lv_iconst (v := (1 : Int32)) hx hb dX7_write_227 (by decide) ?_
    refine lv_iadd hx hb dX7_write_228 ?_
    refine pX7_0 hC hI hf lkf_X7_135 dX7_write_229 (fun S H locs hI hf => ?_)
    refine lv_aload_n hx hb dX7_write_232 rfl (lv_at hl 1 rfl) ?_
    refine gX7_1 hC hI lkf_X7_7 dX7_write_233 ?_
    refine lv_iload_n hx hb dX7_write_236 rfl (lv_at hl 0 rfl) ?_
    refine lv_aload_n hx hb dX7_write_237 rfl (lv_at hl 1 rfl) ?_
    refine gX7_38 hC hI hf lkf_X7_236 dX7_write_238 (fun v8 hf => ?_)
    refine tX7_1 hC hI hf dX7_write_241 (fun S H locs hI hf => ?_)
    refine lv_iconst (v := (0 : Int32)) hx hb dX7_write_242 (by decide) ?_
    refine lv_istore_n (lv' := [(2, .int (0 : Int32)), (1, .int v6), (0, .ref (ad 799))]) hx hb dX7_write_243 rfl hl (by decide) rfl (fun ls hl => ?_)
    exact w_X7_write_244_loop hC hR _ _ hf _ _ _ hI (lv_sub hl [2, 1, 0] rfl)
  · refine lv_aload_n hx hb dX7_write_201 rfl (lv_at hl 0 rfl) ?_
    refine lv_aload_n hx hb dX7_write_202 rfl (lv_at hl 0 rfl) ?_
    refine gX7_36 hC hI hf lkf_X7_233 dX7_write_203 (fun v15 hf => ?_)
    refine pX7_9 hC hI hf lkf_X7_31 dX7_write_206 (fun S H locs hI hf => ?_)
    refine lv_bipush (v := (-10 : Int32)) hx hb dX7_write_209 (by decide) ?_
    refine lv_aload_n hx hb dX7_write_211 rfl (lv_at hl 0 rfl) ?_
    refine gX7_37 hC hI hf lkf_X7_230 dX7_write_212 (fun v16 hf => ?_)
    refine lv_isub hx hb dX7_write_215 ?_
    obtain rfl := Option.some.inj hf
    exact hR _ _ _ _ hI dX7_write_216
def f_X7_write_186 (n : Nat) (S : x_S) (t0 : Int32) : Option (Int32 × x_S) :=
x_let (s_sc S 737 t0) (fun S =>
f_X7_write_189 n S)
set_option maxHeartbeats 4000000 in
set_option maxRecDepth 100000 in
theorem w_X7_write_186 {r : Int32 × x_S} {t0 : Int32} (hC : x_C p s m args meth c cX7_write 3 RX7 E A) (hR : x_Ri p l e { frames := 4, cells := 0, slots := 0, locals := 94 } s m args below meth c cX7_write E A Q (mw E ad r.2) r.1) (hI : x_I E A s.heap (mw E ad S) H locs) (hl : lv_has ls 3 [(0, .ref (ad 799))]) (hf : f_X7_write_186 n S t0 = some r) : W p l e { frames := 4, cells := 0, slots := 0, locals := 94 } s m args below meth c H locs 0 0 Q (F0 m 186 ls [.int t0, .ref (ad 799)]) := by
  obtain ⟨hx, hb, hml, hown, hts, hK, hN, hA⟩ := id hC
  unfold f_X7_write_186 at hf
  refine pX7_37 hC hI hf lkf_X7_230 dX7_write_186 (fun S H locs hI hf => ?_)
  exact w_X7_write_189 hC hR hI (lv_sub hl [0] rfl) hf
def f_X7_write_138 (n : Nat) (rec108 : x_S × Int32 × Int32 → Option (Int32 × x_S)) (S : x_S) (a2 : Int32) (t0 : Int32) : Option (Int32 × x_S) :=
rec108 (S, t0, (a2 + (1 : Int32)))
set_option maxHeartbeats 4000000 in
set_option maxRecDepth 100000 in
theorem w_X7_write_138 {r : Int32 × x_S} {a2 : Int32} {t0 : Int32} {rec108 : x_S × Int32 × Int32 → Option (Int32 × x_S)} (hC : x_C p s m args meth c cX7_write 3 RX7 E A) (hR : x_Ri p l e { frames := 4, cells := 0, slots := 0, locals := 94 } s m args below meth c cX7_write E A Q (mw E ad r.2) r.1) (hrec108 : ∀ z : x_S × Int32 × Int32, rec108 z = some r → ∀ (H : Heap) (locs : List Loc) (ls : Array Slot), x_I E A s.heap (mw E ad z.1) H locs → lv_has ls 3 [(0, .ref (ad 799)), (1, .int z.2.1), (2, .int z.2.2)] → W p l e { frames := 4, cells := 0, slots := 0, locals := 94 } s m args below meth c H locs 0 0 Q (F0 m 108 ls [])) (hI : x_I E A s.heap (mw E ad S) H locs) (hl : lv_has ls 3 [(0, .ref (ad 799)), (2, .int a2)]) (hf : f_X7_write_138 n rec108 S a2 t0 = some r) : W p l e { frames := 4, cells := 0, slots := 0, locals := 94 } s m args below meth c H locs 0 0 Q (F0 m 138 ls [.int t0]) := by
  obtain ⟨hx, hb, hml, hown, hts, hK, hN, hA⟩ := id hC
  unfold f_X7_write_138 at hf
  refine lv_istore_n (lv' := [(1, .int t0), (0, .ref (ad 799)), (2, .int a2)]) hx hb dX7_write_138 rfl hl (by decide) rfl (fun ls hl => ?_)
  refine lv_iinc (v := (a2 + (1 : Int32))) (lv' := [(2, .int (a2 + (1 : Int32))), (1, .int t0), (0, .ref (ad 799))]) hx hb dX7_write_139 hl (k := 2) rfl rfl (by decide) rfl (fun ls hl => ?_)
  refine lv_goto (tgt := 108) hx hb dX7_write_142 (by decide) ?_
  exact hrec108 _ hf _ _ _ hI (lv_sub hl [2, 1, 0] rfl)
def f_X7_write_133 (n : Nat) (rec108 : x_S × Int32 × Int32 → Option (Int32 × x_S)) (S : x_S) (a2 : Int32) : Option (Int32 × x_S) :=
f_X7_write_138 n rec108 S a2 (1 : Int32)
set_option maxHeartbeats 4000000 in
set_option maxRecDepth 100000 in
theorem w_X7_write_133 {r : Int32 × x_S} {a2 : Int32} {rec108 : x_S × Int32 × Int32 → Option (Int32 × x_S)} (hC : x_C p s m args meth c cX7_write 3 RX7 E A) (hR : x_Ri p l e { frames := 4, cells := 0, slots := 0, locals := 94 } s m args below meth c cX7_write E A Q (mw E ad r.2) r.1) (hrec108 : ∀ z : x_S × Int32 × Int32, rec108 z = some r → ∀ (H : Heap) (locs : List Loc) (ls : Array Slot), x_I E A s.heap (mw E ad z.1) H locs → lv_has ls 3 [(0, .ref (ad 799)), (1, .int z.2.1), (2, .int z.2.2)] → W p l e { frames := 4, cells := 0, slots := 0, locals := 94 } s m args below meth c H locs 0 0 Q (F0 m 108 ls [])) (hI : x_I E A s.heap (mw E ad S) H locs) (hl : lv_has ls 3 [(0, .ref (ad 799)), (2, .int a2)]) (hf : f_X7_write_133 n rec108 S a2 = some r) : W p l e { frames := 4, cells := 0, slots := 0, locals := 94 } s m args below meth c H locs 0 0 Q (F0 m 133 ls []) := by
  obtain ⟨hx, hb, hml, hown, hts, hK, hN, hA⟩ := id hC
  unfold f_X7_write_133 at hf
  refine lv_iconst (v := (1 : Int32)) hx hb dX7_write_133 (by decide) ?_
  refine lv_goto (tgt := 138) hx hb dX7_write_134 (by decide) ?_
  exact w_X7_write_138 hC hR hrec108 hI (lv_sub hl [0, 1] rfl) hf
def f_X7_write_108 (n : Nat) (rec108 : x_S × Int32 × Int32 → Option (Int32 × x_S)) (S : x_S) (a1 : Int32) (a2 : Int32) : Option (Int32 × x_S) :=
x_let (g_sc S 738) (fun v17 =>
if v17 ≤ a2 then
x_let (g_sc S 736) (fun v18 =>
x_let (g_sc S 708) (fun v19 =>
if v19 ≤ v18 then
x_let (g_sc S 738) (fun v20 =>
if v20 ≤ (60 : Int32) then
if a1 = 0 then
f_X7_write_186 n S (0 : Int32)
else
f_X7_write_186 n S (9 : Int32)
else
f_X7_write_186 n S (8 : Int32))
else
f_X7_write_186 n S (7 : Int32)))
else
if a1 = 0 then
x_g (¬ (a2 < 0 ∨ 400 ≤ (a2).toNatClampNeg)) (x_let (g_ar S 742 (a2).toNatClampNeg) (fun v21 =>
x_let (g_sc S 738) (fun v22 =>
if v21 ≤ v22 then
f_X7_write_138 n rec108 S a2 (0 : Int32)
else
f_X7_write_133 n rec108 S a2)))
else
f_X7_write_133 n rec108 S a2)
set_option maxHeartbeats 4000000 in
set_option maxRecDepth 100000 in
theorem w_X7_write_108 {r : Int32 × x_S} {a1 : Int32} {a2 : Int32} {rec108 : x_S × Int32 × Int32 → Option (Int32 × x_S)} (hC : x_C p s m args meth c cX7_write 3 RX7 E A) (hR : x_Ri p l e { frames := 4, cells := 0, slots := 0, locals := 94 } s m args below meth c cX7_write E A Q (mw E ad r.2) r.1) (hrec108 : ∀ z : x_S × Int32 × Int32, rec108 z = some r → ∀ (H : Heap) (locs : List Loc) (ls : Array Slot), x_I E A s.heap (mw E ad z.1) H locs → lv_has ls 3 [(0, .ref (ad 799)), (1, .int z.2.1), (2, .int z.2.2)] → W p l e { frames := 4, cells := 0, slots := 0, locals := 94 } s m args below meth c H locs 0 0 Q (F0 m 108 ls [])) (hI : x_I E A s.heap (mw E ad S) H locs) (hl : lv_has ls 3 [(0, .ref (ad 799)), (1, .int a1), (2, .int a2)]) (hf : f_X7_write_108 n rec108 S a1 a2 = some r) : W p l e { frames := 4, cells := 0, slots := 0, locals := 94 } s m args below meth c H locs 0 0 Q (F0 m 108 ls []) := by
  obtain ⟨hx, hb, hml, hown, hts, hK, hN, hA⟩ := id hC
  unfold f_X7_write_108 at hf
  refine lv_iload_n hx hb dX7_write_108 rfl (lv_at hl 2 rfl) ?_
  refine lv_aload_n hx hb dX7_write_109 rfl (lv_at hl 0 rfl) ?_
  refine gX7_38 hC hI hf lkf_X7_236 dX7_write_110 (fun v17 hf => ?_)
  refine x_ige hC 145 hf dX7_write_113 (by decide) (fun hf => ?_) (fun hf => ?_)
  · refine lv_aload_n hx hb dX7_write_145 rfl (lv_at hl 0 rfl) ?_
    refine lv_aload_n hx hb dX7_write_146 rfl (lv_at hl 0 rfl) ?_
    refine gX7_36 hC hI hf lkf_X7_233 dX7_write_147 (fun v18 hf => ?_)
    refine lv_aload_n hx hb dX7_write_150 rfl (lv_at hl 0 rfl) ?_
    refine gX7_8 hC hI hf lkf_X7_227 dX7_write_151 (fun v19 hf => ?_)
    refine x_ige hC 162 hf dX7_write_154 (by decide) (fun hf => ?_) (fun hf => ?_)
    · refine lv_aload_n hx hb dX7_write_162 rfl (lv_at hl 0 rfl) ?_
      refine gX7_38 hC hI hf lkf_X7_236 dX7_write_163 (fun v20 hf => ?_)
      refine lv_bipush (v := (60 : Int32)) hx hb dX7_write_166 (by decide) ?_
      refine x_ile hC 176 hf dX7_write_168 (by decide) (fun hf => ?_) (fun hf => ?_)
      · refine lv_iload_n hx hb dX7_write_176 rfl (lv_at hl 1 rfl) ?_
        refine x_eq0 hC 185 hf dX7_write_177 (by decide) (fun hf => ?_) (fun hf => ?_)
        · refine lv_iconst (v := (0 : Int32)) hx hb dX7_write_185 (by decide) ?_
          exact w_X7_write_186 hC hR hI (lv_sub hl [0] rfl) hf
        · refine lv_bipush (v := (9 : Int32)) hx hb dX7_write_180 (by decide) ?_
          refine lv_goto (tgt := 186) hx hb dX7_write_182 (by decide) ?_
          exact w_X7_write_186 hC hR hI (lv_sub hl [0] rfl) hf
      · refine lv_bipush (v := (8 : Int32)) hx hb dX7_write_171 (by decide) ?_
        refine lv_goto (tgt := 186) hx hb dX7_write_173 (by decide) ?_
        exact w_X7_write_186 hC hR hI (lv_sub hl [0] rfl) hf
    · refine lv_bipush (v := (7 : Int32)) hx hb dX7_write_157 (by decide) ?_
      refine lv_goto (tgt := 186) hx hb dX7_write_159 (by decide) ?_
      exact w_X7_write_186 hC hR hI (lv_sub hl [0] rfl) hf
  · refine lv_iload_n hx hb dX7_write_116 rfl (lv_at hl 1 rfl) ?_
    refine x_ne0 hC 133 hf dX7_write_117 (by decide) (fun hf => ?_) (fun hf => ?_)
    · exact w_X7_write_133 hC hR hrec108 hI (lv_sub hl [0, 2] rfl) hf
    · refine lv_aload_n hx hb dX7_write_120 rfl (lv_at hl 0 rfl) ?_
      refine gX7_42 hC hI lkf_X7_102 dX7_write_121 ?_
      refine lv_iload_n hx hb dX7_write_124 rfl (lv_at hl 2 rfl) ?_
      refine aX7_42 hC hI hf dX7_write_125 (fun v21 hf => ?_)
      refine lv_aload_n hx hb dX7_write_126 rfl (lv_at hl 0 rfl) ?_
      refine gX7_38 hC hI hf lkf_X7_236 dX7_write_127 (fun v22 hf => ?_)
      refine x_ile hC 137 hf dX7_write_130 (by decide) (fun hf => ?_) (fun hf => ?_)
      · refine lv_iconst (v := (0 : Int32)) hx hb dX7_write_137 (by decide) ?_
        exact w_X7_write_138 hC hR hrec108 hI (lv_sub hl [0, 2] rfl) hf
      · exact w_X7_write_133 hC hR hrec108 hI (lv_sub hl [0, 2] rfl) hf
theorem w_X7_write_108_loop {r : Int32 × x_S} (hC : x_C p s m args meth c cX7_write 3 RX7 E A) (hR : x_Ri p l e { frames := 4, cells := 0, slots := 0, locals := 94 } s m args below meth c cX7_write E A Q (mw E ad r.2) r.1) : ∀ (k : Nat) (z : x_S × Int32 × Int32), x_loop (fun rec z => f_X7_write_108 n rec z.1 z.2.1 z.2.2) k z = some r → ∀ (H : Heap) (locs : List Loc) (ls : Array Slot), x_I E A s.heap (mw E ad z.1) H locs → lv_has ls 3 [(0, .ref (ad 799)), (1, .int z.2.1), (2, .int z.2.2)] → W p l e { frames := 4, cells := 0, slots := 0, locals := 94 } s m args below meth c H locs 0 0 Q (F0 m 108 ls []) :=
  x_loop_ind (P := fun (z : x_S × Int32 × Int32) => ∀ (H : Heap) (locs : List Loc) (ls : Array Slot), x_I E A s.heap (mw E ad z.1) H locs → lv_has ls 3 [(0, .ref (ad 799)), (1, .int z.2.1), (2, .int z.2.2)] → W p l e { frames := 4, cells := 0, slots := 0, locals := 94 } s m args below meth c H locs 0 0 Q (F0 m 108 ls [])) (fun rec hrec z hf H locs ls hI hl => w_X7_write_108 hC hR hrec hI hl hf)
def f_X7_write_97 (n : Nat) (S : x_S) : Option (Int32 × x_S) :=
x_let (g_sc S 737) (fun v4 =>
if v4 = 0 then
x_loop (fun rec z => f_X7_write_108 n rec z.1 z.2.1 z.2.2) n (S, (0 : Int32), (0 : Int32))
else
f_X7_write_189 n S)
set_option maxHeartbeats 4000000 in
set_option maxRecDepth 100000 in
theorem w_X7_write_97 {r : Int32 × x_S} (hC : x_C p s m args meth c cX7_write 3 RX7 E A) (hR : x_Ri p l e { frames := 4, cells := 0, slots := 0, locals := 94 } s m args below meth c cX7_write E A Q (mw E ad r.2) r.1) (hI : x_I E A s.heap (mw E ad S) H locs) (hl : lv_has ls 3 [(0, .ref (ad 799))]) (hf : f_X7_write_97 n S = some r) : W p l e { frames := 4, cells := 0, slots := 0, locals := 94 } s m args below meth c H locs 0 0 Q (F0 m 97 ls []) := by
  obtain ⟨hx, hb, hml, hown, hts, hK, hN, hA⟩ := id hC
  unfold f_X7_write_97 at hf
  refine lv_aload_n hx hb dX7_write_97 rfl (lv_at hl 0 rfl) ?_
  refine gX7_37 hC hI hf lkf_X7_230 dX7_write_98 (fun v4 hf => ?_)
  refine x_ne0 hC 189 hf dX7_write_101 (by decide) (fun hf => ?_) (fun hf => ?_)
  · exact w_X7_write_189 hC hR hI (lv_sub hl [0] rfl) hf
  · refine lv_iconst (v := (0 : Int32)) hx hb dX7_write_104 (by decide) ?_
    refine lv_istore_n (lv' := [(1, .int (0 : Int32)), (0, .ref (ad 799))]) hx hb dX7_write_105 rfl hl (by decide) rfl (fun ls hl => ?_)
    refine lv_iconst (v := (0 : Int32)) hx hb dX7_write_106 (by decide) ?_
    refine lv_istore_n (lv' := [(2, .int (0 : Int32)), (1, .int (0 : Int32)), (0, .ref (ad 799))]) hx hb dX7_write_107 rfl hl (by decide) rfl (fun ls hl => ?_)
    exact w_X7_write_108_loop hC hR _ _ hf _ _ _ hI (lv_sub hl [2, 1, 0] rfl)
def f_X7_write_40 (n : Nat) (rec40 : x_S → Option (Int32 × x_S)) (S : x_S) : Option (Int32 × x_S) :=
x_let (g_sc S 737) (fun v3 =>
if v3 = 0 then
x_let (g_sc S 745) (fun v23 =>
if v23 ≤ 0 then
f_X7_write_97 n S
else
x_let (g_sc S 745) (fun v24 =>
x_g (¬ ((v24 - (1 : Int32)) < 0 ∨ 64 ≤ ((v24 - (1 : Int32))).toNatClampNeg)) (x_let (g_ar S 746 ((v24 - (1 : Int32))).toNatClampNeg) (fun v25 =>
if v25 ≤ 0 then
x_b (f_X7_endBody n S) (fun S =>
rec40 (S))
else
x_let (g_sc S 745) (fun v27 =>
x_g (¬ ((v27 - (1 : Int32)) < 0 ∨ 64 ≤ ((v27 - (1 : Int32))).toNatClampNeg)) (x_let (g_ar S 746 ((v27 - (1 : Int32))).toNatClampNeg) (fun v28 =>
x_g (¬ ((v27 - (1 : Int32)) < 0 ∨ 64 ≤ ((v27 - (1 : Int32))).toNatClampNeg)) (x_let (s_ar S 746 ((v27 - (1 : Int32))).toNatClampNeg (v28 - (1 : Int32))) (fun S =>
x_b (f_X7_writeStatement n S) (fun S =>
rec40 (S)))))))))))
else
f_X7_write_97 n S)
set_option maxHeartbeats 4000000 in
set_option maxRecDepth 100000 in
theorem w_X7_write_40 {r : Int32 × x_S} {rec40 : x_S → Option (Int32 × x_S)} (hC : x_C p s m args meth c cX7_write 3 RX7 E A) (hR : x_Ri p l e { frames := 4, cells := 0, slots := 0, locals := 94 } s m args below meth c cX7_write E A Q (mw E ad r.2) r.1) (hrec40 : ∀ z : x_S, rec40 z = some r → ∀ (H : Heap) (locs : List Loc) (ls : Array Slot), x_I E A s.heap (mw E ad z) H locs → lv_has ls 3 [(0, .ref (ad 799))] → W p l e { frames := 4, cells := 0, slots := 0, locals := 94 } s m args below meth c H locs 0 0 Q (F0 m 40 ls [])) (hI : x_I E A s.heap (mw E ad S) H locs) (hl : lv_has ls 3 [(0, .ref (ad 799))]) (hf : f_X7_write_40 n rec40 S = some r) : W p l e { frames := 4, cells := 0, slots := 0, locals := 94 } s m args below meth c H locs 0 0 Q (F0 m 40 ls []) := by
  obtain ⟨hx, hb, hml, hown, hts, hK, hN, hA⟩ := id hC
  unfold f_X7_write_40 at hf
  refine lv_aload_n hx hb dX7_write_40 rfl (lv_at hl 0 rfl) ?_
  refine gX7_37 hC hI hf lkf_X7_230 dX7_write_41 (fun v3 hf => ?_)
  refine x_ne0 hC 97 hf dX7_write_44 (by decide) (fun hf => ?_) (fun hf => ?_)
  · exact w_X7_write_97 hC hR hI (lv_sub hl [0] rfl) hf
  · refine lv_aload_n hx hb dX7_write_47 rfl (lv_at hl 0 rfl) ?_
    refine gX7_45 hC hI hf lkf_X7_246 dX7_write_48 (fun v23 hf => ?_)
    refine x_le0 hC 97 hf dX7_write_51 (by decide) (fun hf => ?_) (fun hf => ?_)
    · exact w_X7_write_97 hC hR hI (lv_sub hl [0] rfl) hf
    · refine lv_aload_n hx hb dX7_write_54 rfl (lv_at hl 0 rfl) ?_
      refine gX7_46 hC hI lkf_X7_111 dX7_write_55 ?_
      refine lv_aload_n hx hb dX7_write_58 rfl (lv_at hl 0 rfl) ?_
      refine gX7_45 hC hI hf lkf_X7_246 dX7_write_59 (fun v24 hf => ?_)
      refine lv_iconst (v := (1 : Int32)) hx hb dX7_write_62 (by decide) ?_
      refine lv_isub hx hb dX7_write_63 ?_
      refine aX7_46 hC hI hf dX7_write_64 (fun v25 hf => ?_)
      refine x_le0 hC 90 hf dX7_write_65 (by decide) (fun hf => ?_) (fun hf => ?_)
      · refine lv_aload_n hx hb dX7_write_90 rfl (lv_at hl 0 rfl) ?_
        obtain ⟨S, hc26, hf⟩ := x_b_eq hf
        refine x_callV hC hI (c_X7_endBody hc26) 0 7 rfl rfl kv_X7_275 rfl ⟨Nat.le_of_ble_eq_true rfl, Nat.le_of_ble_eq_true rfl⟩ ⟨Nat.le_refl _, Nat.le_refl _⟩ hl.1 rfl (Nat.le_of_ble_eq_true rfl) dX7_write_91 (fun H locs hI => ?_)
        refine lv_goto (tgt := 40) hx hb dX7_write_94 (by decide) ?_
        exact hrec40 _ hf _ _ _ hI (lv_sub hl [0] rfl)
      · refine lv_aload_n hx hb dX7_write_68 rfl (lv_at hl 0 rfl) ?_
        refine gX7_46 hC hI lkf_X7_111 dX7_write_69 ?_
        refine lv_aload_n hx hb dX7_write_72 rfl (lv_at hl 0 rfl) ?_
        refine gX7_45 hC hI hf lkf_X7_246 dX7_write_73 (fun v27 hf => ?_)
        refine lv_iconst (v := (1 : Int32)) hx hb dX7_write_76 (by decide) ?_
        refine lv_isub hx hb dX7_write_77 ?_
        refine lv_dup2_11 hx hb dX7_write_78 rfl rfl ?_
        refine aX7_46 hC hI hf dX7_write_79 (fun v28 hf => ?_)
        refine lv_iconst (v := (1 : Int32)) hx hb dX7_write_80 (by decide) ?_
        refine lv_isub hx hb dX7_write_81 ?_
        refine tX7_46 hC hI hf dX7_write_82 (fun S H locs hI hf => ?_)
        refine lv_aload_n hx hb dX7_write_83 rfl (lv_at hl 0 rfl) ?_
        obtain ⟨S, hc29, hf⟩ := x_b_eq hf
        refine x_callV hC hI (c_X7_writeStatement hc29) 0 7 rfl rfl kv_X7_272 rfl ⟨Nat.le_of_ble_eq_true rfl, Nat.le_of_ble_eq_true rfl⟩ ⟨Nat.le_refl _, Nat.le_refl _⟩ hl.1 rfl (Nat.le_of_ble_eq_true rfl) dX7_write_84 (fun H locs hI => ?_)
        refine lv_goto (tgt := 40) hx hb dX7_write_87 (by decide) ?_
        exact hrec40 _ hf _ _ _ hI (lv_sub hl [0] rfl)
theorem w_X7_write_40_loop {r : Int32 × x_S} (hC : x_C p s m args meth c cX7_write 3 RX7 E A) (hR : x_Ri p l e { frames := 4, cells := 0, slots := 0, locals := 94 } s m args below meth c cX7_write E A Q (mw E ad r.2) r.1) : ∀ (k : Nat) (z : x_S), x_loop (fun rec z => f_X7_write_40 n rec z) k z = some r → ∀ (H : Heap) (locs : List Loc) (ls : Array Slot), x_I E A s.heap (mw E ad z) H locs → lv_has ls 3 [(0, .ref (ad 799))] → W p l e { frames := 4, cells := 0, slots := 0, locals := 94 } s m args below meth c H locs 0 0 Q (F0 m 40 ls []) :=
  x_loop_ind (P := fun (z : x_S) => ∀ (H : Heap) (locs : List Loc) (ls : Array Slot), x_I E A s.heap (mw E ad z) H locs → lv_has ls 3 [(0, .ref (ad 799))] → W p l e { frames := 4, cells := 0, slots := 0, locals := 94 } s m args below meth c H locs 0 0 Q (F0 m 40 ls [])) (fun rec hrec z hf H locs ls hI hl => w_X7_write_40 hC hR hrec hI hl hf)
def f_X7_write (n : Nat) (S : x_S) : Option (Int32 × x_S) :=
x_let (g_sc S 700) (fun v1 =>
if v1 = (12 : Int32) then
some ((-4 : Int32), S)
else
x_let (s_sc S 736 (0 : Int32)) (fun S =>
x_let (s_sc S 737 (0 : Int32)) (fun S =>
x_let (s_sc S 738 (0 : Int32)) (fun S =>
x_let (s_sc S 745 (0 : Int32)) (fun S =>
x_b (f_X7_beginBody n S (0 : Int32) (0 : Int32) (0 : Int32) (0 : Int32)) (fun S =>
x_loop (fun rec z => f_X7_write_40 n rec z) n (S)))))))
set_option maxHeartbeats 4000000 in
set_option maxRecDepth 100000 in
theorem w_X7_write {r : Int32 × x_S} (hC : x_C p s m args meth c cX7_write 3 RX7 E A) (hR : x_Ri p l e { frames := 4, cells := 0, slots := 0, locals := 94 } s m args below meth c cX7_write E A Q (mw E ad r.2) r.1) (hI : x_I E A s.heap (mw E ad S) H locs) (hl : lv_has ls 3 [(0, .ref (ad 799))]) (hf : f_X7_write n S = some r) : W p l e { frames := 4, cells := 0, slots := 0, locals := 94 } s m args below meth c H locs 0 0 Q (F0 m 0 ls []) := by
  obtain ⟨hx, hb, hml, hown, hts, hK, hN, hA⟩ := id hC
  unfold f_X7_write at hf
  refine lv_aload_n hx hb dX7_write_0 rfl (lv_at hl 0 rfl) ?_
  refine gX7_0 hC hI hf lkf_X7_135 dX7_write_1 (fun v1 hf => ?_)
  refine lv_bipush (v := (12 : Int32)) hx hb dX7_write_4 (by decide) ?_
  refine x_ine hC 12 hf dX7_write_6 (by decide) (fun hf => ?_) (fun hf => ?_)
  · refine lv_aload_n hx hb dX7_write_12 rfl (lv_at hl 0 rfl) ?_
    refine lv_iconst (v := (0 : Int32)) hx hb dX7_write_13 (by decide) ?_
    refine pX7_36 hC hI hf lkf_X7_233 dX7_write_14 (fun S H locs hI hf => ?_)
    refine lv_aload_n hx hb dX7_write_17 rfl (lv_at hl 0 rfl) ?_
    refine lv_iconst (v := (0 : Int32)) hx hb dX7_write_18 (by decide) ?_
    refine pX7_37 hC hI hf lkf_X7_230 dX7_write_19 (fun S H locs hI hf => ?_)
    refine lv_aload_n hx hb dX7_write_22 rfl (lv_at hl 0 rfl) ?_
    refine lv_iconst (v := (0 : Int32)) hx hb dX7_write_23 (by decide) ?_
    refine pX7_38 hC hI hf lkf_X7_236 dX7_write_24 (fun S H locs hI hf => ?_)
    refine lv_aload_n hx hb dX7_write_27 rfl (lv_at hl 0 rfl) ?_
    refine lv_iconst (v := (0 : Int32)) hx hb dX7_write_28 (by decide) ?_
    refine pX7_45 hC hI hf lkf_X7_246 dX7_write_29 (fun S H locs hI hf => ?_)
    refine lv_aload_n hx hb dX7_write_32 rfl (lv_at hl 0 rfl) ?_
    refine lv_iconst (v := (0 : Int32)) hx hb dX7_write_33 (by decide) ?_
    refine lv_iconst (v := (0 : Int32)) hx hb dX7_write_34 (by decide) ?_
    refine lv_iconst (v := (0 : Int32)) hx hb dX7_write_35 (by decide) ?_
    refine lv_iconst (v := (0 : Int32)) hx hb dX7_write_36 (by decide) ?_
    obtain ⟨S, hc2, hf⟩ := x_b_eq hf
    refine x_callV hC hI (c_X7_beginBody hc2) 0 7 rfl rfl kv_X7_266 rfl ⟨Nat.le_of_ble_eq_true rfl, Nat.le_of_ble_eq_true rfl⟩ ⟨Nat.le_refl _, Nat.le_refl _⟩ hl.1 rfl (Nat.le_of_ble_eq_true rfl) dX7_write_37 (fun H locs hI => ?_)
    exact w_X7_write_40_loop hC hR _ _ hf _ _ _ hI (lv_sub hl [0] rfl)
  · refine lv_bipush (v := (-4 : Int32)) hx hb dX7_write_9 (by decide) ?_
    obtain rfl := Option.some.inj hf
    exact hR _ _ _ _ hI dX7_write_11
theorem c_X7_write {v : Int32} {S1 : x_S} (hf : f_X7_write n S = some (v, S1)) : x_M l yX7_write cX7_write 3 (some .int) 4 94 E [.ref (ad 799)] (mw E ad S) (mw E ad S1) (some (.int v)) :=
  x_entI (by decide) (Nat.le_of_ble_eq_true rfl) (fun p e s m args below meth c A Q ls hC hI hR hl => w_X7_write (r := (v, S1)) hC hR hI hl hf)
-- X5_take
def f_X5_take (n : Nat) (S : x_S) : Option (Int32 × x_S) :=
x_let (g_sc S 504) (fun v1 =>
if v1 = 0 then
x_let (g_sc S 501) (fun v2 =>
x_let (g_sc S 503) (fun v3 =>
if v3 ≤ v2 then
x_let (s_sc S 504 (1 : Int32)) (fun S =>
some ((0 : Int32), S))
else
x_let (g_sc S 501) (fun v4 =>
if v4 < (300 : Int32) then
x_o (g_rf S 502) (
x_let (g_sc S 501) (fun v6 =>
none)) (fun i5 =>
x_let (g_sc S 501) (fun v7 =>
x_g (¬ (v7 < 0 ∨ 300 ≤ (v7).toNatClampNeg)) (x_let (g_ar S 605 (v7).toNatClampNeg) (fun v8 =>
x_let (g_sc S 501) (fun v9 =>
x_let (s_sc S 501 (v9 + (1 : Int32))) (fun S =>
some (v8, S)))))))
else
x_let (s_sc S 504 (1 : Int32)) (fun S =>
some ((0 : Int32), S)))))
else
some ((0 : Int32), S))
set_option maxHeartbeats 4000000 in
set_option maxRecDepth 100000 in
theorem w_X5_take {r : Int32 × x_S} (hC : x_C p s m args meth c cX5_take 2 RX5 E A) (hR : x_Ri p l e { frames := 0, cells := 0, slots := 0, locals := 0 } s m args below meth c cX5_take E A Q (cw E ad ap r.2) r.1) (hI : x_I E A s.heap (cw E ad ap S) H locs) (hl : lv_has ls 2 [(0, .ref (ad 599))]) (hf : f_X5_take n S = some r) : W p l e { frames := 0, cells := 0, slots := 0, locals := 0 } s m args below meth c H locs 0 0 Q (F0 m 0 ls []) := by
  obtain ⟨hx, hb, hml, hown, hts, hK, hN, hA⟩ := id hC
  unfold f_X5_take at hf
  refine lv_aload_n hx hb dX5_take_0 rfl (lv_at hl 0 rfl) ?_
  refine gX5_4 hC hI hf lkf_X5_29 dX5_take_1 (fun v1 hf => ?_)
  refine x_eq0 hC 9 hf dX5_take_4 (by decide) (fun hf => ?_) (fun hf => ?_)
  · refine lv_aload_n hx hb dX5_take_9 rfl (lv_at hl 0 rfl) ?_
    refine gX5_1 hC hI hf lkf_X5_18 dX5_take_10 (fun v2 hf => ?_)
    refine lv_aload_n hx hb dX5_take_13 rfl (lv_at hl 0 rfl) ?_
    refine gX5_3 hC hI hf lkf_X5_26 dX5_take_14 (fun v3 hf => ?_)
    refine x_ige hC 30 hf dX5_take_17 (by decide) (fun hf => ?_) (fun hf => ?_)
    · refine lv_aload_n hx hb dX5_take_30 rfl (lv_at hl 0 rfl) ?_
      refine lv_iconst (v := (1 : Int32)) hx hb dX5_take_31 (by decide) ?_
      refine pX5_4 hC hI hf lkf_X5_29 dX5_take_32 (fun S H locs hI hf => ?_)
      refine lv_iconst (v := (0 : Int32)) hx hb dX5_take_35 (by decide) ?_
      obtain rfl := Option.some.inj hf
      exact hR _ _ _ _ hI dX5_take_36
    · refine lv_aload_n hx hb dX5_take_20 rfl (lv_at hl 0 rfl) ?_
      refine gX5_1 hC hI hf lkf_X5_18 dX5_take_21 (fun v4 hf => ?_)
      refine lv_sipush (v := (300 : Int32)) hx hb dX5_take_24 (by decide) ?_
      refine x_ilt hC 37 hf dX5_take_27 (by decide) (fun hf => ?_) (fun hf => ?_)
      · refine lv_aload_n hx hb dX5_take_37 rfl (lv_at hl 0 rfl) ?_
        refine gX5_2 hC hI lkf_X5_22 dX5_take_38 ?_
        refine x_casesN hf (fun hf => ?_) (fun i5 hf => ?_)
        · refine lv_aload_n hx hb dX5_take_41 rfl (lv_at hl 0 rfl) ?_
          refine gX5_1 hC hI hf lkf_X5_18 dX5_take_42 (fun v6 hf => ?_)
          cases hf
        · refine lv_aload_n hx hb dX5_take_41 rfl (lv_at hl 0 rfl) ?_
          refine gX5_1 hC hI hf lkf_X5_18 dX5_take_42 (fun v7 hf => ?_)
          refine aX6_5 hC hI hf dX5_take_45 (fun v8 hf => ?_)
          refine lv_istore_n (lv' := [(1, .int v8), (0, .ref (ad 599))]) hx hb dX5_take_46 rfl hl (by decide) rfl (fun ls hl => ?_)
          refine lv_aload_n hx hb dX5_take_47 rfl (lv_at hl 1 rfl) ?_
          refine lv_dup hx hb dX5_take_48 rfl ?_
          refine gX5_1 hC hI hf lkf_X5_18 dX5_take_49 (fun v9 hf => ?_)
          refine lv_iconst (v := (1 : Int32)) hx hb dX5_take_52 (by decide) ?_
          refine lv_iadd hx hb dX5_take_53 ?_
          refine pX5_1 hC hI hf lkf_X5_18 dX5_take_54 (fun S H locs hI hf => ?_)
          refine lv_iload_n hx hb dX5_take_57 rfl (lv_at hl 0 rfl) ?_
          obtain rfl := Option.some.inj hf
          exact hR _ _ _ _ hI dX5_take_58
      · refine lv_aload_n hx hb dX5_take_30 rfl (lv_at hl 0 rfl) ?_
        refine lv_iconst (v := (1 : Int32)) hx hb dX5_take_31 (by decide) ?_
        refine pX5_4 hC hI hf lkf_X5_29 dX5_take_32 (fun S H locs hI hf => ?_)
        refine lv_iconst (v := (0 : Int32)) hx hb dX5_take_35 (by decide) ?_
        obtain rfl := Option.some.inj hf
        exact hR _ _ _ _ hI dX5_take_36
  · refine lv_iconst (v := (0 : Int32)) hx hb dX5_take_7 (by decide) ?_
    obtain rfl := Option.some.inj hf
    exact hR _ _ _ _ hI dX5_take_8
theorem c_X5_take {v : Int32} {S1 : x_S} (hf : f_X5_take n S = some (v, S1)) : x_M l yX5_take cX5_take 2 (some .int) 0 0 E [.ref (ad 599)] (cw E ad ap S) (cw E ad ap S1) (some (.int v)) :=
  x_entI (by decide) (Nat.le_of_ble_eq_true rfl) (fun p e s m args below meth c A Q ls hC hI hR hl => w_X5_take (r := (v, S1)) hC hR hI hl hf)
-- X5_require
def f_X5_require (n : Nat) (S : x_S) (a1 : Int32) (a2 : Int32) : Option (x_S) :=
if a1 = 0 then
x_let (g_sc S 504) (fun v1 =>
if v1 = 0 then
x_let (s_sc S 504 a2) (fun S =>
x_let (g_sc S 501) (fun v2 =>
x_let (s_sc S 501 (v2 - (1 : Int32))) (fun S =>
some S)))
else
some S)
else
some S
set_option maxHeartbeats 4000000 in
set_option maxRecDepth 100000 in
theorem w_X5_require {r : x_S} {a1 : Int32} {a2 : Int32} (hC : x_C p s m args meth c cX5_require 3 RX5 E A) (hR : x_Rv p l e { frames := 0, cells := 0, slots := 0, locals := 0 } s m args below meth c cX5_require E A Q (cw E ad ap r)) (hI : x_I E A s.heap (cw E ad ap S) H locs) (hl : lv_has ls 3 [(0, .ref (ad 599)), (1, .int a1), (2, .int a2)]) (hf : f_X5_require n S a1 a2 = some r) : W p l e { frames := 0, cells := 0, slots := 0, locals := 0 } s m args below meth c H locs 0 0 Q (F0 m 0 ls []) := by
  obtain ⟨hx, hb, hml, hown, hts, hK, hN, hA⟩ := id hC
  unfold f_X5_require at hf
  refine lv_iload_n hx hb dX5_require_0 rfl (lv_at hl 1 rfl) ?_
  refine x_ne0 hC 26 hf dX5_require_1 (by decide) (fun hf => ?_) (fun hf => ?_)
  · obtain rfl := Option.some.inj hf
    exact hR _ _ _ _ hI dX5_require_26
  · refine lv_aload_n hx hb dX5_require_4 rfl (lv_at hl 0 rfl) ?_
    refine gX5_4 hC hI hf lkf_X5_29 dX5_require_5 (fun v1 hf => ?_)
    refine x_ne0 hC 26 hf dX5_require_8 (by decide) (fun hf => ?_) (fun hf => ?_)
    · obtain rfl := Option.some.inj hf
      exact hR _ _ _ _ hI dX5_require_26
    · refine lv_aload_n hx hb dX5_require_11 rfl (lv_at hl 0 rfl) ?_
      refine lv_iload_n hx hb dX5_require_12 rfl (lv_at hl 2 rfl) ?_
      refine pX5_4 hC hI hf lkf_X5_29 dX5_require_13 (fun S H locs hI hf => ?_)
      refine lv_aload_n hx hb dX5_require_16 rfl (lv_at hl 0 rfl) ?_
      refine lv_dup hx hb dX5_require_17 rfl ?_
      refine gX5_1 hC hI hf lkf_X5_18 dX5_require_18 (fun v2 hf => ?_)
      refine lv_iconst (v := (1 : Int32)) hx hb dX5_require_21 (by decide) ?_
      refine lv_isub hx hb dX5_require_22 ?_
      refine pX5_1 hC hI hf lkf_X5_18 dX5_require_23 (fun S H locs hI hf => ?_)
      obtain rfl := Option.some.inj hf
      exact hR _ _ _ _ hI dX5_require_26
theorem c_X5_require {a1 : Int32} {a2 : Int32} {S1 : x_S} (hf : f_X5_require n S a1 a2 = some S1) : x_M l yX5_require cX5_require 3 none 0 0 E [.ref (ad 599), .int a1, .int a2] (cw E ad ap S) (cw E ad ap S1) none :=
  x_entV (by decide) (Nat.le_of_ble_eq_true rfl) (fun p e s m args below meth c A Q ls hC hI hR hl => w_X5_require (r := S1) hC hR hI hl hf)
-- X5_openBody
def f_X5_openBody_36 (n : Nat) (S : x_S) (a1 : Int32) (a2 : Int32) (a3 : Int32) (a4 : Int32) (a5 : Int32) (t0 : Int32) : Option (x_S) :=
x_b (f_X5_require n S t0 (3 : Int32)) (fun S =>
x_let (g_sc S 504) (fun v6 =>
if v6 = 0 then
x_let (g_sc S 509) (fun v7 =>
x_g (¬ (v7 < 0 ∨ 61 ≤ (v7).toNatClampNeg)) (x_let (s_ar S 510 (v7).toNatClampNeg a5) (fun S =>
x_let (g_sc S 509) (fun v8 =>
x_g (¬ (v8 < 0 ∨ 61 ≤ (v8).toNatClampNeg)) (x_let (s_ar S 511 (v8).toNatClampNeg a1) (fun S =>
x_let (g_sc S 509) (fun v9 =>
x_let (g_sc S 505) (fun v10 =>
x_g (¬ (v9 < 0 ∨ 61 ≤ (v9).toNatClampNeg)) (x_let (s_ar S 512 (v9).toNatClampNeg v10) (fun S =>
x_let (g_sc S 509) (fun v11 =>
x_g (¬ (v11 < 0 ∨ 61 ≤ (v11).toNatClampNeg)) (x_let (s_ar S 513 (v11).toNatClampNeg a2) (fun S =>
x_let (g_sc S 509) (fun v12 =>
x_g (¬ (v12 < 0 ∨ 61 ≤ (v12).toNatClampNeg)) (x_let (s_ar S 514 (v12).toNatClampNeg a3) (fun S =>
x_let (g_sc S 509) (fun v13 =>
x_g (¬ (v13 < 0 ∨ 61 ≤ (v13).toNatClampNeg)) (x_let (s_ar S 515 (v13).toNatClampNeg a4) (fun S =>
x_let (g_sc S 509) (fun v14 =>
x_let (s_sc S 509 (v14 + (1 : Int32))) (fun S =>
some S)))))))))))))))))))))
else
some S))
set_option maxHeartbeats 4000000 in
set_option maxRecDepth 100000 in
theorem w_X5_openBody_36 {r : x_S} {a1 : Int32} {a2 : Int32} {a3 : Int32} {a4 : Int32} {a5 : Int32} {t0 : Int32} (hC : x_C p s m args meth c cX5_openBody 6 RX5 E A) (hR : x_Rv p l e { frames := 1, cells := 0, slots := 0, locals := 22 } s m args below meth c cX5_openBody E A Q (cw E ad ap r)) (hI : x_I E A s.heap (cw E ad ap S) H locs) (hl : lv_has ls 6 [(0, .ref (ad 599)), (1, .int a1), (2, .int a2), (3, .int a3), (4, .int a4), (5, .int a5)]) (hf : f_X5_openBody_36 n S a1 a2 a3 a4 a5 t0 = some r) : W p l e { frames := 1, cells := 0, slots := 0, locals := 22 } s m args below meth c H locs 0 0 Q (F0 m 36 ls [.int t0, .ref (ad 599)]) := by
  obtain ⟨hx, hb, hml, hown, hts, hK, hN, hA⟩ := id hC
  unfold f_X5_openBody_36 at hf
  refine lv_iconst (v := (3 : Int32)) hx hb dX5_openBody_36 (by decide) ?_
  obtain ⟨S, hc5, hf⟩ := x_b_eq hf
  refine x_callV hC hI (c_X5_require hc5) 5 5 rfl rfl kv_X5_91 rfl ⟨Nat.le_of_ble_eq_true rfl, Nat.le_of_ble_eq_true rfl⟩ ⟨Nat.le_refl _, Nat.le_refl _⟩ hl.1 rfl (Nat.le_of_ble_eq_true rfl) dX5_openBody_37 (fun H locs hI => ?_)
  refine lv_aload_n hx hb dX5_openBody_40 rfl (lv_at hl 0 rfl) ?_
  refine gX5_4 hC hI hf lkf_X5_29 dX5_openBody_41 (fun v6 hf => ?_)
  refine x_eq0 hC 48 hf dX5_openBody_44 (by decide) (fun hf => ?_) (fun hf => ?_)
  · refine lv_aload_n hx hb dX5_openBody_48 rfl (lv_at hl 0 rfl) ?_
    refine gX5_10 hC hI lkf_X5_47 dX5_openBody_49 ?_
    refine lv_aload_n hx hb dX5_openBody_52 rfl (lv_at hl 0 rfl) ?_
    refine gX5_9 hC hI hf lkf_X5_44 dX5_openBody_53 (fun v7 hf => ?_)
    refine lv_iload hx hb dX5_openBody_56 (lv_at hl 5 rfl) ?_
    refine tX5_10 hC hI hf dX5_openBody_58 (fun S H locs hI hf => ?_)
    refine lv_aload_n hx hb dX5_openBody_59 rfl (lv_at hl 0 rfl) ?_
    refine gX5_11 hC hI lkf_X5_50 dX5_openBody_60 ?_
    refine lv_aload_n hx hb dX5_openBody_63 rfl (lv_at hl 0 rfl) ?_
    refine gX5_9 hC hI hf lkf_X5_44 dX5_openBody_64 (fun v8 hf => ?_)
    refine lv_iload_n hx hb dX5_openBody_67 rfl (lv_at hl 1 rfl) ?_
    refine tX5_11 hC hI hf dX5_openBody_68 (fun S H locs hI hf => ?_)
    refine lv_aload_n hx hb dX5_openBody_69 rfl (lv_at hl 0 rfl) ?_
    refine gX5_12 hC hI lkf_X5_53 dX5_openBody_70 ?_
    refine lv_aload_n hx hb dX5_openBody_73 rfl (lv_at hl 0 rfl) ?_
    refine gX5_9 hC hI hf lkf_X5_44 dX5_openBody_74 (fun v9 hf => ?_)
    refine lv_aload_n hx hb dX5_openBody_77 rfl (lv_at hl 0 rfl) ?_
    refine gX5_5 hC hI hf lkf_X5_32 dX5_openBody_78 (fun v10 hf => ?_)
    refine tX5_12 hC hI hf dX5_openBody_81 (fun S H locs hI hf => ?_)
    refine lv_aload_n hx hb dX5_openBody_82 rfl (lv_at hl 0 rfl) ?_
    refine gX5_13 hC hI lkf_X5_56 dX5_openBody_83 ?_
    refine lv_aload_n hx hb dX5_openBody_86 rfl (lv_at hl 0 rfl) ?_
    refine gX5_9 hC hI hf lkf_X5_44 dX5_openBody_87 (fun v11 hf => ?_)
    refine lv_iload_n hx hb dX5_openBody_90 rfl (lv_at hl 2 rfl) ?_
    refine tX5_13 hC hI hf dX5_openBody_91 (fun S H locs hI hf => ?_)
    refine lv_aload_n hx hb dX5_openBody_92 rfl (lv_at hl 0 rfl) ?_
    refine gX5_14 hC hI lkf_X5_59 dX5_openBody_93 ?_
    refine lv_aload_n hx hb dX5_openBody_96 rfl (lv_at hl 0 rfl) ?_
    refine gX5_9 hC hI hf lkf_X5_44 dX5_openBody_97 (fun v12 hf => ?_)
    refine lv_iload_n hx hb dX5_openBody_100 rfl (lv_at hl 3 rfl) ?_
    refine tX5_14 hC hI hf dX5_openBody_101 (fun S H locs hI hf => ?_)
    refine lv_aload_n hx hb dX5_openBody_102 rfl (lv_at hl 0 rfl) ?_
    refine gX5_15 hC hI lkf_X5_62 dX5_openBody_103 ?_
    refine lv_aload_n hx hb dX5_openBody_106 rfl (lv_at hl 0 rfl) ?_
    refine gX5_9 hC hI hf lkf_X5_44 dX5_openBody_107 (fun v13 hf => ?_)
    refine lv_iload hx hb dX5_openBody_110 (lv_at hl 4 rfl) ?_
    refine tX5_15 hC hI hf dX5_openBody_112 (fun S H locs hI hf => ?_)
    refine lv_aload_n hx hb dX5_openBody_113 rfl (lv_at hl 0 rfl) ?_
    refine lv_dup hx hb dX5_openBody_114 rfl ?_
    refine gX5_9 hC hI hf lkf_X5_44 dX5_openBody_115 (fun v14 hf => ?_)
    refine lv_iconst (v := (1 : Int32)) hx hb dX5_openBody_118 (by decide) ?_
    refine lv_iadd hx hb dX5_openBody_119 ?_
    refine pX5_9 hC hI hf lkf_X5_44 dX5_openBody_120 (fun S H locs hI hf => ?_)
    obtain rfl := Option.some.inj hf
    exact hR _ _ _ _ hI dX5_openBody_123
  · obtain rfl := Option.some.inj hf
    exact hR _ _ _ _ hI dX5_openBody_47
def f_X5_openBody_21 (n : Nat) (S : x_S) (a1 : Int32) (a2 : Int32) (a3 : Int32) (a4 : Int32) (a5 : Int32) (t0 : Int32) : Option (x_S) :=
x_b (f_X5_require n S t0 (2 : Int32)) (fun S =>
if a5 < 0 then
f_X5_openBody_36 n S a1 a2 a3 a4 a5 (0 : Int32)
else
f_X5_openBody_36 n S a1 a2 a3 a4 a5 (1 : Int32))
set_option maxHeartbeats 4000000 in
set_option maxRecDepth 100000 in
theorem w_X5_openBody_21 {r : x_S} {a1 : Int32} {a2 : Int32} {a3 : Int32} {a4 : Int32} {a5 : Int32} {t0 : Int32} (hC : x_C p s m args meth c cX5_openBody 6 RX5 E A) (hR : x_Rv p l e { frames := 1, cells := 0, slots := 0, locals := 22 } s m args below meth c cX5_openBody E A Q (cw E ad ap r)) (hI : x_I E A s.heap (cw E ad ap S) H locs) (hl : lv_has ls 6 [(0, .ref (ad 599)), (1, .int a1), (2, .int a2), (3, .int a3), (4, .int a4), (5, .int a5)]) (hf : f_X5_openBody_21 n S a1 a2 a3 a4 a5 t0 = some r) : W p l e { frames := 1, cells := 0, slots := 0, locals := 22 } s m args below meth c H locs 0 0 Q (F0 m 21 ls [.int t0, .ref (ad 599)]) := by
  obtain ⟨hx, hb, hml, hown, hts, hK, hN, hA⟩ := id hC
  unfold f_X5_openBody_21 at hf
  refine lv_iconst (v := (2 : Int32)) hx hb dX5_openBody_21 (by decide) ?_
  obtain ⟨S, hc4, hf⟩ := x_b_eq hf
  refine x_callV hC hI (c_X5_require hc4) 5 5 rfl rfl kv_X5_91 rfl ⟨Nat.le_of_ble_eq_true rfl, Nat.le_of_ble_eq_true rfl⟩ ⟨Nat.le_refl _, Nat.le_refl _⟩ hl.1 rfl (Nat.le_of_ble_eq_true rfl) dX5_openBody_22 (fun H locs hI => ?_)
  refine lv_aload_n hx hb dX5_openBody_25 rfl (lv_at hl 0 rfl) ?_
  refine lv_iload hx hb dX5_openBody_26 (lv_at hl 5 rfl) ?_
  refine x_lt0 hC 35 hf dX5_openBody_28 (by decide) (fun hf => ?_) (fun hf => ?_)
  · refine lv_iconst (v := (0 : Int32)) hx hb dX5_openBody_35 (by decide) ?_
    exact w_X5_openBody_36 hC hR hI (lv_sub hl [0, 1, 2, 3, 4, 5] rfl) hf
  · refine lv_iconst (v := (1 : Int32)) hx hb dX5_openBody_31 (by decide) ?_
    refine lv_goto (tgt := 36) hx hb dX5_openBody_32 (by decide) ?_
    exact w_X5_openBody_36 hC hR hI (lv_sub hl [0, 1, 2, 3, 4, 5] rfl) hf
def f_X5_openBody (n : Nat) (S : x_S) (a1 : Int32) (a2 : Int32) (a3 : Int32) (a4 : Int32) : Option (x_S) :=
x_b2 (f_X5_take n S) (fun v2 S =>
x_let (g_sc S 509) (fun v3 =>
if (61 : Int32) ≤ v3 then
f_X5_openBody_21 n S a1 a2 a3 a4 v2 (0 : Int32)
else
f_X5_openBody_21 n S a1 a2 a3 a4 v2 (1 : Int32)))
set_option maxHeartbeats 4000000 in
set_option maxRecDepth 100000 in
theorem w_X5_openBody {r : x_S} {a1 : Int32} {a2 : Int32} {a3 : Int32} {a4 : Int32} (hC : x_C p s m args meth c cX5_openBody 6 RX5 E A) (hR : x_Rv p l e { frames := 1, cells := 0, slots := 0, locals := 22 } s m args below meth c cX5_openBody E A Q (cw E ad ap r)) (hI : x_I E A s.heap (cw E ad ap S) H locs) (hl : lv_has ls 6 [(0, .ref (ad 599)), (1, .int a1), (2, .int a2), (3, .int a3), (4, .int a4)]) (hf : f_X5_openBody n S a1 a2 a3 a4 = some r) : W p l e { frames := 1, cells := 0, slots := 0, locals := 22 } s m args below meth c H locs 0 0 Q (F0 m 0 ls []) := by
  obtain ⟨hx, hb, hml, hown, hts, hK, hN, hA⟩ := id hC
  unfold f_X5_openBody at hf
  refine lv_aload_n hx hb dX5_openBody_0 rfl (lv_at hl 0 rfl) ?_
  obtain ⟨v2, S, hc1, hf⟩ := x_b2_eq hf
  refine x_callV hC hI (c_X5_take hc1) 5 5 rfl rfl kv_X5_87 rfl ⟨Nat.le_of_ble_eq_true rfl, Nat.le_of_ble_eq_true rfl⟩ ⟨Nat.le_refl _, Nat.le_refl _⟩ hl.1 rfl (Nat.le_of_ble_eq_true rfl) dX5_openBody_1 (fun H locs hI => ?_)
  refine lv_istore (lv' := [(5, .int v2), (0, .ref (ad 599)), (1, .int a1), (2, .int a2), (3, .int a3), (4, .int a4)]) hx hb dX5_openBody_4 hl (by decide) rfl (fun ls hl => ?_)
  refine lv_aload_n hx hb dX5_openBody_6 rfl (lv_at hl 1 rfl) ?_
  refine lv_aload_n hx hb dX5_openBody_7 rfl (lv_at hl 1 rfl) ?_
  refine gX5_9 hC hI hf lkf_X5_44 dX5_openBody_8 (fun v3 hf => ?_)
  refine lv_bipush (v := (61 : Int32)) hx hb dX5_openBody_11 (by decide) ?_
  refine x_ige hC 20 hf dX5_openBody_13 (by decide) (fun hf => ?_) (fun hf => ?_)
  · refine lv_iconst (v := (0 : Int32)) hx hb dX5_openBody_20 (by decide) ?_
    exact w_X5_openBody_21 hC hR hI (lv_sub hl [1, 2, 3, 4, 5, 0] rfl) hf
  · refine lv_iconst (v := (1 : Int32)) hx hb dX5_openBody_16 (by decide) ?_
    refine lv_goto (tgt := 21) hx hb dX5_openBody_17 (by decide) ?_
    exact w_X5_openBody_21 hC hR hI (lv_sub hl [1, 2, 3, 4, 5, 0] rfl) hf
theorem c_X5_openBody {a1 : Int32} {a2 : Int32} {a3 : Int32} {a4 : Int32} {S1 : x_S} (hf : f_X5_openBody n S a1 a2 a3 a4 = some S1) : x_M l yX5_openBody cX5_openBody 6 none 1 22 E [.ref (ad 599), .int a1, .int a2, .int a3, .int a4] (cw E ad ap S) (cw E ad ap S1) none :=
  x_entV (by decide) (Nat.le_of_ble_eq_true rfl) (fun p e s m args below meth c A Q ls hC hI hR hl => w_X5_openBody (r := S1) hC hR hI hl hf)
-- X5_judgeAll
def f_X5_judgeAll (n : Nat) (S : x_S) : Option (x_S) :=
x_let (g_sc S 504) (fun v1 =>
if v1 = 0 then
x_let (g_sc S 501) (fun v2 =>
x_let (g_sc S 503) (fun v3 =>
if v3 ≤ v2 then
x_let (g_sc S 505) (fun v4 =>
if v4 ≤ (60 : Int32) then
x_let (g_sc S 506) (fun v5 =>
x_let (g_sc S 505) (fun v6 =>
if v5 ≤ v6 then
some S
else
x_let (s_sc S 504 (9 : Int32)) (fun S =>
some S)))
else
x_let (s_sc S 504 (8 : Int32)) (fun S =>
some S))
else
x_let (s_sc S 504 (7 : Int32)) (fun S =>
some S)))
else
some S)
set_option maxHeartbeats 4000000 in
set_option maxRecDepth 100000 in
theorem w_X5_judgeAll {r : x_S} (hC : x_C p s m args meth c cX5_judgeAll 1 RX5 E A) (hR : x_Rv p l e { frames := 0, cells := 0, slots := 0, locals := 0 } s m args below meth c cX5_judgeAll E A Q (cw E ad ap r)) (hI : x_I E A s.heap (cw E ad ap S) H locs) (hl : lv_has ls 1 [(0, .ref (ad 599))]) (hf : f_X5_judgeAll n S = some r) : W p l e { frames := 0, cells := 0, slots := 0, locals := 0 } s m args below meth c H locs 0 0 Q (F0 m 0 ls []) := by
  obtain ⟨hx, hb, hml, hown, hts, hK, hN, hA⟩ := id hC
  unfold f_X5_judgeAll at hf
  refine lv_aload_n hx hb dX5_judgeAll_0 rfl (lv_at hl 0 rfl) ?_
  refine gX5_4 hC hI hf lkf_X5_29 dX5_judgeAll_1 (fun v1 hf => ?_)
  refine x_eq0 hC 8 hf dX5_judgeAll_4 (by decide) (fun hf => ?_) (fun hf => ?_)
  · refine lv_aload_n hx hb dX5_judgeAll_8 rfl (lv_at hl 0 rfl) ?_
    refine gX5_1 hC hI hf lkf_X5_18 dX5_judgeAll_9 (fun v2 hf => ?_)
    refine lv_aload_n hx hb dX5_judgeAll_12 rfl (lv_at hl 0 rfl) ?_
    refine gX5_3 hC hI hf lkf_X5_26 dX5_judgeAll_13 (fun v3 hf => ?_)
    refine x_ige hC 28 hf dX5_judgeAll_16 (by decide) (fun hf => ?_) (fun hf => ?_)
    · refine lv_aload_n hx hb dX5_judgeAll_28 rfl (lv_at hl 0 rfl) ?_
      refine gX5_5 hC hI hf lkf_X5_32 dX5_judgeAll_29 (fun v4 hf => ?_)
      refine lv_bipush (v := (60 : Int32)) hx hb dX5_judgeAll_32 (by decide) ?_
      refine x_ile hC 46 hf dX5_judgeAll_34 (by decide) (fun hf => ?_) (fun hf => ?_)
      · refine lv_aload_n hx hb dX5_judgeAll_46 rfl (lv_at hl 0 rfl) ?_
        refine gX5_6 hC hI hf lkf_X5_35 dX5_judgeAll_47 (fun v5 hf => ?_)
        refine lv_aload_n hx hb dX5_judgeAll_50 rfl (lv_at hl 0 rfl) ?_
        refine gX5_5 hC hI hf lkf_X5_32 dX5_judgeAll_51 (fun v6 hf => ?_)
        refine x_ile hC 63 hf dX5_judgeAll_54 (by decide) (fun hf => ?_) (fun hf => ?_)
        · obtain rfl := Option.some.inj hf
          exact hR _ _ _ _ hI dX5_judgeAll_63
        · refine lv_aload_n hx hb dX5_judgeAll_57 rfl (lv_at hl 0 rfl) ?_
          refine lv_bipush (v := (9 : Int32)) hx hb dX5_judgeAll_58 (by decide) ?_
          refine pX5_4 hC hI hf lkf_X5_29 dX5_judgeAll_60 (fun S H locs hI hf => ?_)
          obtain rfl := Option.some.inj hf
          exact hR _ _ _ _ hI dX5_judgeAll_63
      · refine lv_aload_n hx hb dX5_judgeAll_37 rfl (lv_at hl 0 rfl) ?_
        refine lv_bipush (v := (8 : Int32)) hx hb dX5_judgeAll_38 (by decide) ?_
        refine pX5_4 hC hI hf lkf_X5_29 dX5_judgeAll_40 (fun S H locs hI hf => ?_)
        refine lv_goto (tgt := 63) hx hb dX5_judgeAll_43 (by decide) ?_
        obtain rfl := Option.some.inj hf
        exact hR _ _ _ _ hI dX5_judgeAll_63
    · refine lv_aload_n hx hb dX5_judgeAll_19 rfl (lv_at hl 0 rfl) ?_
      refine lv_bipush (v := (7 : Int32)) hx hb dX5_judgeAll_20 (by decide) ?_
      refine pX5_4 hC hI hf lkf_X5_29 dX5_judgeAll_22 (fun S H locs hI hf => ?_)
      refine lv_goto (tgt := 63) hx hb dX5_judgeAll_25 (by decide) ?_
      obtain rfl := Option.some.inj hf
      exact hR _ _ _ _ hI dX5_judgeAll_63
  · obtain rfl := Option.some.inj hf
    exact hR _ _ _ _ hI dX5_judgeAll_7
theorem c_X5_judgeAll {S1 : x_S} (hf : f_X5_judgeAll n S = some S1) : x_M l yX5_judgeAll cX5_judgeAll 1 none 0 0 E [.ref (ad 599)] (cw E ad ap S) (cw E ad ap S1) none :=
  x_entV (by decide) (Nat.le_of_ble_eq_true rfl) (fun p e s m args below meth c A Q ls hC hI hR hl => w_X5_judgeAll (r := S1) hC hR hI hl hf)
-- X5_aim
def f_X5_aim (n : Nat) (S : x_S) (a1 : Int32) (a2 : Int32) : Option (x_S) :=
if a1 < 0 then
some S
else
if (60 : Int32) ≤ a1 then
some S
else
x_g (0 < g_np S) (
x_g (0 < g_np S) (x_g (¬ (a1 < 0 ∨ 60 ≤ (a1).toNatClampNeg)) (x_let (s_pa S 3 0 (a1).toNatClampNeg a2) (fun S =>
some S))))
set_option maxHeartbeats 4000000 in
set_option maxRecDepth 100000 in
theorem w_X5_aim {r : x_S} {a1 : Int32} {a2 : Int32} (hC : x_C p s m args meth c cX5_aim 3 RX5 E A) (hR : x_Rv p l e { frames := 0, cells := 0, slots := 0, locals := 0 } s m args below meth c cX5_aim E A Q (cw E ad ap r)) (hI : x_I E A s.heap (cw E ad ap S) H locs) (hl : lv_has ls 3 [(0, .ref (ad 599)), (1, .int a1), (2, .int a2)]) (hf : f_X5_aim n S a1 a2 = some r) : W p l e { frames := 0, cells := 0, slots := 0, locals := 0 } s m args below meth c H locs 0 0 Q (F0 m 0 ls []) := by
  obtain ⟨hx, hb, hml, hown, hts, hK, hN, hA⟩ := id hC
  unfold f_X5_aim at hf
  refine lv_iload_n hx hb dX5_aim_0 rfl (lv_at hl 1 rfl) ?_
  refine x_lt0 hC 20 hf dX5_aim_1 (by decide) (fun hf => ?_) (fun hf => ?_)
  · obtain rfl := Option.some.inj hf
    exact hR _ _ _ _ hI dX5_aim_20
  · refine lv_iload_n hx hb dX5_aim_4 rfl (lv_at hl 1 rfl) ?_
    refine lv_bipush (v := (60 : Int32)) hx hb dX5_aim_5 (by decide) ?_
    refine x_ige hC 20 hf dX5_aim_7 (by decide) (fun hf => ?_) (fun hf => ?_)
    · obtain rfl := Option.some.inj hf
      exact hR _ _ _ _ hI dX5_aim_20
    · refine lv_aload_n hx hb dX5_aim_10 rfl (lv_at hl 0 rfl) ?_
      refine gX5_0 hC hI lkf_X5_12 dX5_aim_11 ?_
      refine gX2_3 hC hI hf lkf_X5_139 dX5_aim_14 (fun hf => ?_)
      refine lv_iload_n hx hb dX5_aim_17 rfl (lv_at hl 1 rfl) ?_
      refine lv_iload_n hx hb dX5_aim_18 rfl (lv_at hl 2 rfl) ?_
      refine tX2_3 hC hI hf dX5_aim_19 (fun S H locs hI hf => ?_)
      obtain rfl := Option.some.inj hf
      exact hR _ _ _ _ hI dX5_aim_20
theorem c_X5_aim {a1 : Int32} {a2 : Int32} {S1 : x_S} (hf : f_X5_aim n S a1 a2 = some S1) : x_M l yX5_aim cX5_aim 3 none 0 0 E [.ref (ad 599), .int a1, .int a2] (cw E ad ap S) (cw E ad ap S1) none :=
  x_entV (by decide) (Nat.le_of_ble_eq_true rfl) (fun p e s m args below meth c A Q ls hC hI hR hl => w_X5_aim (r := S1) hC hR hI hl hf)
-- X5_emit
def f_X5_emit (n : Nat) (S : x_S) (a1 : Int32) (a2 : Int32) (a3 : Int32) (a4 : Int32) : Option (x_S) :=
x_let (g_sc S 505) (fun v1 =>
if (60 : Int32) ≤ v1 then
x_let (g_sc S 505) (fun v2 =>
x_let (s_sc S 505 (v2 + (1 : Int32))) (fun S =>
some S))
else
x_let (g_sc S 505) (fun v3 =>
x_g (0 < g_np S) (x_b (f_X2_put n S 0 v3 a1 a2 a3 a4) (fun S =>
x_let (g_sc S 505) (fun v5 =>
x_g (¬ (v5 < 0 ∨ 60 ≤ (v5).toNatClampNeg)) (x_let (s_ar S 508 (v5).toNatClampNeg (-1 : Int32)) (fun S =>
x_let (g_sc S 505) (fun v6 =>
x_let (s_sc S 505 (v6 + (1 : Int32))) (fun S =>
some S)))))))))
set_option maxHeartbeats 4000000 in
set_option maxRecDepth 100000 in
theorem w_X5_emit {r : x_S} {a1 : Int32} {a2 : Int32} {a3 : Int32} {a4 : Int32} (hC : x_C p s m args meth c cX5_emit 5 RX5 E A) (hR : x_Rv p l e { frames := 2, cells := 0, slots := 0, locals := 45 } s m args below meth c cX5_emit E A Q (cw E ad ap r)) (hI : x_I E A s.heap (cw E ad ap S) H locs) (hl : lv_has ls 5 [(0, .ref (ad 599)), (1, .int a1), (2, .int a2), (3, .int a3), (4, .int a4)]) (hf : f_X5_emit n S a1 a2 a3 a4 = some r) : W p l e { frames := 2, cells := 0, slots := 0, locals := 45 } s m args below meth c H locs 0 0 Q (F0 m 0 ls []) := by
  obtain ⟨hx, hb, hml, hown, hts, hK, hN, hA⟩ := id hC
  unfold f_X5_emit at hf
  refine lv_aload_n hx hb dX5_emit_0 rfl (lv_at hl 0 rfl) ?_
  refine gX5_5 hC hI hf lkf_X5_32 dX5_emit_1 (fun v1 hf => ?_)
  refine lv_bipush (v := (60 : Int32)) hx hb dX5_emit_4 (by decide) ?_
  refine x_ige hC 35 hf dX5_emit_6 (by decide) (fun hf => ?_) (fun hf => ?_)
  · refine lv_aload_n hx hb dX5_emit_35 rfl (lv_at hl 0 rfl) ?_
    refine lv_dup hx hb dX5_emit_36 rfl ?_
    refine gX5_5 hC hI hf lkf_X5_32 dX5_emit_37 (fun v2 hf => ?_)
    refine lv_iconst (v := (1 : Int32)) hx hb dX5_emit_40 (by decide) ?_
    refine lv_iadd hx hb dX5_emit_41 ?_
    refine pX5_5 hC hI hf lkf_X5_32 dX5_emit_42 (fun S H locs hI hf => ?_)
    obtain rfl := Option.some.inj hf
    exact hR _ _ _ _ hI dX5_emit_45
  · refine lv_aload_n hx hb dX5_emit_9 rfl (lv_at hl 0 rfl) ?_
    refine gX5_0 hC hI lkf_X5_12 dX5_emit_10 ?_
    refine lv_aload_n hx hb dX5_emit_13 rfl (lv_at hl 0 rfl) ?_
    refine gX5_5 hC hI hf lkf_X5_32 dX5_emit_14 (fun v3 hf => ?_)
    refine lv_iload_n hx hb dX5_emit_17 rfl (lv_at hl 1 rfl) ?_
    refine lv_iload_n hx hb dX5_emit_18 rfl (lv_at hl 2 rfl) ?_
    refine lv_iload_n hx hb dX5_emit_19 rfl (lv_at hl 3 rfl) ?_
    refine lv_iload hx hb dX5_emit_20 (lv_at hl 4 rfl) ?_
    obtain ⟨h9, hf⟩ := x_g_eq hf
    obtain ⟨S, hc4, hf⟩ := x_b_eq hf
    refine x_callV hC hI (c_X2_put hc4) (36 + (5 * 0 + 0)) 2 (x_cw_get E ad ap _ 0 0 (by decide) h9) rfl kv_X5_142 rfl ⟨Nat.le_of_ble_eq_true rfl, Nat.le_of_ble_eq_true rfl⟩ ⟨Nat.le_refl _, Nat.le_refl _⟩ hl.1 rfl (Nat.le_of_ble_eq_true rfl) dX5_emit_22 (fun H locs hI => ?_)
    refine lv_aload_n hx hb dX5_emit_25 rfl (lv_at hl 0 rfl) ?_
    refine gX5_8 hC hI lkf_X5_41 dX5_emit_26 ?_
    refine lv_aload_n hx hb dX5_emit_29 rfl (lv_at hl 0 rfl) ?_
    refine gX5_5 hC hI hf lkf_X5_32 dX5_emit_30 (fun v5 hf => ?_)
    refine lv_iconst (v := (-1 : Int32)) hx hb dX5_emit_33 (by decide) ?_
    refine tX5_8 hC hI hf dX5_emit_34 (fun S H locs hI hf => ?_)
    refine lv_aload_n hx hb dX5_emit_35 rfl (lv_at hl 0 rfl) ?_
    refine lv_dup hx hb dX5_emit_36 rfl ?_
    refine gX5_5 hC hI hf lkf_X5_32 dX5_emit_37 (fun v6 hf => ?_)
    refine lv_iconst (v := (1 : Int32)) hx hb dX5_emit_40 (by decide) ?_
    refine lv_iadd hx hb dX5_emit_41 ?_
    refine pX5_5 hC hI hf lkf_X5_32 dX5_emit_42 (fun S H locs hI hf => ?_)
    obtain rfl := Option.some.inj hf
    exact hR _ _ _ _ hI dX5_emit_45
theorem c_X5_emit {a1 : Int32} {a2 : Int32} {a3 : Int32} {a4 : Int32} {S1 : x_S} (hf : f_X5_emit n S a1 a2 a3 a4 = some S1) : x_M l yX5_emit cX5_emit 5 none 2 45 E [.ref (ad 599), .int a1, .int a2, .int a3, .int a4] (cw E ad ap S) (cw E ad ap S1) none :=
  x_entV (by decide) (Nat.le_of_ble_eq_true rfl) (fun p e s m args below meth c A Q ls hC hI hR hl => w_X5_emit (r := S1) hC hR hI hl hf)
-- X5_endLoop
def f_X5_endLoop_67 (n : Nat) (rec12 : x_S × Int32 × Int32 → Option (x_S)) (S : x_S) (a2 : Int32) (a3 : Int32) : Option (x_S) :=
rec12 (S, a2, (a3 + (1 : Int32)))
set_option maxHeartbeats 4000000 in
set_option maxRecDepth 100000 in
theorem w_X5_endLoop_67 {r : x_S} {a2 : Int32} {a3 : Int32} {rec12 : x_S × Int32 × Int32 → Option (x_S)} (hC : x_C p s m args meth c cX5_endLoop 4 RX5 E A) (hR : x_Rv p l e { frames := 1, cells := 0, slots := 0, locals := 22 } s m args below meth c cX5_endLoop E A Q (cw E ad ap r)) (hrec12 : ∀ z : x_S × Int32 × Int32, rec12 z = some r → ∀ (H : Heap) (locs : List Loc) (ls : Array Slot), x_I E A s.heap (cw E ad ap z.1) H locs → lv_has ls 4 [(0, .ref (ad 599)), (2, .int z.2.1), (3, .int z.2.2)] → W p l e { frames := 1, cells := 0, slots := 0, locals := 22 } s m args below meth c H locs 0 0 Q (F0 m 12 ls [])) (hI : x_I E A s.heap (cw E ad ap S) H locs) (hl : lv_has ls 4 [(0, .ref (ad 599)), (2, .int a2), (3, .int a3)]) (hf : f_X5_endLoop_67 n rec12 S a2 a3 = some r) : W p l e { frames := 1, cells := 0, slots := 0, locals := 22 } s m args below meth c H locs 0 0 Q (F0 m 67 ls []) := by
  obtain ⟨hx, hb, hml, hown, hts, hK, hN, hA⟩ := id hC
  unfold f_X5_endLoop_67 at hf
  refine lv_iinc (v := (a3 + (1 : Int32))) (lv' := [(3, .int (a3 + (1 : Int32))), (0, .ref (ad 599)), (2, .int a2)]) hx hb dX5_endLoop_67 hl (k := 2) rfl rfl (by decide) rfl (fun ls hl => ?_)
  refine lv_goto (tgt := 12) hx hb dX5_endLoop_70 (by decide) ?_
  exact hrec12 _ hf _ _ _ hI (lv_sub hl [1, 2, 0] rfl)
def f_X5_endLoop_57 (n : Nat) (rec12 : x_S × Int32 × Int32 → Option (x_S)) (S : x_S) (a2 : Int32) (a3 : Int32) (t0 : Int32) (t1 : Int32) : Option (x_S) :=
x_b (f_X5_aim n S t1 t0) (fun S =>
x_g (¬ (a3 < 0 ∨ 60 ≤ (a3).toNatClampNeg)) (x_let (s_ar S 508 (a3).toNatClampNeg (-1 : Int32)) (fun S =>
f_X5_endLoop_67 n rec12 S a2 a3)))
set_option maxHeartbeats 4000000 in
set_option maxRecDepth 100000 in
theorem w_X5_endLoop_57 {r : x_S} {a2 : Int32} {a3 : Int32} {t0 : Int32} {t1 : Int32} {rec12 : x_S × Int32 × Int32 → Option (x_S)} (hC : x_C p s m args meth c cX5_endLoop 4 RX5 E A) (hR : x_Rv p l e { frames := 1, cells := 0, slots := 0, locals := 22 } s m args below meth c cX5_endLoop E A Q (cw E ad ap r)) (hrec12 : ∀ z : x_S × Int32 × Int32, rec12 z = some r → ∀ (H : Heap) (locs : List Loc) (ls : Array Slot), x_I E A s.heap (cw E ad ap z.1) H locs → lv_has ls 4 [(0, .ref (ad 599)), (2, .int z.2.1), (3, .int z.2.2)] → W p l e { frames := 1, cells := 0, slots := 0, locals := 22 } s m args below meth c H locs 0 0 Q (F0 m 12 ls [])) (hI : x_I E A s.heap (cw E ad ap S) H locs) (hl : lv_has ls 4 [(0, .ref (ad 599)), (2, .int a2), (3, .int a3)]) (hf : f_X5_endLoop_57 n rec12 S a2 a3 t0 t1 = some r) : W p l e { frames := 1, cells := 0, slots := 0, locals := 22 } s m args below meth c H locs 0 0 Q (F0 m 57 ls [.int t0, .int t1, .ref (ad 599)]) := by
  obtain ⟨hx, hb, hml, hown, hts, hK, hN, hA⟩ := id hC
  unfold f_X5_endLoop_57 at hf
  obtain ⟨S, hc5, hf⟩ := x_b_eq hf
  refine x_callV hC hI (c_X5_aim hc5) 5 5 rfl rfl kv_X5_132 rfl ⟨Nat.le_of_ble_eq_true rfl, Nat.le_of_ble_eq_true rfl⟩ ⟨Nat.le_refl _, Nat.le_refl _⟩ hl.1 rfl (Nat.le_of_ble_eq_true rfl) dX5_endLoop_57 (fun H locs hI => ?_)
  refine lv_aload_n hx hb dX5_endLoop_60 rfl (lv_at hl 0 rfl) ?_
  refine gX5_8 hC hI lkf_X5_41 dX5_endLoop_61 ?_
  refine lv_iload_n hx hb dX5_endLoop_64 rfl (lv_at hl 2 rfl) ?_
  refine lv_iconst (v := (-1 : Int32)) hx hb dX5_endLoop_65 (by decide) ?_
  refine tX5_8 hC hI hf dX5_endLoop_66 (fun S H locs hI hf => ?_)
  exact w_X5_endLoop_67 hC hR hrec12 hI (lv_sub hl [0, 1, 2] rfl) hf
def f_X5_endLoop_12 (n : Nat) (rec12 : x_S × Int32 × Int32 → Option (x_S)) (S : x_S) (a2 : Int32) (a3 : Int32) : Option (x_S) :=
x_let (g_sc S 505) (fun v2 =>
if v2 ≤ a3 then
some S
else
if (60 : Int32) ≤ a3 then
some S
else
x_g (¬ (a3 < 0 ∨ 60 ≤ (a3).toNatClampNeg)) (x_let (g_ar S 508 (a3).toNatClampNeg) (fun v3 =>
if v3 = (-1 : Int32) then
f_X5_endLoop_67 n rec12 S a2 a3
else
x_g (¬ (a3 < 0 ∨ 60 ≤ (a3).toNatClampNeg)) (x_let (g_ar S 508 (a3).toNatClampNeg) (fun v4 =>
if v4 = (6 : Int32) then
x_let (g_sc S 505) (fun v6 =>
f_X5_endLoop_57 n rec12 S a2 a3 v6 a3)
else
f_X5_endLoop_57 n rec12 S a2 a3 a2 a3)))))
set_option maxHeartbeats 4000000 in
set_option maxRecDepth 100000 in
theorem w_X5_endLoop_12 {r : x_S} {a2 : Int32} {a3 : Int32} {rec12 : x_S × Int32 × Int32 → Option (x_S)} (hC : x_C p s m args meth c cX5_endLoop 4 RX5 E A) (hR : x_Rv p l e { frames := 1, cells := 0, slots := 0, locals := 22 } s m args below meth c cX5_endLoop E A Q (cw E ad ap r)) (hrec12 : ∀ z : x_S × Int32 × Int32, rec12 z = some r → ∀ (H : Heap) (locs : List Loc) (ls : Array Slot), x_I E A s.heap (cw E ad ap z.1) H locs → lv_has ls 4 [(0, .ref (ad 599)), (2, .int z.2.1), (3, .int z.2.2)] → W p l e { frames := 1, cells := 0, slots := 0, locals := 22 } s m args below meth c H locs 0 0 Q (F0 m 12 ls [])) (hI : x_I E A s.heap (cw E ad ap S) H locs) (hl : lv_has ls 4 [(0, .ref (ad 599)), (2, .int a2), (3, .int a3)]) (hf : f_X5_endLoop_12 n rec12 S a2 a3 = some r) : W p l e { frames := 1, cells := 0, slots := 0, locals := 22 } s m args below meth c H locs 0 0 Q (F0 m 12 ls []) := by
  obtain ⟨hx, hb, hml, hown, hts, hK, hN, hA⟩ := id hC
  unfold f_X5_endLoop_12 at hf
  refine lv_iload_n hx hb dX5_endLoop_12 rfl (lv_at hl 2 rfl) ?_
  refine lv_aload_n hx hb dX5_endLoop_13 rfl (lv_at hl 0 rfl) ?_
  refine gX5_5 hC hI hf lkf_X5_32 dX5_endLoop_14 (fun v2 hf => ?_)
  refine x_ige hC 73 hf dX5_endLoop_17 (by decide) (fun hf => ?_) (fun hf => ?_)
  · obtain rfl := Option.some.inj hf
    exact hR _ _ _ _ hI dX5_endLoop_73
  · refine lv_iload_n hx hb dX5_endLoop_20 rfl (lv_at hl 2 rfl) ?_
    refine lv_bipush (v := (60 : Int32)) hx hb dX5_endLoop_21 (by decide) ?_
    refine x_ige hC 73 hf dX5_endLoop_23 (by decide) (fun hf => ?_) (fun hf => ?_)
    · obtain rfl := Option.some.inj hf
      exact hR _ _ _ _ hI dX5_endLoop_73
    · refine lv_aload_n hx hb dX5_endLoop_26 rfl (lv_at hl 0 rfl) ?_
      refine gX5_8 hC hI lkf_X5_41 dX5_endLoop_27 ?_
      refine lv_iload_n hx hb dX5_endLoop_30 rfl (lv_at hl 2 rfl) ?_
      refine aX5_8 hC hI hf dX5_endLoop_31 (fun v3 hf => ?_)
      refine lv_iconst (v := (-1 : Int32)) hx hb dX5_endLoop_32 (by decide) ?_
      refine x_ieq hC 67 hf dX5_endLoop_33 (by decide) (fun hf => ?_) (fun hf => ?_)
      · exact w_X5_endLoop_67 hC hR hrec12 hI (lv_sub hl [0, 1, 2] rfl) hf
      · refine lv_aload_n hx hb dX5_endLoop_36 rfl (lv_at hl 0 rfl) ?_
        refine lv_iload_n hx hb dX5_endLoop_37 rfl (lv_at hl 2 rfl) ?_
        refine lv_aload_n hx hb dX5_endLoop_38 rfl (lv_at hl 0 rfl) ?_
        refine gX5_8 hC hI lkf_X5_41 dX5_endLoop_39 ?_
        refine lv_iload_n hx hb dX5_endLoop_42 rfl (lv_at hl 2 rfl) ?_
        refine aX5_8 hC hI hf dX5_endLoop_43 (fun v4 hf => ?_)
        refine lv_bipush (v := (6 : Int32)) hx hb dX5_endLoop_44 (by decide) ?_
        refine x_ine hC 56 hf dX5_endLoop_46 (by decide) (fun hf => ?_) (fun hf => ?_)
        · refine lv_iload_n hx hb dX5_endLoop_56 rfl (lv_at hl 1 rfl) ?_
          exact w_X5_endLoop_57 hC hR hrec12 hI (lv_sub hl [0, 1, 2] rfl) hf
        · refine lv_aload_n hx hb dX5_endLoop_49 rfl (lv_at hl 0 rfl) ?_
          refine gX5_5 hC hI hf lkf_X5_32 dX5_endLoop_50 (fun v6 hf => ?_)
          refine lv_goto (tgt := 57) hx hb dX5_endLoop_53 (by decide) ?_
          exact w_X5_endLoop_57 hC hR hrec12 hI (lv_sub hl [0, 1, 2] rfl) hf
theorem w_X5_endLoop_12_loop {r : x_S} (hC : x_C p s m args meth c cX5_endLoop 4 RX5 E A) (hR : x_Rv p l e { frames := 1, cells := 0, slots := 0, locals := 22 } s m args below meth c cX5_endLoop E A Q (cw E ad ap r)) : ∀ (k : Nat) (z : x_S × Int32 × Int32), x_loop (fun rec z => f_X5_endLoop_12 n rec z.1 z.2.1 z.2.2) k z = some r → ∀ (H : Heap) (locs : List Loc) (ls : Array Slot), x_I E A s.heap (cw E ad ap z.1) H locs → lv_has ls 4 [(0, .ref (ad 599)), (2, .int z.2.1), (3, .int z.2.2)] → W p l e { frames := 1, cells := 0, slots := 0, locals := 22 } s m args below meth c H locs 0 0 Q (F0 m 12 ls []) :=
  x_loop_ind (P := fun (z : x_S × Int32 × Int32) => ∀ (H : Heap) (locs : List Loc) (ls : Array Slot), x_I E A s.heap (cw E ad ap z.1) H locs → lv_has ls 4 [(0, .ref (ad 599)), (2, .int z.2.1), (3, .int z.2.2)] → W p l e { frames := 1, cells := 0, slots := 0, locals := 22 } s m args below meth c H locs 0 0 Q (F0 m 12 ls [])) (fun rec hrec z hf H locs ls hI hl => w_X5_endLoop_12 hC hR hrec hI hl hf)
def f_X5_endLoop (n : Nat) (S : x_S) (a1 : Int32) (a2 : Int32) : Option (x_S) :=
x_let (g_sc S 507) (fun v1 =>
x_let (s_sc S 507 (v1 - (1 : Int32))) (fun S =>
x_loop (fun rec z => f_X5_endLoop_12 n rec z.1 z.2.1 z.2.2) n (S, a2, a1)))
set_option maxHeartbeats 4000000 in
set_option maxRecDepth 100000 in
theorem w_X5_endLoop {r : x_S} {a1 : Int32} {a2 : Int32} (hC : x_C p s m args meth c cX5_endLoop 4 RX5 E A) (hR : x_Rv p l e { frames := 1, cells := 0, slots := 0, locals := 22 } s m args below meth c cX5_endLoop E A Q (cw E ad ap r)) (hI : x_I E A s.heap (cw E ad ap S) H locs) (hl : lv_has ls 4 [(0, .ref (ad 599)), (1, .int a1), (2, .int a2)]) (hf : f_X5_endLoop n S a1 a2 = some r) : W p l e { frames := 1, cells := 0, slots := 0, locals := 22 } s m args below meth c H locs 0 0 Q (F0 m 0 ls []) := by
  obtain ⟨hx, hb, hml, hown, hts, hK, hN, hA⟩ := id hC
  unfold f_X5_endLoop at hf
  refine lv_aload_n hx hb dX5_endLoop_0 rfl (lv_at hl 0 rfl) ?_
  refine lv_dup hx hb dX5_endLoop_1 rfl ?_
  refine gX5_7 hC hI hf lkf_X5_38 dX5_endLoop_2 (fun v1 hf => ?_)
  refine lv_iconst (v := (1 : Int32)) hx hb dX5_endLoop_5 (by decide) ?_
  refine lv_isub hx hb dX5_endLoop_6 ?_
  refine pX5_7 hC hI hf lkf_X5_38 dX5_endLoop_7 (fun S H locs hI hf => ?_)
  refine lv_iload_n hx hb dX5_endLoop_10 rfl (lv_at hl 1 rfl) ?_
  refine lv_istore_n (lv' := [(3, .int a1), (0, .ref (ad 599)), (1, .int a1), (2, .int a2)]) hx hb dX5_endLoop_11 rfl hl (by decide) rfl (fun ls hl => ?_)
  exact w_X5_endLoop_12_loop hC hR _ _ hf _ _ _ hI (lv_sub hl [1, 3, 0] rfl)
theorem c_X5_endLoop {a1 : Int32} {a2 : Int32} {S1 : x_S} (hf : f_X5_endLoop n S a1 a2 = some S1) : x_M l yX5_endLoop cX5_endLoop 4 none 1 22 E [.ref (ad 599), .int a1, .int a2] (cw E ad ap S) (cw E ad ap S1) none :=
  x_entV (by decide) (Nat.le_of_ble_eq_true rfl) (fun p e s m args below meth c A Q ls hC hI hR hl => w_X5_endLoop (r := S1) hC hR hI hl hf)
end
