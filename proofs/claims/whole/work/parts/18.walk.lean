section
variable {p : Program} {l : Launch} {e : Env} {s : State} {m : MethodId} {args : Array Value} {below : List Frame} {meth : Method} {c : Code} {H : Heap} {locs : List Loc} {Q : State → Prop}
variable {E : x_E} {A : Nat → Prop} {ls : Array Slot} {ad : Nat → Nat} {ap : Nat → Nat → Nat} {S : x_S} {w : va_W} {n : Nat}
-- X7_come
def f_X7_come_224 (n : Nat) (rec38 : x_S × Int32 × Int32 × Int32 → Option (x_S)) (rec47 : x_S × Int32 × Int32 × Int32 × Int32 → Option (x_S)) (S : x_S) (a1 : Int32) (a2 : Int32) (a3 : Int32) (a4 : Int32) : Option (x_S) :=
rec47 (S, a1, a2, a3, (a4 + (1 : Int32)))
set_option maxHeartbeats 4000000 in
set_option maxRecDepth 100000 in
theorem w_X7_come_224 {r : x_S} {a1 : Int32} {a2 : Int32} {a3 : Int32} {a4 : Int32} {rec38 : x_S × Int32 × Int32 × Int32 → Option (x_S)} {rec47 : x_S × Int32 × Int32 × Int32 × Int32 → Option (x_S)} (hC : x_C p s m args meth c cX7_come 7 RX7 E A) (hR : x_Rv p l e { frames := 1, cells := 0, slots := 0, locals := 21 } s m args below meth c cX7_come E A Q (mw E ad r)) (hrec38 : ∀ z : x_S × Int32 × Int32 × Int32, rec38 z = some r → ∀ (H : Heap) (locs : List Loc) (ls : Array Slot), x_I E A s.heap (mw E ad z.1) H locs → lv_has ls 7 [(0, .ref (ad 799)), (1, .int z.2.1), (2, .int z.2.2.1), (3, .int z.2.2.2)] → W p l e { frames := 1, cells := 0, slots := 0, locals := 21 } s m args below meth c H locs 0 0 Q (F0 m 38 ls [])) (hrec47 : ∀ z : x_S × Int32 × Int32 × Int32 × Int32, rec47 z = some r → ∀ (H : Heap) (locs : List Loc) (ls : Array Slot), x_I E A s.heap (mw E ad z.1) H locs → lv_has ls 7 [(0, .ref (ad 799)), (1, .int z.2.1), (2, .int z.2.2.1), (3, .int z.2.2.2.1), (4, .int z.2.2.2.2)] → W p l e { frames := 1, cells := 0, slots := 0, locals := 21 } s m args below meth c H locs 0 0 Q (F0 m 47 ls [])) (hI : x_I E A s.heap (mw E ad S) H locs) (hl : lv_has ls 7 [(0, .ref (ad 799)), (1, .int a1), (2, .int a2), (3, .int a3), (4, .int a4)]) (hf : f_X7_come_224 n rec38 rec47 S a1 a2 a3 a4 = some r) : W p l e { frames := 1, cells := 0, slots := 0, locals := 21 } s m args below meth c H locs 0 0 Q (F0 m 224 ls []) := by
  obtain ⟨hx, hb, hml, hown, hts, hK, hN, hA⟩ := id hC
  unfold f_X7_come_224 at hf
  refine lv_iinc (v := (a4 + (1 : Int32))) (lv' := [(4, .int (a4 + (1 : Int32))), (0, .ref (ad 799)), (1, .int a1), (2, .int a2), (3, .int a3)]) hx hb dX7_come_224 hl (k := 4) rfl rfl (by decide) rfl (fun ls hl => ?_)
  refine lv_goto (tgt := 47) hx hb dX7_come_227 (by decide) ?_
  exact hrec47 _ hf _ _ _ hI (lv_sub hl [1, 2, 3, 4, 0] rfl)
def f_X7_come_223 (n : Nat) (rec38 : x_S × Int32 × Int32 × Int32 → Option (x_S)) (rec47 : x_S × Int32 × Int32 × Int32 × Int32 → Option (x_S)) (S : x_S) (a1 : Int32) (a2 : Int32) (a3 : Int32) (a4 : Int32) (t0 : Int32) (t1 : Int32) : Option (x_S) :=
x_g (¬ (t1 < 0 ∨ 61 ≤ (t1).toNatClampNeg)) (x_g (t0 = 0 ∨ t0 = 1) (x_let (s_ar S 733 (t1).toNatClampNeg t0) (fun S =>
f_X7_come_224 n rec38 rec47 S a1 a2 a3 a4)))
set_option maxHeartbeats 4000000 in
set_option maxRecDepth 100000 in
theorem w_X7_come_223 {r : x_S} {a1 : Int32} {a2 : Int32} {a3 : Int32} {a4 : Int32} {t0 : Int32} {t1 : Int32} {rec38 : x_S × Int32 × Int32 × Int32 → Option (x_S)} {rec47 : x_S × Int32 × Int32 × Int32 × Int32 → Option (x_S)} (hC : x_C p s m args meth c cX7_come 7 RX7 E A) (hR : x_Rv p l e { frames := 1, cells := 0, slots := 0, locals := 21 } s m args below meth c cX7_come E A Q (mw E ad r)) (hrec38 : ∀ z : x_S × Int32 × Int32 × Int32, rec38 z = some r → ∀ (H : Heap) (locs : List Loc) (ls : Array Slot), x_I E A s.heap (mw E ad z.1) H locs → lv_has ls 7 [(0, .ref (ad 799)), (1, .int z.2.1), (2, .int z.2.2.1), (3, .int z.2.2.2)] → W p l e { frames := 1, cells := 0, slots := 0, locals := 21 } s m args below meth c H locs 0 0 Q (F0 m 38 ls [])) (hrec47 : ∀ z : x_S × Int32 × Int32 × Int32 × Int32, rec47 z = some r → ∀ (H : Heap) (locs : List Loc) (ls : Array Slot), x_I E A s.heap (mw E ad z.1) H locs → lv_has ls 7 [(0, .ref (ad 799)), (1, .int z.2.1), (2, .int z.2.2.1), (3, .int z.2.2.2.1), (4, .int z.2.2.2.2)] → W p l e { frames := 1, cells := 0, slots := 0, locals := 21 } s m args below meth c H locs 0 0 Q (F0 m 47 ls [])) (hI : x_I E A s.heap (mw E ad S) H locs) (hl : lv_has ls 7 [(0, .ref (ad 799)), (1, .int a1), (2, .int a2), (3, .int a3), (4, .int a4)]) (hf : f_X7_come_223 n rec38 rec47 S a1 a2 a3 a4 t0 t1 = some r) : W p l e { frames := 1, cells := 0, slots := 0, locals := 21 } s m args below meth c H locs 0 0 Q (F0 m 223 ls [.int t0, .int t1, .ref (ad 733)]) := by
  obtain ⟨hx, hb, hml, hown, hts, hK, hN, hA⟩ := id hC
  unfold f_X7_come_223 at hf
  refine tX7_33 hC hI hf dX7_come_223 (fun S H locs hI hf => ?_)
  exact w_X7_come_224 hC hR hrec38 hrec47 hI (lv_sub hl [0, 1, 2, 3, 4] rfl) hf
def f_X7_come_218 (n : Nat) (rec38 : x_S × Int32 × Int32 × Int32 → Option (x_S)) (rec47 : x_S × Int32 × Int32 × Int32 × Int32 → Option (x_S)) (S : x_S) (a1 : Int32) (a2 : Int32) (a3 : Int32) (a4 : Int32) (t0 : Int32) : Option (x_S) :=
f_X7_come_223 n rec38 rec47 S a1 a2 a3 a4 (1 : Int32) t0
set_option maxHeartbeats 4000000 in
set_option maxRecDepth 100000 in
theorem w_X7_come_218 {r : x_S} {a1 : Int32} {a2 : Int32} {a3 : Int32} {a4 : Int32} {t0 : Int32} {rec38 : x_S × Int32 × Int32 × Int32 → Option (x_S)} {rec47 : x_S × Int32 × Int32 × Int32 × Int32 → Option (x_S)} (hC : x_C p s m args meth c cX7_come 7 RX7 E A) (hR : x_Rv p l e { frames := 1, cells := 0, slots := 0, locals := 21 } s m args below meth c cX7_come E A Q (mw E ad r)) (hrec38 : ∀ z : x_S × Int32 × Int32 × Int32, rec38 z = some r → ∀ (H : Heap) (locs : List Loc) (ls : Array Slot), x_I E A s.heap (mw E ad z.1) H locs → lv_has ls 7 [(0, .ref (ad 799)), (1, .int z.2.1), (2, .int z.2.2.1), (3, .int z.2.2.2)] → W p l e { frames := 1, cells := 0, slots := 0, locals := 21 } s m args below meth c H locs 0 0 Q (F0 m 38 ls [])) (hrec47 : ∀ z : x_S × Int32 × Int32 × Int32 × Int32, rec47 z = some r → ∀ (H : Heap) (locs : List Loc) (ls : Array Slot), x_I E A s.heap (mw E ad z.1) H locs → lv_has ls 7 [(0, .ref (ad 799)), (1, .int z.2.1), (2, .int z.2.2.1), (3, .int z.2.2.2.1), (4, .int z.2.2.2.2)] → W p l e { frames := 1, cells := 0, slots := 0, locals := 21 } s m args below meth c H locs 0 0 Q (F0 m 47 ls [])) (hI : x_I E A s.heap (mw E ad S) H locs) (hl : lv_has ls 7 [(0, .ref (ad 799)), (1, .int a1), (2, .int a2), (3, .int a3), (4, .int a4)]) (hf : f_X7_come_218 n rec38 rec47 S a1 a2 a3 a4 t0 = some r) : W p l e { frames := 1, cells := 0, slots := 0, locals := 21 } s m args below meth c H locs 0 0 Q (F0 m 218 ls [.int t0, .ref (ad 733)]) := by
  obtain ⟨hx, hb, hml, hown, hts, hK, hN, hA⟩ := id hC
  unfold f_X7_come_218 at hf
  refine lv_iconst (v := (1 : Int32)) hx hb dX7_come_218 (by decide) ?_
  refine lv_goto (tgt := 223) hx hb dX7_come_219 (by decide) ?_
  exact w_X7_come_223 hC hR hrec38 hrec47 hI (lv_sub hl [0, 1, 2, 3, 4] rfl) hf
def f_X7_come_182 (n : Nat) (rec38 : x_S × Int32 × Int32 × Int32 → Option (x_S)) (rec47 : x_S × Int32 × Int32 × Int32 × Int32 → Option (x_S)) (S : x_S) (a1 : Int32) (a2 : Int32) (a3 : Int32) (a4 : Int32) (a5 : Int32) (t0 : Int32) (t1 : Int32) : Option (x_S) :=
x_g (¬ (t1 < 0 ∨ 61 ≤ (t1).toNatClampNeg)) (x_g (t0 = 0 ∨ t0 = 1) (x_let (s_ar S 733 (t1).toNatClampNeg t0) (fun S =>
x_g (¬ (a5 < 0 ∨ 720 ≤ (a5).toNatClampNeg)) (x_let (g_ar S 705 (a5).toNatClampNeg) (fun v5 =>
x_g (¬ (a5 < 0 ∨ 720 ≤ (a5).toNatClampNeg)) (x_let (g_ar S 705 (a5).toNatClampNeg) (fun v6 =>
x_g (¬ (v6 < 0 ∨ 61 ≤ (v6).toNatClampNeg)) (x_let (g_ar S 733 (v6).toNatClampNeg) (fun v7 =>
if v7 = 0 then
x_b2 (f_X7_leads n S a5) (fun v9 S =>
if v9 = 0 then
f_X7_come_223 n rec38 rec47 S a1 a2 a3 a4 (0 : Int32) v5
else
f_X7_come_218 n rec38 rec47 S a1 a2 a3 a4 v5)
else
f_X7_come_218 n rec38 rec47 S a1 a2 a3 a4 v5)))))))))
set_option maxHeartbeats 4000000 in
set_option maxRecDepth 100000 in
theorem w_X7_come_182 {r : x_S} {a1 : Int32} {a2 : Int32} {a3 : Int32} {a4 : Int32} {a5 : Int32} {t0 : Int32} {t1 : Int32} {rec38 : x_S × Int32 × Int32 × Int32 → Option (x_S)} {rec47 : x_S × Int32 × Int32 × Int32 × Int32 → Option (x_S)} (hC : x_C p s m args meth c cX7_come 7 RX7 E A) (hR : x_Rv p l e { frames := 1, cells := 0, slots := 0, locals := 21 } s m args below meth c cX7_come E A Q (mw E ad r)) (hrec38 : ∀ z : x_S × Int32 × Int32 × Int32, rec38 z = some r → ∀ (H : Heap) (locs : List Loc) (ls : Array Slot), x_I E A s.heap (mw E ad z.1) H locs → lv_has ls 7 [(0, .ref (ad 799)), (1, .int z.2.1), (2, .int z.2.2.1), (3, .int z.2.2.2)] → W p l e { frames := 1, cells := 0, slots := 0, locals := 21 } s m args below meth c H locs 0 0 Q (F0 m 38 ls [])) (hrec47 : ∀ z : x_S × Int32 × Int32 × Int32 × Int32, rec47 z = some r → ∀ (H : Heap) (locs : List Loc) (ls : Array Slot), x_I E A s.heap (mw E ad z.1) H locs → lv_has ls 7 [(0, .ref (ad 799)), (1, .int z.2.1), (2, .int z.2.2.1), (3, .int z.2.2.2.1), (4, .int z.2.2.2.2)] → W p l e { frames := 1, cells := 0, slots := 0, locals := 21 } s m args below meth c H locs 0 0 Q (F0 m 47 ls [])) (hI : x_I E A s.heap (mw E ad S) H locs) (hl : lv_has ls 7 [(0, .ref (ad 799)), (1, .int a1), (2, .int a2), (3, .int a3), (4, .int a4), (5, .int a5)]) (hf : f_X7_come_182 n rec38 rec47 S a1 a2 a3 a4 a5 t0 t1 = some r) : W p l e { frames := 1, cells := 0, slots := 0, locals := 21 } s m args below meth c H locs 0 0 Q (F0 m 182 ls [.int t0, .int t1, .ref (ad 733)]) := by
  obtain ⟨hx, hb, hml, hown, hts, hK, hN, hA⟩ := id hC
  unfold f_X7_come_182 at hf
  refine tX7_33 hC hI hf dX7_come_182 (fun S H locs hI hf => ?_)
  refine lv_aload_n hx hb dX7_come_183 rfl (lv_at hl 0 rfl) ?_
  refine gX7_33 hC hI lkf_X7_86 dX7_come_184 ?_
  refine lv_aload_n hx hb dX7_come_187 rfl (lv_at hl 0 rfl) ?_
  refine gX7_5 hC hI lkf_X7_22 dX7_come_188 ?_
  refine lv_iload hx hb dX7_come_191 (lv_at hl 5 rfl) ?_
  refine aX7_5 hC hI hf dX7_come_193 (fun v5 hf => ?_)
  refine lv_aload_n hx hb dX7_come_194 rfl (lv_at hl 0 rfl) ?_
  refine gX7_33 hC hI lkf_X7_86 dX7_come_195 ?_
  refine lv_aload_n hx hb dX7_come_198 rfl (lv_at hl 0 rfl) ?_
  refine gX7_5 hC hI lkf_X7_22 dX7_come_199 ?_
  refine lv_iload hx hb dX7_come_202 (lv_at hl 5 rfl) ?_
  refine aX7_5 hC hI hf dX7_come_204 (fun v6 hf => ?_)
  refine aX7_33 hC hI hf dX7_come_205 (fun v7 hf => ?_)
  refine x_ne0 hC 218 hf dX7_come_206 (by decide) (fun hf => ?_) (fun hf => ?_)
  · exact w_X7_come_218 hC hR hrec38 hrec47 hI (lv_sub hl [0, 1, 2, 3, 4] rfl) hf
  · refine lv_aload_n hx hb dX7_come_209 rfl (lv_at hl 0 rfl) ?_
    refine lv_iload hx hb dX7_come_210 (lv_at hl 5 rfl) ?_
    obtain ⟨v9, S, hc8, hf⟩ := x_b2_eq hf
    refine x_callV hC hI (c_X7_leads hc8) 0 7 rfl rfl kv_X7_154 rfl ⟨Nat.le_of_ble_eq_true rfl, Nat.le_of_ble_eq_true rfl⟩ ⟨Nat.le_refl _, Nat.le_refl _⟩ hl.1 rfl (Nat.le_of_ble_eq_true rfl) dX7_come_212 (fun H locs hI => ?_)
    refine x_eq0 hC 222 hf dX7_come_215 (by decide) (fun hf => ?_) (fun hf => ?_)
    · refine lv_iconst (v := (0 : Int32)) hx hb dX7_come_222 (by decide) ?_
      exact w_X7_come_223 hC hR hrec38 hrec47 hI (lv_sub hl [0, 1, 2, 3, 4] rfl) hf
    · exact w_X7_come_218 hC hR hrec38 hrec47 hI (lv_sub hl [0, 1, 2, 3, 4] rfl) hf
def f_X7_come_177 (n : Nat) (rec38 : x_S × Int32 × Int32 × Int32 → Option (x_S)) (rec47 : x_S × Int32 × Int32 × Int32 × Int32 → Option (x_S)) (S : x_S) (a1 : Int32) (a2 : Int32) (a3 : Int32) (a4 : Int32) (a5 : Int32) (t0 : Int32) : Option (x_S) :=
f_X7_come_182 n rec38 rec47 S a1 a2 a3 a4 a5 (1 : Int32) t0
set_option maxHeartbeats 4000000 in
set_option maxRecDepth 100000 in
theorem w_X7_come_177 {r : x_S} {a1 : Int32} {a2 : Int32} {a3 : Int32} {a4 : Int32} {a5 : Int32} {t0 : Int32} {rec38 : x_S × Int32 × Int32 × Int32 → Option (x_S)} {rec47 : x_S × Int32 × Int32 × Int32 × Int32 → Option (x_S)} (hC : x_C p s m args meth c cX7_come 7 RX7 E A) (hR : x_Rv p l e { frames := 1, cells := 0, slots := 0, locals := 21 } s m args below meth c cX7_come E A Q (mw E ad r)) (hrec38 : ∀ z : x_S × Int32 × Int32 × Int32, rec38 z = some r → ∀ (H : Heap) (locs : List Loc) (ls : Array Slot), x_I E A s.heap (mw E ad z.1) H locs → lv_has ls 7 [(0, .ref (ad 799)), (1, .int z.2.1), (2, .int z.2.2.1), (3, .int z.2.2.2)] → W p l e { frames := 1, cells := 0, slots := 0, locals := 21 } s m args below meth c H locs 0 0 Q (F0 m 38 ls [])) (hrec47 : ∀ z : x_S × Int32 × Int32 × Int32 × Int32, rec47 z = some r → ∀ (H : Heap) (locs : List Loc) (ls : Array Slot), x_I E A s.heap (mw E ad z.1) H locs → lv_has ls 7 [(0, .ref (ad 799)), (1, .int z.2.1), (2, .int z.2.2.1), (3, .int z.2.2.2.1), (4, .int z.2.2.2.2)] → W p l e { frames := 1, cells := 0, slots := 0, locals := 21 } s m args below meth c H locs 0 0 Q (F0 m 47 ls [])) (hI : x_I E A s.heap (mw E ad S) H locs) (hl : lv_has ls 7 [(0, .ref (ad 799)), (1, .int a1), (2, .int a2), (3, .int a3), (4, .int a4), (5, .int a5)]) (hf : f_X7_come_177 n rec38 rec47 S a1 a2 a3 a4 a5 t0 = some r) : W p l e { frames := 1, cells := 0, slots := 0, locals := 21 } s m args below meth c H locs 0 0 Q (F0 m 177 ls [.int t0, .ref (ad 733)]) := by
  obtain ⟨hx, hb, hml, hown, hts, hK, hN, hA⟩ := id hC
  unfold f_X7_come_177 at hf
  refine lv_iconst (v := (1 : Int32)) hx hb dX7_come_177 (by decide) ?_
  refine lv_goto (tgt := 182) hx hb dX7_come_178 (by decide) ?_
  exact w_X7_come_182 hC hR hrec38 hrec47 hI (lv_sub hl [0, 1, 2, 3, 4, 5] rfl) hf
def f_X7_come_151 (n : Nat) (rec38 : x_S × Int32 × Int32 × Int32 → Option (x_S)) (rec47 : x_S × Int32 × Int32 × Int32 × Int32 → Option (x_S)) (S : x_S) (a1 : Int32) (a2 : Int32) (a4 : Int32) (a5 : Int32) (a6 : Int32) (t0 : Int32) : Option (x_S) :=
x_g (¬ ((a4 + (1 : Int32)) < 0 ∨ 61 ≤ ((a4 + (1 : Int32))).toNatClampNeg)) (x_let (g_ar S 733 ((a4 + (1 : Int32))).toNatClampNeg) (fun v4 =>
if v4 = 0 then
if a6 = 0 then
f_X7_come_182 n rec38 rec47 S a1 a2 t0 a4 a5 (0 : Int32) (a4 + (1 : Int32))
else
f_X7_come_177 n rec38 rec47 S a1 a2 t0 a4 a5 (a4 + (1 : Int32))
else
f_X7_come_177 n rec38 rec47 S a1 a2 t0 a4 a5 (a4 + (1 : Int32))))
set_option maxHeartbeats 4000000 in
set_option maxRecDepth 100000 in
theorem w_X7_come_151 {r : x_S} {a1 : Int32} {a2 : Int32} {a4 : Int32} {a5 : Int32} {a6 : Int32} {t0 : Int32} {rec38 : x_S × Int32 × Int32 × Int32 → Option (x_S)} {rec47 : x_S × Int32 × Int32 × Int32 × Int32 → Option (x_S)} (hC : x_C p s m args meth c cX7_come 7 RX7 E A) (hR : x_Rv p l e { frames := 1, cells := 0, slots := 0, locals := 21 } s m args below meth c cX7_come E A Q (mw E ad r)) (hrec38 : ∀ z : x_S × Int32 × Int32 × Int32, rec38 z = some r → ∀ (H : Heap) (locs : List Loc) (ls : Array Slot), x_I E A s.heap (mw E ad z.1) H locs → lv_has ls 7 [(0, .ref (ad 799)), (1, .int z.2.1), (2, .int z.2.2.1), (3, .int z.2.2.2)] → W p l e { frames := 1, cells := 0, slots := 0, locals := 21 } s m args below meth c H locs 0 0 Q (F0 m 38 ls [])) (hrec47 : ∀ z : x_S × Int32 × Int32 × Int32 × Int32, rec47 z = some r → ∀ (H : Heap) (locs : List Loc) (ls : Array Slot), x_I E A s.heap (mw E ad z.1) H locs → lv_has ls 7 [(0, .ref (ad 799)), (1, .int z.2.1), (2, .int z.2.2.1), (3, .int z.2.2.2.1), (4, .int z.2.2.2.2)] → W p l e { frames := 1, cells := 0, slots := 0, locals := 21 } s m args below meth c H locs 0 0 Q (F0 m 47 ls [])) (hI : x_I E A s.heap (mw E ad S) H locs) (hl : lv_has ls 7 [(0, .ref (ad 799)), (1, .int a1), (2, .int a2), (4, .int a4), (5, .int a5), (6, .int a6)]) (hf : f_X7_come_151 n rec38 rec47 S a1 a2 a4 a5 a6 t0 = some r) : W p l e { frames := 1, cells := 0, slots := 0, locals := 21 } s m args below meth c H locs 0 0 Q (F0 m 151 ls [.int t0]) := by
  obtain ⟨hx, hb, hml, hown, hts, hK, hN, hA⟩ := id hC
  unfold f_X7_come_151 at hf
  refine lv_istore_n (lv' := [(3, .int t0), (0, .ref (ad 799)), (1, .int a1), (2, .int a2), (4, .int a4), (5, .int a5), (6, .int a6)]) hx hb dX7_come_151 rfl hl (by decide) rfl (fun ls hl => ?_)
  refine lv_aload_n hx hb dX7_come_152 rfl (lv_at hl 1 rfl) ?_
  refine gX7_33 hC hI lkf_X7_86 dX7_come_153 ?_
  refine lv_iload hx hb dX7_come_156 (lv_at hl 4 rfl) ?_
  refine lv_iconst (v := (1 : Int32)) hx hb dX7_come_158 (by decide) ?_
  refine lv_iadd hx hb dX7_come_159 ?_
  refine lv_aload_n hx hb dX7_come_160 rfl (lv_at hl 1 rfl) ?_
  refine gX7_33 hC hI lkf_X7_86 dX7_come_161 ?_
  refine lv_iload hx hb dX7_come_164 (lv_at hl 4 rfl) ?_
  refine lv_iconst (v := (1 : Int32)) hx hb dX7_come_166 (by decide) ?_
  refine lv_iadd hx hb dX7_come_167 ?_
  refine aX7_33 hC hI hf dX7_come_168 (fun v4 hf => ?_)
  refine x_ne0 hC 177 hf dX7_come_169 (by decide) (fun hf => ?_) (fun hf => ?_)
  · exact w_X7_come_177 hC hR hrec38 hrec47 hI (lv_sub hl [1, 2, 3, 0, 4, 5] rfl) hf
  · refine lv_iload hx hb dX7_come_172 (lv_at hl 6 rfl) ?_
    refine x_eq0 hC 181 hf dX7_come_174 (by decide) (fun hf => ?_) (fun hf => ?_)
    · refine lv_iconst (v := (0 : Int32)) hx hb dX7_come_181 (by decide) ?_
      exact w_X7_come_182 hC hR hrec38 hrec47 hI (lv_sub hl [1, 2, 3, 0, 4, 5] rfl) hf
    · exact w_X7_come_177 hC hR hrec38 hrec47 hI (lv_sub hl [1, 2, 3, 0, 4, 5] rfl) hf
def f_X7_come_146 (n : Nat) (rec38 : x_S × Int32 × Int32 × Int32 → Option (x_S)) (rec47 : x_S × Int32 × Int32 × Int32 × Int32 → Option (x_S)) (S : x_S) (a1 : Int32) (a2 : Int32) (a4 : Int32) (a5 : Int32) (a6 : Int32) : Option (x_S) :=
f_X7_come_151 n rec38 rec47 S a1 a2 a4 a5 a6 (1 : Int32)
set_option maxHeartbeats 4000000 in
set_option maxRecDepth 100000 in
theorem w_X7_come_146 {r : x_S} {a1 : Int32} {a2 : Int32} {a4 : Int32} {a5 : Int32} {a6 : Int32} {rec38 : x_S × Int32 × Int32 × Int32 → Option (x_S)} {rec47 : x_S × Int32 × Int32 × Int32 × Int32 → Option (x_S)} (hC : x_C p s m args meth c cX7_come 7 RX7 E A) (hR : x_Rv p l e { frames := 1, cells := 0, slots := 0, locals := 21 } s m args below meth c cX7_come E A Q (mw E ad r)) (hrec38 : ∀ z : x_S × Int32 × Int32 × Int32, rec38 z = some r → ∀ (H : Heap) (locs : List Loc) (ls : Array Slot), x_I E A s.heap (mw E ad z.1) H locs → lv_has ls 7 [(0, .ref (ad 799)), (1, .int z.2.1), (2, .int z.2.2.1), (3, .int z.2.2.2)] → W p l e { frames := 1, cells := 0, slots := 0, locals := 21 } s m args below meth c H locs 0 0 Q (F0 m 38 ls [])) (hrec47 : ∀ z : x_S × Int32 × Int32 × Int32 × Int32, rec47 z = some r → ∀ (H : Heap) (locs : List Loc) (ls : Array Slot), x_I E A s.heap (mw E ad z.1) H locs → lv_has ls 7 [(0, .ref (ad 799)), (1, .int z.2.1), (2, .int z.2.2.1), (3, .int z.2.2.2.1), (4, .int z.2.2.2.2)] → W p l e { frames := 1, cells := 0, slots := 0, locals := 21 } s m args below meth c H locs 0 0 Q (F0 m 47 ls [])) (hI : x_I E A s.heap (mw E ad S) H locs) (hl : lv_has ls 7 [(0, .ref (ad 799)), (1, .int a1), (2, .int a2), (4, .int a4), (5, .int a5), (6, .int a6)]) (hf : f_X7_come_146 n rec38 rec47 S a1 a2 a4 a5 a6 = some r) : W p l e { frames := 1, cells := 0, slots := 0, locals := 21 } s m args below meth c H locs 0 0 Q (F0 m 146 ls []) := by
  obtain ⟨hx, hb, hml, hown, hts, hK, hN, hA⟩ := id hC
  unfold f_X7_come_146 at hf
  refine lv_iconst (v := (1 : Int32)) hx hb dX7_come_146 (by decide) ?_
  refine lv_goto (tgt := 151) hx hb dX7_come_147 (by decide) ?_
  exact w_X7_come_151 hC hR hrec38 hrec47 hI (lv_sub hl [0, 1, 2, 3, 4, 5] rfl) hf
def f_X7_come_150 (n : Nat) (rec38 : x_S × Int32 × Int32 × Int32 → Option (x_S)) (rec47 : x_S × Int32 × Int32 × Int32 × Int32 → Option (x_S)) (S : x_S) (a1 : Int32) (a2 : Int32) (a4 : Int32) (a5 : Int32) (a6 : Int32) : Option (x_S) :=
f_X7_come_151 n rec38 rec47 S a1 a2 a4 a5 a6 (0 : Int32)
set_option maxHeartbeats 4000000 in
set_option maxRecDepth 100000 in
theorem w_X7_come_150 {r : x_S} {a1 : Int32} {a2 : Int32} {a4 : Int32} {a5 : Int32} {a6 : Int32} {rec38 : x_S × Int32 × Int32 × Int32 → Option (x_S)} {rec47 : x_S × Int32 × Int32 × Int32 × Int32 → Option (x_S)} (hC : x_C p s m args meth c cX7_come 7 RX7 E A) (hR : x_Rv p l e { frames := 1, cells := 0, slots := 0, locals := 21 } s m args below meth c cX7_come E A Q (mw E ad r)) (hrec38 : ∀ z : x_S × Int32 × Int32 × Int32, rec38 z = some r → ∀ (H : Heap) (locs : List Loc) (ls : Array Slot), x_I E A s.heap (mw E ad z.1) H locs → lv_has ls 7 [(0, .ref (ad 799)), (1, .int z.2.1), (2, .int z.2.2.1), (3, .int z.2.2.2)] → W p l e { frames := 1, cells := 0, slots := 0, locals := 21 } s m args below meth c H locs 0 0 Q (F0 m 38 ls [])) (hrec47 : ∀ z : x_S × Int32 × Int32 × Int32 × Int32, rec47 z = some r → ∀ (H : Heap) (locs : List Loc) (ls : Array Slot), x_I E A s.heap (mw E ad z.1) H locs → lv_has ls 7 [(0, .ref (ad 799)), (1, .int z.2.1), (2, .int z.2.2.1), (3, .int z.2.2.2.1), (4, .int z.2.2.2.2)] → W p l e { frames := 1, cells := 0, slots := 0, locals := 21 } s m args below meth c H locs 0 0 Q (F0 m 47 ls [])) (hI : x_I E A s.heap (mw E ad S) H locs) (hl : lv_has ls 7 [(0, .ref (ad 799)), (1, .int a1), (2, .int a2), (4, .int a4), (5, .int a5), (6, .int a6)]) (hf : f_X7_come_150 n rec38 rec47 S a1 a2 a4 a5 a6 = some r) : W p l e { frames := 1, cells := 0, slots := 0, locals := 21 } s m args below meth c H locs 0 0 Q (F0 m 150 ls []) := by
  obtain ⟨hx, hb, hml, hown, hts, hK, hN, hA⟩ := id hC
  unfold f_X7_come_150 at hf
  refine lv_iconst (v := (0 : Int32)) hx hb dX7_come_150 (by decide) ?_
  exact w_X7_come_151 hC hR hrec38 hrec47 hI (lv_sub hl [0, 1, 2, 3, 4, 5] rfl) hf
def f_X7_come_122 (n : Nat) (rec38 : x_S × Int32 × Int32 × Int32 → Option (x_S)) (rec47 : x_S × Int32 × Int32 × Int32 × Int32 → Option (x_S)) (S : x_S) (a1 : Int32) (a2 : Int32) (a4 : Int32) (a5 : Int32) (a6 : Int32) : Option (x_S) :=
x_b2 (f_X7_leads n S a5) (fun v11 S =>
if v11 = 0 then
f_X7_come_150 n rec38 rec47 S a1 a2 a4 a5 a6
else
x_g (¬ (a5 < 0 ∨ 720 ≤ (a5).toNatClampNeg)) (x_let (g_ar S 705 (a5).toNatClampNeg) (fun v12 =>
x_g (¬ (v12 < 0 ∨ 61 ≤ (v12).toNatClampNeg)) (x_let (g_ar S 733 (v12).toNatClampNeg) (fun v13 =>
if v13 = 0 then
f_X7_come_146 n rec38 rec47 S a1 a2 a4 a5 a6
else
f_X7_come_150 n rec38 rec47 S a1 a2 a4 a5 a6)))))
set_option maxHeartbeats 4000000 in
set_option maxRecDepth 100000 in
theorem w_X7_come_122 {r : x_S} {a1 : Int32} {a2 : Int32} {a4 : Int32} {a5 : Int32} {a6 : Int32} {rec38 : x_S × Int32 × Int32 × Int32 → Option (x_S)} {rec47 : x_S × Int32 × Int32 × Int32 × Int32 → Option (x_S)} (hC : x_C p s m args meth c cX7_come 7 RX7 E A) (hR : x_Rv p l e { frames := 1, cells := 0, slots := 0, locals := 21 } s m args below meth c cX7_come E A Q (mw E ad r)) (hrec38 : ∀ z : x_S × Int32 × Int32 × Int32, rec38 z = some r → ∀ (H : Heap) (locs : List Loc) (ls : Array Slot), x_I E A s.heap (mw E ad z.1) H locs → lv_has ls 7 [(0, .ref (ad 799)), (1, .int z.2.1), (2, .int z.2.2.1), (3, .int z.2.2.2)] → W p l e { frames := 1, cells := 0, slots := 0, locals := 21 } s m args below meth c H locs 0 0 Q (F0 m 38 ls [])) (hrec47 : ∀ z : x_S × Int32 × Int32 × Int32 × Int32, rec47 z = some r → ∀ (H : Heap) (locs : List Loc) (ls : Array Slot), x_I E A s.heap (mw E ad z.1) H locs → lv_has ls 7 [(0, .ref (ad 799)), (1, .int z.2.1), (2, .int z.2.2.1), (3, .int z.2.2.2.1), (4, .int z.2.2.2.2)] → W p l e { frames := 1, cells := 0, slots := 0, locals := 21 } s m args below meth c H locs 0 0 Q (F0 m 47 ls [])) (hI : x_I E A s.heap (mw E ad S) H locs) (hl : lv_has ls 7 [(0, .ref (ad 799)), (1, .int a1), (2, .int a2), (4, .int a4), (5, .int a5), (6, .int a6)]) (hf : f_X7_come_122 n rec38 rec47 S a1 a2 a4 a5 a6 = some r) : W p l e { frames := 1, cells := 0, slots := 0, locals := 21 } s m args below meth c H locs 0 0 Q (F0 m 122 ls []) := by
  obtain ⟨hx, hb, hml, hown, hts, hK, hN, hA⟩ := id hC
  unfold f_X7_come_122 at hf
  refine lv_aload_n hx hb dX7_come_122 rfl (lv_at hl 0 rfl) ?_
  refine lv_iload hx hb dX7_come_123 (lv_at hl 4 rfl) ?_
  obtain ⟨v11, S, hc10, hf⟩ := x_b2_eq hf
  refine x_callV hC hI (c_X7_leads hc10) 0 7 rfl rfl kv_X7_154 rfl ⟨Nat.le_of_ble_eq_true rfl, Nat.le_of_ble_eq_true rfl⟩ ⟨Nat.le_refl _, Nat.le_refl _⟩ hl.1 rfl (Nat.le_of_ble_eq_true rfl) dX7_come_125 (fun H locs hI => ?_)
  refine x_eq0 hC 150 hf dX7_come_128 (by decide) (fun hf => ?_) (fun hf => ?_)
  · exact w_X7_come_150 hC hR hrec38 hrec47 hI (lv_sub hl [0, 1, 2, 3, 4, 5] rfl) hf
  · refine lv_aload_n hx hb dX7_come_131 rfl (lv_at hl 0 rfl) ?_
    refine gX7_33 hC hI lkf_X7_86 dX7_come_132 ?_
    refine lv_aload_n hx hb dX7_come_135 rfl (lv_at hl 0 rfl) ?_
    refine gX7_5 hC hI lkf_X7_22 dX7_come_136 ?_
    refine lv_iload hx hb dX7_come_139 (lv_at hl 4 rfl) ?_
    refine aX7_5 hC hI hf dX7_come_141 (fun v12 hf => ?_)
    refine aX7_33 hC hI hf dX7_come_142 (fun v13 hf => ?_)
    refine x_ne0 hC 150 hf dX7_come_143 (by decide) (fun hf => ?_) (fun hf => ?_)
    · exact w_X7_come_150 hC hR hrec38 hrec47 hI (lv_sub hl [0, 1, 2, 3, 4, 5] rfl) hf
    · exact w_X7_come_146 hC hR hrec38 hrec47 hI (lv_sub hl [0, 1, 2, 3, 4, 5] rfl) hf
def f_X7_come_99 (n : Nat) (rec38 : x_S × Int32 × Int32 × Int32 → Option (x_S)) (rec47 : x_S × Int32 × Int32 × Int32 × Int32 → Option (x_S)) (S : x_S) (a1 : Int32) (a2 : Int32) (a3 : Int32) (a4 : Int32) (a5 : Int32) (t0 : Int32) : Option (x_S) :=
if a3 = 0 then
if t0 = 0 then
f_X7_come_122 n rec38 rec47 S a1 a2 a4 a5 t0
else
x_g (¬ ((a4 + (1 : Int32)) < 0 ∨ 61 ≤ ((a4 + (1 : Int32))).toNatClampNeg)) (x_let (g_ar S 733 ((a4 + (1 : Int32))).toNatClampNeg) (fun v14 =>
if v14 = 0 then
f_X7_come_146 n rec38 rec47 S a1 a2 a4 a5 t0
else
f_X7_come_122 n rec38 rec47 S a1 a2 a4 a5 t0))
else
f_X7_come_146 n rec38 rec47 S a1 a2 a4 a5 t0
set_option maxHeartbeats 4000000 in
set_option maxRecDepth 100000 in
theorem w_X7_come_99 {r : x_S} {a1 : Int32} {a2 : Int32} {a3 : Int32} {a4 : Int32} {a5 : Int32} {t0 : Int32} {rec38 : x_S × Int32 × Int32 × Int32 → Option (x_S)} {rec47 : x_S × Int32 × Int32 × Int32 × Int32 → Option (x_S)} (hC : x_C p s m args meth c cX7_come 7 RX7 E A) (hR : x_Rv p l e { frames := 1, cells := 0, slots := 0, locals := 21 } s m args below meth c cX7_come E A Q (mw E ad r)) (hrec38 : ∀ z : x_S × Int32 × Int32 × Int32, rec38 z = some r → ∀ (H : Heap) (locs : List Loc) (ls : Array Slot), x_I E A s.heap (mw E ad z.1) H locs → lv_has ls 7 [(0, .ref (ad 799)), (1, .int z.2.1), (2, .int z.2.2.1), (3, .int z.2.2.2)] → W p l e { frames := 1, cells := 0, slots := 0, locals := 21 } s m args below meth c H locs 0 0 Q (F0 m 38 ls [])) (hrec47 : ∀ z : x_S × Int32 × Int32 × Int32 × Int32, rec47 z = some r → ∀ (H : Heap) (locs : List Loc) (ls : Array Slot), x_I E A s.heap (mw E ad z.1) H locs → lv_has ls 7 [(0, .ref (ad 799)), (1, .int z.2.1), (2, .int z.2.2.1), (3, .int z.2.2.2.1), (4, .int z.2.2.2.2)] → W p l e { frames := 1, cells := 0, slots := 0, locals := 21 } s m args below meth c H locs 0 0 Q (F0 m 47 ls [])) (hI : x_I E A s.heap (mw E ad S) H locs) (hl : lv_has ls 7 [(0, .ref (ad 799)), (1, .int a1), (2, .int a2), (3, .int a3), (4, .int a4), (5, .int a5)]) (hf : f_X7_come_99 n rec38 rec47 S a1 a2 a3 a4 a5 t0 = some r) : W p l e { frames := 1, cells := 0, slots := 0, locals := 21 } s m args below meth c H locs 0 0 Q (F0 m 99 ls [.int t0]) := by
  obtain ⟨hx, hb, hml, hown, hts, hK, hN, hA⟩ := id hC
  unfold f_X7_come_99 at hf
  refine lv_istore (lv' := [(6, .int t0), (0, .ref (ad 799)), (1, .int a1), (2, .int a2), (3, .int a3), (4, .int a4), (5, .int a5)]) hx hb dX7_come_99 hl (by decide) rfl (fun ls hl => ?_)
  refine lv_iload_n hx hb dX7_come_101 rfl (lv_at hl 4 rfl) ?_
  refine x_ne0 hC 146 hf dX7_come_102 (by decide) (fun hf => ?_) (fun hf => ?_)
  · exact w_X7_come_146 hC hR hrec38 hrec47 hI (lv_sub hl [1, 2, 3, 5, 6, 0] rfl) hf
  · refine lv_iload hx hb dX7_come_105 (lv_at hl 0 rfl) ?_
    refine x_eq0 hC 122 hf dX7_come_107 (by decide) (fun hf => ?_) (fun hf => ?_)
    · exact w_X7_come_122 hC hR hrec38 hrec47 hI (lv_sub hl [1, 2, 3, 5, 6, 0] rfl) hf
    · refine lv_aload_n hx hb dX7_come_110 rfl (lv_at hl 1 rfl) ?_
      refine gX7_33 hC hI lkf_X7_86 dX7_come_111 ?_
      refine lv_iload hx hb dX7_come_114 (lv_at hl 5 rfl) ?_
      refine lv_iconst (v := (1 : Int32)) hx hb dX7_come_116 (by decide) ?_
      refine lv_iadd hx hb dX7_come_117 ?_
      refine aX7_33 hC hI hf dX7_come_118 (fun v14 hf => ?_)
      refine x_eq0 hC 146 hf dX7_come_119 (by decide) (fun hf => ?_) (fun hf => ?_)
      · exact w_X7_come_146 hC hR hrec38 hrec47 hI (lv_sub hl [1, 2, 3, 5, 6, 0] rfl) hf
      · exact w_X7_come_122 hC hR hrec38 hrec47 hI (lv_sub hl [1, 2, 3, 5, 6, 0] rfl) hf
def f_X7_come_98 (n : Nat) (rec38 : x_S × Int32 × Int32 × Int32 → Option (x_S)) (rec47 : x_S × Int32 × Int32 × Int32 × Int32 → Option (x_S)) (S : x_S) (a1 : Int32) (a2 : Int32) (a3 : Int32) (a4 : Int32) (a5 : Int32) : Option (x_S) :=
f_X7_come_99 n rec38 rec47 S a1 a2 a3 a4 a5 (0 : Int32)
set_option maxHeartbeats 4000000 in
set_option maxRecDepth 100000 in
theorem w_X7_come_98 {r : x_S} {a1 : Int32} {a2 : Int32} {a3 : Int32} {a4 : Int32} {a5 : Int32} {rec38 : x_S × Int32 × Int32 × Int32 → Option (x_S)} {rec47 : x_S × Int32 × Int32 × Int32 × Int32 → Option (x_S)} (hC : x_C p s m args meth c cX7_come 7 RX7 E A) (hR : x_Rv p l e { frames := 1, cells := 0, slots := 0, locals := 21 } s m args below meth c cX7_come E A Q (mw E ad r)) (hrec38 : ∀ z : x_S × Int32 × Int32 × Int32, rec38 z = some r → ∀ (H : Heap) (locs : List Loc) (ls : Array Slot), x_I E A s.heap (mw E ad z.1) H locs → lv_has ls 7 [(0, .ref (ad 799)), (1, .int z.2.1), (2, .int z.2.2.1), (3, .int z.2.2.2)] → W p l e { frames := 1, cells := 0, slots := 0, locals := 21 } s m args below meth c H locs 0 0 Q (F0 m 38 ls [])) (hrec47 : ∀ z : x_S × Int32 × Int32 × Int32 × Int32, rec47 z = some r → ∀ (H : Heap) (locs : List Loc) (ls : Array Slot), x_I E A s.heap (mw E ad z.1) H locs → lv_has ls 7 [(0, .ref (ad 799)), (1, .int z.2.1), (2, .int z.2.2.1), (3, .int z.2.2.2.1), (4, .int z.2.2.2.2)] → W p l e { frames := 1, cells := 0, slots := 0, locals := 21 } s m args below meth c H locs 0 0 Q (F0 m 47 ls [])) (hI : x_I E A s.heap (mw E ad S) H locs) (hl : lv_has ls 7 [(0, .ref (ad 799)), (1, .int a1), (2, .int a2), (3, .int a3), (4, .int a4), (5, .int a5)]) (hf : f_X7_come_98 n rec38 rec47 S a1 a2 a3 a4 a5 = some r) : W p l e { frames := 1, cells := 0, slots := 0, locals := 21 } s m args below meth c H locs 0 0 Q (F0 m 98 ls []) := by
  obtain ⟨hx, hb, hml, hown, hts, hK, hN, hA⟩ := id hC
  unfold f_X7_come_98 at hf
  refine lv_iconst (v := (0 : Int32)) hx hb dX7_come_98 (by decide) ?_
  exact w_X7_come_99 hC hR hrec38 hrec47 hI (lv_sub hl [0, 1, 2, 3, 4, 5] rfl) hf
def f_X7_come_47 (n : Nat) (rec38 : x_S × Int32 × Int32 × Int32 → Option (x_S)) (rec47 : x_S × Int32 × Int32 × Int32 × Int32 → Option (x_S)) (S : x_S) (a1 : Int32) (a2 : Int32) (a3 : Int32) (a4 : Int32) : Option (x_S) :=
if a2 ≤ a4 then
rec38 (S, a1, a2, a3)
else
x_g (¬ (a4 < 0 ∨ 61 ≤ (a4).toNatClampNeg)) (x_let (g_ar S 733 (a4).toNatClampNeg) (fun v2 =>
if v2 = 0 then
f_X7_come_224 n rec38 rec47 S a1 a2 a3 a4
else
x_g (¬ ((((60 : Int32) * a1) + a4) < 0 ∨ 720 ≤ ((((60 : Int32) * a1) + a4)).toNatClampNeg)) (x_let (g_ar S 702 ((((60 : Int32) * a1) + a4)).toNatClampNeg) (fun v3 =>
if v3 = (2 : Int32) then
f_X7_come_98 n rec38 rec47 S a1 a2 a3 a4 (((60 : Int32) * a1) + a4)
else
x_g (¬ ((((60 : Int32) * a1) + a4) < 0 ∨ 720 ≤ ((((60 : Int32) * a1) + a4)).toNatClampNeg)) (x_let (g_ar S 702 ((((60 : Int32) * a1) + a4)).toNatClampNeg) (fun v15 =>
if v15 = (4 : Int32) then
f_X7_come_98 n rec38 rec47 S a1 a2 a3 a4 (((60 : Int32) * a1) + a4)
else
f_X7_come_99 n rec38 rec47 S a1 a2 a3 a4 (((60 : Int32) * a1) + a4) (1 : Int32)))))))
set_option maxHeartbeats 4000000 in
set_option maxRecDepth 100000 in
theorem w_X7_come_47 {r : x_S} {a1 : Int32} {a2 : Int32} {a3 : Int32} {a4 : Int32} {rec38 : x_S × Int32 × Int32 × Int32 → Option (x_S)} {rec47 : x_S × Int32 × Int32 × Int32 × Int32 → Option (x_S)} (hC : x_C p s m args meth c cX7_come 7 RX7 E A) (hR : x_Rv p l e { frames := 1, cells := 0, slots := 0, locals := 21 } s m args below meth c cX7_come E A Q (mw E ad r)) (hrec38 : ∀ z : x_S × Int32 × Int32 × Int32, rec38 z = some r → ∀ (H : Heap) (locs : List Loc) (ls : Array Slot), x_I E A s.heap (mw E ad z.1) H locs → lv_has ls 7 [(0, .ref (ad 799)), (1, .int z.2.1), (2, .int z.2.2.1), (3, .int z.2.2.2)] → W p l e { frames := 1, cells := 0, slots := 0, locals := 21 } s m args below meth c H locs 0 0 Q (F0 m 38 ls [])) (hrec47 : ∀ z : x_S × Int32 × Int32 × Int32 × Int32, rec47 z = some r → ∀ (H : Heap) (locs : List Loc) (ls : Array Slot), x_I E A s.heap (mw E ad z.1) H locs → lv_has ls 7 [(0, .ref (ad 799)), (1, .int z.2.1), (2, .int z.2.2.1), (3, .int z.2.2.2.1), (4, .int z.2.2.2.2)] → W p l e { frames := 1, cells := 0, slots := 0, locals := 21 } s m args below meth c H locs 0 0 Q (F0 m 47 ls [])) (hI : x_I E A s.heap (mw E ad S) H locs) (hl : lv_has ls 7 [(0, .ref (ad 799)), (1, .int a1), (2, .int a2), (3, .int a3), (4, .int a4)]) (hf : f_X7_come_47 n rec38 rec47 S a1 a2 a3 a4 = some r) : W p l e { frames := 1, cells := 0, slots := 0, locals := 21 } s m args below meth c H locs 0 0 Q (F0 m 47 ls []) := by
  obtain ⟨hx, hb, hml, hown, hts, hK, hN, hA⟩ := id hC
  unfold f_X7_come_47 at hf
  refine lv_iload hx hb dX7_come_47 (lv_at hl 4 rfl) ?_
  refine lv_iload_n hx hb dX7_come_49 rfl (lv_at hl 2 rfl) ?_
  refine x_ige hC 230 hf dX7_come_50 (by decide) (fun hf => ?_) (fun hf => ?_)
  · refine lv_goto (tgt := 38) hx hb dX7_come_230 (by decide) ?_
    exact hrec38 _ hf _ _ _ hI (lv_sub hl [0, 1, 2, 3] rfl)
  · refine lv_bipush (v := (60 : Int32)) hx hb dX7_come_53 (by decide) ?_
    refine lv_iload_n hx hb dX7_come_55 rfl (lv_at hl 1 rfl) ?_
    refine lv_imul hx hb dX7_come_56 ?_
    refine lv_iload hx hb dX7_come_57 (lv_at hl 4 rfl) ?_
    refine lv_iadd hx hb dX7_come_59 ?_
    refine lv_istore (lv' := [(5, .int (((60 : Int32) * a1) + a4)), (0, .ref (ad 799)), (1, .int a1), (2, .int a2), (3, .int a3), (4, .int a4)]) hx hb dX7_come_60 hl (by decide) rfl (fun ls hl => ?_)
    refine lv_aload_n hx hb dX7_come_62 rfl (lv_at hl 1 rfl) ?_
    refine gX7_33 hC hI lkf_X7_86 dX7_come_63 ?_
    refine lv_iload hx hb dX7_come_66 (lv_at hl 5 rfl) ?_
    refine aX7_33 hC hI hf dX7_come_68 (fun v2 hf => ?_)
    refine x_eq0 hC 224 hf dX7_come_69 (by decide) (fun hf => ?_) (fun hf => ?_)
    · exact w_X7_come_224 hC hR hrec38 hrec47 hI (lv_sub hl [1, 2, 3, 4, 5] rfl) hf
    · refine lv_aload_n hx hb dX7_come_72 rfl (lv_at hl 1 rfl) ?_
      refine gX7_2 hC hI lkf_X7_13 dX7_come_73 ?_
      refine lv_iload hx hb dX7_come_76 (lv_at hl 0 rfl) ?_
      refine aX7_2 hC hI hf dX7_come_78 (fun v3 hf => ?_)
      refine lv_iconst (v := (2 : Int32)) hx hb dX7_come_79 (by decide) ?_
      refine x_ieq hC 98 hf dX7_come_80 (by decide) (fun hf => ?_) (fun hf => ?_)
      · exact w_X7_come_98 hC hR hrec38 hrec47 hI (lv_sub hl [1, 2, 3, 4, 5, 0] rfl) hf
      · refine lv_aload_n hx hb dX7_come_83 rfl (lv_at hl 1 rfl) ?_
        refine gX7_2 hC hI lkf_X7_13 dX7_come_84 ?_
        refine lv_iload hx hb dX7_come_87 (lv_at hl 0 rfl) ?_
        refine aX7_2 hC hI hf dX7_come_89 (fun v15 hf => ?_)
        refine lv_iconst (v := (4 : Int32)) hx hb dX7_come_90 (by decide) ?_
        refine x_ieq hC 98 hf dX7_come_91 (by decide) (fun hf => ?_) (fun hf => ?_)
        · exact w_X7_come_98 hC hR hrec38 hrec47 hI (lv_sub hl [1, 2, 3, 4, 5, 0] rfl) hf
        · refine lv_iconst (v := (1 : Int32)) hx hb dX7_come_94 (by decide) ?_
          refine lv_goto (tgt := 99) hx hb dX7_come_95 (by decide) ?_
          exact w_X7_come_99 hC hR hrec38 hrec47 hI (lv_sub hl [1, 2, 3, 4, 5, 0] rfl) hf
theorem w_X7_come_47_loop {r : x_S} {rec38 : x_S × Int32 × Int32 × Int32 → Option (x_S)} (hC : x_C p s m args meth c cX7_come 7 RX7 E A) (hR : x_Rv p l e { frames := 1, cells := 0, slots := 0, locals := 21 } s m args below meth c cX7_come E A Q (mw E ad r)) (hrec38 : ∀ z : x_S × Int32 × Int32 × Int32, rec38 z = some r → ∀ (H : Heap) (locs : List Loc) (ls : Array Slot), x_I E A s.heap (mw E ad z.1) H locs → lv_has ls 7 [(0, .ref (ad 799)), (1, .int z.2.1), (2, .int z.2.2.1), (3, .int z.2.2.2)] → W p l e { frames := 1, cells := 0, slots := 0, locals := 21 } s m args below meth c H locs 0 0 Q (F0 m 38 ls [])) : ∀ (k : Nat) (z : x_S × Int32 × Int32 × Int32 × Int32), x_loop (fun rec z => f_X7_come_47 n rec38 rec z.1 z.2.1 z.2.2.1 z.2.2.2.1 z.2.2.2.2) k z = some r → ∀ (H : Heap) (locs : List Loc) (ls : Array Slot), x_I E A s.heap (mw E ad z.1) H locs → lv_has ls 7 [(0, .ref (ad 799)), (1, .int z.2.1), (2, .int z.2.2.1), (3, .int z.2.2.2.1), (4, .int z.2.2.2.2)] → W p l e { frames := 1, cells := 0, slots := 0, locals := 21 } s m args below meth c H locs 0 0 Q (F0 m 47 ls []) :=
  x_loop_ind (P := fun (z : x_S × Int32 × Int32 × Int32 × Int32) => ∀ (H : Heap) (locs : List Loc) (ls : Array Slot), x_I E A s.heap (mw E ad z.1) H locs → lv_has ls 7 [(0, .ref (ad 799)), (1, .int z.2.1), (2, .int z.2.2.1), (3, .int z.2.2.2.1), (4, .int z.2.2.2.2)] → W p l e { frames := 1, cells := 0, slots := 0, locals := 21 } s m args below meth c H locs 0 0 Q (F0 m 47 ls [])) (fun rec hrec z hf H locs ls hI hl => w_X7_come_47 hC hR hrec38 hrec hI hl hf)
def f_X7_come_38 (n : Nat) (rec38 : x_S × Int32 × Int32 × Int32 → Option (x_S)) (S : x_S) (a1 : Int32) (a2 : Int32) (a3 : Int32) : Option (x_S) :=
if a3 = 0 then
some S
else
x_loop (fun rec z => f_X7_come_47 n rec38 rec z.1 z.2.1 z.2.2.1 z.2.2.2.1 z.2.2.2.2) n (S, a1, a2, (0 : Int32), (0 : Int32))
set_option maxHeartbeats 4000000 in
set_option maxRecDepth 100000 in
theorem w_X7_come_38 {r : x_S} {a1 : Int32} {a2 : Int32} {a3 : Int32} {rec38 : x_S × Int32 × Int32 × Int32 → Option (x_S)} (hC : x_C p s m args meth c cX7_come 7 RX7 E A) (hR : x_Rv p l e { frames := 1, cells := 0, slots := 0, locals := 21 } s m args below meth c cX7_come E A Q (mw E ad r)) (hrec38 : ∀ z : x_S × Int32 × Int32 × Int32, rec38 z = some r → ∀ (H : Heap) (locs : List Loc) (ls : Array Slot), x_I E A s.heap (mw E ad z.1) H locs → lv_has ls 7 [(0, .ref (ad 799)), (1, .int z.2.1), (2, .int z.2.2.1), (3, .int z.2.2.2)] → W p l e { frames := 1, cells := 0, slots := 0, locals := 21 } s m args below meth c H locs 0 0 Q (F0 m 38 ls [])) (hI : x_I E A s.heap (mw E ad S) H locs) (hl : lv_has ls 7 [(0, .ref (ad 799)), (1, .int a1), (2, .int a2), (3, .int a3)]) (hf : f_X7_come_38 n rec38 S a1 a2 a3 = some r) : W p l e { frames := 1, cells := 0, slots := 0, locals := 21 } s m args below meth c H locs 0 0 Q (F0 m 38 ls []) := by
  obtain ⟨hx, hb, hml, hown, hts, hK, hN, hA⟩ := id hC
  unfold f_X7_come_38 at hf
  refine lv_iload_n hx hb dX7_come_38 rfl (lv_at hl 3 rfl) ?_
  refine x_eq0 hC 233 hf dX7_come_39 (by decide) (fun hf => ?_) (fun hf => ?_)
  · obtain rfl := Option.some.inj hf
    exact hR _ _ _ _ hI dX7_come_233
  · refine lv_iconst (v := (0 : Int32)) hx hb dX7_come_42 (by decide) ?_
    refine lv_istore_n (lv' := [(3, .int (0 : Int32)), (0, .ref (ad 799)), (1, .int a1), (2, .int a2)]) hx hb dX7_come_43 rfl hl (by decide) rfl (fun ls hl => ?_)
    refine lv_iconst (v := (0 : Int32)) hx hb dX7_come_44 (by decide) ?_
    refine lv_istore (lv' := [(4, .int (0 : Int32)), (3, .int (0 : Int32)), (0, .ref (ad 799)), (1, .int a1), (2, .int a2)]) hx hb dX7_come_45 hl (by decide) rfl (fun ls hl => ?_)
    exact w_X7_come_47_loop hC hR hrec38 _ _ hf _ _ _ hI (lv_sub hl [2, 3, 4, 1, 0] rfl)
theorem w_X7_come_38_loop {r : x_S} (hC : x_C p s m args meth c cX7_come 7 RX7 E A) (hR : x_Rv p l e { frames := 1, cells := 0, slots := 0, locals := 21 } s m args below meth c cX7_come E A Q (mw E ad r)) : ∀ (k : Nat) (z : x_S × Int32 × Int32 × Int32), x_loop (fun rec z => f_X7_come_38 n rec z.1 z.2.1 z.2.2.1 z.2.2.2) k z = some r → ∀ (H : Heap) (locs : List Loc) (ls : Array Slot), x_I E A s.heap (mw E ad z.1) H locs → lv_has ls 7 [(0, .ref (ad 799)), (1, .int z.2.1), (2, .int z.2.2.1), (3, .int z.2.2.2)] → W p l e { frames := 1, cells := 0, slots := 0, locals := 21 } s m args below meth c H locs 0 0 Q (F0 m 38 ls []) :=
  x_loop_ind (P := fun (z : x_S × Int32 × Int32 × Int32) => ∀ (H : Heap) (locs : List Loc) (ls : Array Slot), x_I E A s.heap (mw E ad z.1) H locs → lv_has ls 7 [(0, .ref (ad 799)), (1, .int z.2.1), (2, .int z.2.2.1), (3, .int z.2.2.2)] → W p l e { frames := 1, cells := 0, slots := 0, locals := 21 } s m args below meth c H locs 0 0 Q (F0 m 38 ls [])) (fun rec hrec z hf H locs ls hI hl => w_X7_come_38 hC hR hrec hI hl hf)
def f_X7_come_29 (n : Nat) (rec9 : x_S × Int32 × Int32 × Int32 → Option (x_S)) (S : x_S) (a1 : Int32) (a2 : Int32) (a3 : Int32) (t0 : Int32) (t1 : Int32) : Option (x_S) :=
x_g (¬ (t1 < 0 ∨ 61 ≤ (t1).toNatClampNeg)) (x_g (t0 = 0 ∨ t0 = 1) (x_let (s_ar S 733 (t1).toNatClampNeg t0) (fun S =>
rec9 (S, a1, a2, (a3 + (1 : Int32))))))
set_option maxHeartbeats 4000000 in
set_option maxRecDepth 100000 in
theorem w_X7_come_29 {r : x_S} {a1 : Int32} {a2 : Int32} {a3 : Int32} {t0 : Int32} {t1 : Int32} {rec9 : x_S × Int32 × Int32 × Int32 → Option (x_S)} (hC : x_C p s m args meth c cX7_come 7 RX7 E A) (hR : x_Rv p l e { frames := 1, cells := 0, slots := 0, locals := 21 } s m args below meth c cX7_come E A Q (mw E ad r)) (hrec9 : ∀ z : x_S × Int32 × Int32 × Int32, rec9 z = some r → ∀ (H : Heap) (locs : List Loc) (ls : Array Slot), x_I E A s.heap (mw E ad z.1) H locs → lv_has ls 7 [(0, .ref (ad 799)), (1, .int z.2.1), (2, .int z.2.2.1), (3, .int z.2.2.2)] → W p l e { frames := 1, cells := 0, slots := 0, locals := 21 } s m args below meth c H locs 0 0 Q (F0 m 9 ls [])) (hI : x_I E A s.heap (mw E ad S) H locs) (hl : lv_has ls 7 [(0, .ref (ad 799)), (1, .int a1), (2, .int a2), (3, .int a3)]) (hf : f_X7_come_29 n rec9 S a1 a2 a3 t0 t1 = some r) : W p l e { frames := 1, cells := 0, slots := 0, locals := 21 } s m args below meth c H locs 0 0 Q (F0 m 29 ls [.int t0, .int t1, .ref (ad 733)]) := by
  obtain ⟨hx, hb, hml, hown, hts, hK, hN, hA⟩ := id hC
  unfold f_X7_come_29 at hf
  refine tX7_33 hC hI hf dX7_come_29 (fun S H locs hI hf => ?_)
  refine lv_iinc (v := (a3 + (1 : Int32))) (lv' := [(3, .int (a3 + (1 : Int32))), (0, .ref (ad 799)), (1, .int a1), (2, .int a2)]) hx hb dX7_come_30 hl (k := 3) rfl rfl (by decide) rfl (fun ls hl => ?_)
  refine lv_goto (tgt := 9) hx hb dX7_come_33 (by decide) ?_
  exact hrec9 _ hf _ _ _ hI (lv_sub hl [1, 2, 3, 0] rfl)
def f_X7_come_9 (n : Nat) (rec9 : x_S × Int32 × Int32 × Int32 → Option (x_S)) (S : x_S) (a1 : Int32) (a2 : Int32) (a3 : Int32) : Option (x_S) :=
if (60 : Int32) < a3 then
x_loop (fun rec z => f_X7_come_38 n rec z.1 z.2.1 z.2.2.1 z.2.2.2) n (S, a1, a2, (1 : Int32))
else
if a3 = 0 then
f_X7_come_29 n rec9 S a1 a2 a3 (1 : Int32) a3
else
f_X7_come_29 n rec9 S a1 a2 a3 (0 : Int32) a3
set_option maxHeartbeats 4000000 in
set_option maxRecDepth 100000 in
theorem w_X7_come_9 {r : x_S} {a1 : Int32} {a2 : Int32} {a3 : Int32} {rec9 : x_S × Int32 × Int32 × Int32 → Option (x_S)} (hC : x_C p s m args meth c cX7_come 7 RX7 E A) (hR : x_Rv p l e { frames := 1, cells := 0, slots := 0, locals := 21 } s m args below meth c cX7_come E A Q (mw E ad r)) (hrec9 : ∀ z : x_S × Int32 × Int32 × Int32, rec9 z = some r → ∀ (H : Heap) (locs : List Loc) (ls : Array Slot), x_I E A s.heap (mw E ad z.1) H locs → lv_has ls 7 [(0, .ref (ad 799)), (1, .int z.2.1), (2, .int z.2.2.1), (3, .int z.2.2.2)] → W p l e { frames := 1, cells := 0, slots := 0, locals := 21 } s m args below meth c H locs 0 0 Q (F0 m 9 ls [])) (hI : x_I E A s.heap (mw E ad S) H locs) (hl : lv_has ls 7 [(0, .ref (ad 799)), (1, .int a1), (2, .int a2), (3, .int a3)]) (hf : f_X7_come_9 n rec9 S a1 a2 a3 = some r) : W p l e { frames := 1, cells := 0, slots := 0, locals := 21 } s m args below meth c H locs 0 0 Q (F0 m 9 ls []) := by
  obtain ⟨hx, hb, hml, hown, hts, hK, hN, hA⟩ := id hC
  unfold f_X7_come_9 at hf
  refine lv_iload_n hx hb dX7_come_9 rfl (lv_at hl 3 rfl) ?_
  refine lv_bipush (v := (60 : Int32)) hx hb dX7_come_10 (by decide) ?_
  refine x_igt hC 36 hf dX7_come_12 (by decide) (fun hf => ?_) (fun hf => ?_)
  · refine lv_iconst (v := (1 : Int32)) hx hb dX7_come_36 (by decide) ?_
    refine lv_istore_n (lv' := [(3, .int (1 : Int32)), (0, .ref (ad 799)), (1, .int a1), (2, .int a2)]) hx hb dX7_come_37 rfl hl (by decide) rfl (fun ls hl => ?_)
    exact w_X7_come_38_loop hC hR _ _ hf _ _ _ hI (lv_sub hl [1, 2, 3, 0] rfl)
  · refine lv_aload_n hx hb dX7_come_15 rfl (lv_at hl 0 rfl) ?_
    refine gX7_33 hC hI lkf_X7_86 dX7_come_16 ?_
    refine lv_iload_n hx hb dX7_come_19 rfl (lv_at hl 3 rfl) ?_
    refine lv_iload_n hx hb dX7_come_20 rfl (lv_at hl 3 rfl) ?_
    refine x_ne0 hC 28 hf dX7_come_21 (by decide) (fun hf => ?_) (fun hf => ?_)
    · refine lv_iconst (v := (0 : Int32)) hx hb dX7_come_28 (by decide) ?_
      exact w_X7_come_29 hC hR hrec9 hI (lv_sub hl [0, 1, 2, 3] rfl) hf
    · refine lv_iconst (v := (1 : Int32)) hx hb dX7_come_24 (by decide) ?_
      refine lv_goto (tgt := 29) hx hb dX7_come_25 (by decide) ?_
      exact w_X7_come_29 hC hR hrec9 hI (lv_sub hl [0, 1, 2, 3] rfl) hf
theorem w_X7_come_9_loop {r : x_S} (hC : x_C p s m args meth c cX7_come 7 RX7 E A) (hR : x_Rv p l e { frames := 1, cells := 0, slots := 0, locals := 21 } s m args below meth c cX7_come E A Q (mw E ad r)) : ∀ (k : Nat) (z : x_S × Int32 × Int32 × Int32), x_loop (fun rec z => f_X7_come_9 n rec z.1 z.2.1 z.2.2.1 z.2.2.2) k z = some r → ∀ (H : Heap) (locs : List Loc) (ls : Array Slot), x_I E A s.heap (mw E ad z.1) H locs → lv_has ls 7 [(0, .ref (ad 799)), (1, .int z.2.1), (2, .int z.2.2.1), (3, .int z.2.2.2)] → W p l e { frames := 1, cells := 0, slots := 0, locals := 21 } s m args below meth c H locs 0 0 Q (F0 m 9 ls []) :=
  x_loop_ind (P := fun (z : x_S × Int32 × Int32 × Int32) => ∀ (H : Heap) (locs : List Loc) (ls : Array Slot), x_I E A s.heap (mw E ad z.1) H locs → lv_has ls 7 [(0, .ref (ad 799)), (1, .int z.2.1), (2, .int z.2.2.1), (3, .int z.2.2.2)] → W p l e { frames := 1, cells := 0, slots := 0, locals := 21 } s m args below meth c H locs 0 0 Q (F0 m 9 ls [])) (fun rec hrec z hf H locs ls hI hl => w_X7_come_9 hC hR hrec hI hl hf)
def f_X7_come (n : Nat) (S : x_S) (a1 : Int32) : Option (x_S) :=
x_g (¬ (a1 < 0 ∨ 12 ≤ (a1).toNatClampNeg)) (x_let (g_ar S 701 (a1).toNatClampNeg) (fun v1 =>
x_loop (fun rec z => f_X7_come_9 n rec z.1 z.2.1 z.2.2.1 z.2.2.2) n (S, a1, v1, (0 : Int32))))
set_option maxHeartbeats 4000000 in
set_option maxRecDepth 100000 in
theorem w_X7_come {r : x_S} {a1 : Int32} (hC : x_C p s m args meth c cX7_come 7 RX7 E A) (hR : x_Rv p l e { frames := 1, cells := 0, slots := 0, locals := 21 } s m args below meth c cX7_come E A Q (mw E ad r)) (hI : x_I E A s.heap (mw E ad S) H locs) (hl : lv_has ls 7 [(0, .ref (ad 799)), (1, .int a1)]) (hf : f_X7_come n S a1 = some r) : W p l e { frames := 1, cells := 0, slots := 0, locals := 21 } s m args below meth c H locs 0 0 Q (F0 m 0 ls []) := by
  obtain ⟨hx, hb, hml, hown, hts, hK, hN, hA⟩ := id hC
  unfold f_X7_come at hf
  refine lv_aload_n hx hb dX7_come_0 rfl (lv_at hl 0 rfl) ?_
  refine gX7_1 hC hI lkf_X7_7 dX7_come_1 ?_
  refine lv_iload_n hx hb dX7_come_4 rfl (lv_at hl 1 rfl) ?_
  refine aX7_1 hC hI hf dX7_come_5 (fun v1 hf => ?_)
  refine lv_istore_n (lv' := [(2, .int v1), (0, .ref (ad 799)), (1, .int a1)]) hx hb dX7_come_6 rfl hl (by decide) rfl (fun ls hl => ?_)
  refine lv_iconst (v := (0 : Int32)) hx hb dX7_come_7 (by decide) ?_
  refine lv_istore_n (lv' := [(3, .int (0 : Int32)), (2, .int v1), (0, .ref (ad 799)), (1, .int a1)]) hx hb dX7_come_8 rfl hl (by decide) rfl (fun ls hl => ?_)
  exact w_X7_come_9_loop hC hR _ _ hf _ _ _ hI (lv_sub hl [2, 3, 1, 0] rfl)
theorem c_X7_come {a1 : Int32} {S1 : x_S} (hf : f_X7_come n S a1 = some S1) : x_M l yX7_come cX7_come 7 none 1 21 E [.ref (ad 799), .int a1] (mw E ad S) (mw E ad S1) none :=
  x_entV (by decide) (Nat.le_of_ble_eq_true rfl) (fun p e s m args below meth c A Q ls hC hI hR hl => w_X7_come (r := S1) hC hR hI hl hf)
-- X7_told
def f_X7_told_278 (n : Nat) (rec147 : x_S × Int32 × Int32 × Int32 → Option (Int32 × x_S)) (S : x_S) (a2 : Int32) (a6 : Int32) (t0 : Int32) : Option (Int32 × x_S) :=
rec147 (S, a2, t0, (a6 + (1 : Int32)))
set_option maxHeartbeats 4000000 in
set_option maxRecDepth 100000 in
theorem w_X7_told_278 {r : Int32 × x_S} {a2 : Int32} {a6 : Int32} {t0 : Int32} {rec147 : x_S × Int32 × Int32 × Int32 → Option (Int32 × x_S)} (hC : x_C p s m args meth c cX7_told 10 RX7 E A) (hR : x_Ri p l e { frames := 4, cells := 0, slots := 0, locals := 111 } s m args below meth c cX7_told E A Q (mw E ad r.2) r.1) (hrec147 : ∀ z : x_S × Int32 × Int32 × Int32, rec147 z = some r → ∀ (H : Heap) (locs : List Loc) (ls : Array Slot), x_I E A s.heap (mw E ad z.1) H locs → lv_has ls 10 [(0, .ref (ad 799)), (2, .int z.2.1), (5, .int z.2.2.1), (6, .int z.2.2.2)] → W p l e { frames := 4, cells := 0, slots := 0, locals := 111 } s m args below meth c H locs 0 0 Q (F0 m 147 ls [])) (hI : x_I E A s.heap (mw E ad S) H locs) (hl : lv_has ls 10 [(0, .ref (ad 799)), (2, .int a2), (6, .int a6)]) (hf : f_X7_told_278 n rec147 S a2 a6 t0 = some r) : W p l e { frames := 4, cells := 0, slots := 0, locals := 111 } s m args below meth c H locs 0 0 Q (F0 m 278 ls [.int t0]) := by
  obtain ⟨hx, hb, hml, hown, hts, hK, hN, hA⟩ := id hC
  unfold f_X7_told_278 at hf
  refine lv_istore (lv' := [(5, .int t0), (0, .ref (ad 799)), (2, .int a2), (6, .int a6)]) hx hb dX7_told_278 hl (by decide) rfl (fun ls hl => ?_)
  refine lv_iinc (v := (a6 + (1 : Int32))) (lv' := [(6, .int (a6 + (1 : Int32))), (5, .int t0), (0, .ref (ad 799)), (2, .int a2)]) hx hb dX7_told_280 hl (k := 3) rfl rfl (by decide) rfl (fun ls hl => ?_)
  refine lv_goto (tgt := 147) hx hb dX7_told_283 (by decide) ?_
  exact hrec147 _ hf _ _ _ hI (lv_sub hl [2, 3, 1, 0] rfl)
def f_X7_told_264 (n : Nat) (rec147 : x_S × Int32 × Int32 × Int32 → Option (Int32 × x_S)) (S : x_S) (a2 : Int32) (a5 : Int32) (a6 : Int32) (t0 : Int32) : Option (Int32 × x_S) :=
if t0 = 0 then
f_X7_told_278 n rec147 S a2 a6 a5
else
f_X7_told_278 n rec147 S a2 a6 a6
set_option maxHeartbeats 4000000 in
set_option maxRecDepth 100000 in
theorem w_X7_told_264 {r : Int32 × x_S} {a2 : Int32} {a5 : Int32} {a6 : Int32} {t0 : Int32} {rec147 : x_S × Int32 × Int32 × Int32 → Option (Int32 × x_S)} (hC : x_C p s m args meth c cX7_told 10 RX7 E A) (hR : x_Ri p l e { frames := 4, cells := 0, slots := 0, locals := 111 } s m args below meth c cX7_told E A Q (mw E ad r.2) r.1) (hrec147 : ∀ z : x_S × Int32 × Int32 × Int32, rec147 z = some r → ∀ (H : Heap) (locs : List Loc) (ls : Array Slot), x_I E A s.heap (mw E ad z.1) H locs → lv_has ls 10 [(0, .ref (ad 799)), (2, .int z.2.1), (5, .int z.2.2.1), (6, .int z.2.2.2)] → W p l e { frames := 4, cells := 0, slots := 0, locals := 111 } s m args below meth c H locs 0 0 Q (F0 m 147 ls [])) (hI : x_I E A s.heap (mw E ad S) H locs) (hl : lv_has ls 10 [(0, .ref (ad 799)), (2, .int a2), (5, .int a5), (6, .int a6)]) (hf : f_X7_told_264 n rec147 S a2 a5 a6 t0 = some r) : W p l e { frames := 4, cells := 0, slots := 0, locals := 111 } s m args below meth c H locs 0 0 Q (F0 m 264 ls [.int t0]) := by
  obtain ⟨hx, hb, hml, hown, hts, hK, hN, hA⟩ := id hC
  unfold f_X7_told_264 at hf
  refine lv_istore (lv' := [(9, .int t0), (0, .ref (ad 799)), (2, .int a2), (5, .int a5), (6, .int a6)]) hx hb dX7_told_264 hl (by decide) rfl (fun ls hl => ?_)
  refine lv_iload hx hb dX7_told_266 (lv_at hl 0 rfl) ?_
  refine x_eq0 hC 276 hf dX7_told_268 (by decide) (fun hf => ?_) (fun hf => ?_)
  · refine lv_iload hx hb dX7_told_276 (lv_at hl 3 rfl) ?_
    exact w_X7_told_278 hC hR hrec147 hI (lv_sub hl [1, 2, 4] rfl) hf
  · refine lv_iload hx hb dX7_told_271 (lv_at hl 4 rfl) ?_
    refine lv_goto (tgt := 278) hx hb dX7_told_273 (by decide) ?_
    exact w_X7_told_278 hC hR hrec147 hI (lv_sub hl [1, 2, 4] rfl) hf
def f_X7_told_263 (n : Nat) (rec147 : x_S × Int32 × Int32 × Int32 → Option (Int32 × x_S)) (S : x_S) (a2 : Int32) (a5 : Int32) (a6 : Int32) : Option (Int32 × x_S) :=
f_X7_told_264 n rec147 S a2 a5 a6 (0 : Int32)
set_option maxHeartbeats 4000000 in
set_option maxRecDepth 100000 in
theorem w_X7_told_263 {r : Int32 × x_S} {a2 : Int32} {a5 : Int32} {a6 : Int32} {rec147 : x_S × Int32 × Int32 × Int32 → Option (Int32 × x_S)} (hC : x_C p s m args meth c cX7_told 10 RX7 E A) (hR : x_Ri p l e { frames := 4, cells := 0, slots := 0, locals := 111 } s m args below meth c cX7_told E A Q (mw E ad r.2) r.1) (hrec147 : ∀ z : x_S × Int32 × Int32 × Int32, rec147 z = some r → ∀ (H : Heap) (locs : List Loc) (ls : Array Slot), x_I E A s.heap (mw E ad z.1) H locs → lv_has ls 10 [(0, .ref (ad 799)), (2, .int z.2.1), (5, .int z.2.2.1), (6, .int z.2.2.2)] → W p l e { frames := 4, cells := 0, slots := 0, locals := 111 } s m args below meth c H locs 0 0 Q (F0 m 147 ls [])) (hI : x_I E A s.heap (mw E ad S) H locs) (hl : lv_has ls 10 [(0, .ref (ad 799)), (2, .int a2), (5, .int a5), (6, .int a6)]) (hf : f_X7_told_263 n rec147 S a2 a5 a6 = some r) : W p l e { frames := 4, cells := 0, slots := 0, locals := 111 } s m args below meth c H locs 0 0 Q (F0 m 263 ls []) := by
  obtain ⟨hx, hb, hml, hown, hts, hK, hN, hA⟩ := id hC
  unfold f_X7_told_263 at hf
  refine lv_iconst (v := (0 : Int32)) hx hb dX7_told_263 (by decide) ?_
  exact w_X7_told_264 hC hR hrec147 hI (lv_sub hl [0, 1, 2, 3] rfl) hf
def f_X7_told_259 (n : Nat) (rec147 : x_S × Int32 × Int32 × Int32 → Option (Int32 × x_S)) (S : x_S) (a2 : Int32) (a5 : Int32) (a6 : Int32) : Option (Int32 × x_S) :=
f_X7_told_264 n rec147 S a2 a5 a6 (1 : Int32)
set_option maxHeartbeats 4000000 in
set_option maxRecDepth 100000 in
theorem w_X7_told_259 {r : Int32 × x_S} {a2 : Int32} {a5 : Int32} {a6 : Int32} {rec147 : x_S × Int32 × Int32 × Int32 → Option (Int32 × x_S)} (hC : x_C p s m args meth c cX7_told 10 RX7 E A) (hR : x_Ri p l e { frames := 4, cells := 0, slots := 0, locals := 111 } s m args below meth c cX7_told E A Q (mw E ad r.2) r.1) (hrec147 : ∀ z : x_S × Int32 × Int32 × Int32, rec147 z = some r → ∀ (H : Heap) (locs : List Loc) (ls : Array Slot), x_I E A s.heap (mw E ad z.1) H locs → lv_has ls 10 [(0, .ref (ad 799)), (2, .int z.2.1), (5, .int z.2.2.1), (6, .int z.2.2.2)] → W p l e { frames := 4, cells := 0, slots := 0, locals := 111 } s m args below meth c H locs 0 0 Q (F0 m 147 ls [])) (hI : x_I E A s.heap (mw E ad S) H locs) (hl : lv_has ls 10 [(0, .ref (ad 799)), (2, .int a2), (5, .int a5), (6, .int a6)]) (hf : f_X7_told_259 n rec147 S a2 a5 a6 = some r) : W p l e { frames := 4, cells := 0, slots := 0, locals := 111 } s m args below meth c H locs 0 0 Q (F0 m 259 ls []) := by
  obtain ⟨hx, hb, hml, hown, hts, hK, hN, hA⟩ := id hC
  unfold f_X7_told_259 at hf
  refine lv_iconst (v := (1 : Int32)) hx hb dX7_told_259 (by decide) ?_
  refine lv_goto (tgt := 264) hx hb dX7_told_260 (by decide) ?_
  exact w_X7_told_264 hC hR hrec147 hI (lv_sub hl [0, 1, 2, 3] rfl) hf
def f_X7_told_240 (n : Nat) (rec147 : x_S × Int32 × Int32 × Int32 → Option (Int32 × x_S)) (S : x_S) (a2 : Int32) (a5 : Int32) (a6 : Int32) (a7 : Int32) : Option (Int32 × x_S) :=
if a7 = (2 : Int32) then
x_g (¬ (a6 < 0 ∨ 200 ≤ (a6).toNatClampNeg)) (x_let (g_ar S 723 (a6).toNatClampNeg) (fun v15 =>
if (v15 - (1 : Int32)) = a2 then
f_X7_told_259 n rec147 S a2 a5 a6
else
f_X7_told_263 n rec147 S a2 a5 a6))
else
f_X7_told_263 n rec147 S a2 a5 a6
set_option maxHeartbeats 4000000 in
set_option maxRecDepth 100000 in
theorem w_X7_told_240 {r : Int32 × x_S} {a2 : Int32} {a5 : Int32} {a6 : Int32} {a7 : Int32} {rec147 : x_S × Int32 × Int32 × Int32 → Option (Int32 × x_S)} (hC : x_C p s m args meth c cX7_told 10 RX7 E A) (hR : x_Ri p l e { frames := 4, cells := 0, slots := 0, locals := 111 } s m args below meth c cX7_told E A Q (mw E ad r.2) r.1) (hrec147 : ∀ z : x_S × Int32 × Int32 × Int32, rec147 z = some r → ∀ (H : Heap) (locs : List Loc) (ls : Array Slot), x_I E A s.heap (mw E ad z.1) H locs → lv_has ls 10 [(0, .ref (ad 799)), (2, .int z.2.1), (5, .int z.2.2.1), (6, .int z.2.2.2)] → W p l e { frames := 4, cells := 0, slots := 0, locals := 111 } s m args below meth c H locs 0 0 Q (F0 m 147 ls [])) (hI : x_I E A s.heap (mw E ad S) H locs) (hl : lv_has ls 10 [(0, .ref (ad 799)), (2, .int a2), (5, .int a5), (6, .int a6), (7, .int a7)]) (hf : f_X7_told_240 n rec147 S a2 a5 a6 a7 = some r) : W p l e { frames := 4, cells := 0, slots := 0, locals := 111 } s m args below meth c H locs 0 0 Q (F0 m 240 ls []) := by
  obtain ⟨hx, hb, hml, hown, hts, hK, hN, hA⟩ := id hC
  unfold f_X7_told_240 at hf
  refine lv_iload hx hb dX7_told_240 (lv_at hl 4 rfl) ?_
  refine lv_iconst (v := (2 : Int32)) hx hb dX7_told_242 (by decide) ?_
  refine x_ine hC 263 hf dX7_told_243 (by decide) (fun hf => ?_) (fun hf => ?_)
  · exact w_X7_told_263 hC hR hrec147 hI (lv_sub hl [0, 1, 2, 3] rfl) hf
  · refine lv_aload_n hx hb dX7_told_246 rfl (lv_at hl 0 rfl) ?_
    refine gX7_23 hC hI lkf_X7_62 dX7_told_247 ?_
    refine lv_iload hx hb dX7_told_250 (lv_at hl 3 rfl) ?_
    refine aX7_23 hC hI hf dX7_told_252 (fun v15 hf => ?_)
    refine lv_iconst (v := (1 : Int32)) hx hb dX7_told_253 (by decide) ?_
    refine lv_isub hx hb dX7_told_254 ?_
    refine lv_iload_n hx hb dX7_told_255 rfl (lv_at hl 1 rfl) ?_
    refine x_ine hC 263 hf dX7_told_256 (by decide) (fun hf => ?_) (fun hf => ?_)
    · exact w_X7_told_263 hC hR hrec147 hI (lv_sub hl [0, 1, 2, 3] rfl) hf
    · exact w_X7_told_259 hC hR hrec147 hI (lv_sub hl [0, 1, 2, 3] rfl) hf
def f_X7_told_217 (n : Nat) (rec147 : x_S × Int32 × Int32 × Int32 → Option (Int32 × x_S)) (S : x_S) (a2 : Int32) (a5 : Int32) (a6 : Int32) (a7 : Int32) : Option (Int32 × x_S) :=
x_b (f_X7_in n a7 (3 : Int32) (5 : Int32)) (fun v14 =>
if v14 = 0 then
f_X7_told_240 n rec147 S a2 a5 a6 a7
else
x_g (¬ (a6 < 0 ∨ 200 ≤ (a6).toNatClampNeg)) (x_let (g_ar S 718 (a6).toNatClampNeg) (fun v16 =>
if (v16 - (1 : Int32)) = a2 then
f_X7_told_259 n rec147 S a2 a5 a6
else
f_X7_told_240 n rec147 S a2 a5 a6 a7)))
set_option maxHeartbeats 4000000 in
set_option maxRecDepth 100000 in
theorem w_X7_told_217 {r : Int32 × x_S} {a2 : Int32} {a5 : Int32} {a6 : Int32} {a7 : Int32} {rec147 : x_S × Int32 × Int32 × Int32 → Option (Int32 × x_S)} (hC : x_C p s m args meth c cX7_told 10 RX7 E A) (hR : x_Ri p l e { frames := 4, cells := 0, slots := 0, locals := 111 } s m args below meth c cX7_told E A Q (mw E ad r.2) r.1) (hrec147 : ∀ z : x_S × Int32 × Int32 × Int32, rec147 z = some r → ∀ (H : Heap) (locs : List Loc) (ls : Array Slot), x_I E A s.heap (mw E ad z.1) H locs → lv_has ls 10 [(0, .ref (ad 799)), (2, .int z.2.1), (5, .int z.2.2.1), (6, .int z.2.2.2)] → W p l e { frames := 4, cells := 0, slots := 0, locals := 111 } s m args below meth c H locs 0 0 Q (F0 m 147 ls [])) (hI : x_I E A s.heap (mw E ad S) H locs) (hl : lv_has ls 10 [(0, .ref (ad 799)), (2, .int a2), (5, .int a5), (6, .int a6), (7, .int a7)]) (hf : f_X7_told_217 n rec147 S a2 a5 a6 a7 = some r) : W p l e { frames := 4, cells := 0, slots := 0, locals := 111 } s m args below meth c H locs 0 0 Q (F0 m 217 ls []) := by
  obtain ⟨hx, hb, hml, hown, hts, hK, hN, hA⟩ := id hC
  unfold f_X7_told_217 at hf
  refine lv_iload hx hb dX7_told_217 (lv_at hl 4 rfl) ?_
  refine lv_iconst (v := (3 : Int32)) hx hb dX7_told_219 (by decide) ?_
  refine lv_iconst (v := (5 : Int32)) hx hb dX7_told_220 (by decide) ?_
  obtain ⟨v14, hc13, hf⟩ := x_b_eq hf
  refine x_callS hC hI (c_X7_in hc13) ks_X7_138 rfl ⟨Nat.le_of_ble_eq_true rfl, Nat.le_of_ble_eq_true rfl⟩ ⟨Nat.le_refl _, Nat.le_refl _⟩ hl.1 rfl (Nat.le_of_ble_eq_true rfl) dX7_told_221 (fun H locs hI => ?_)
  refine x_eq0 hC 240 hf dX7_told_224 (by decide) (fun hf => ?_) (fun hf => ?_)
  · exact w_X7_told_240 hC hR hrec147 hI (lv_sub hl [0, 1, 2, 3, 4] rfl) hf
  · refine lv_aload_n hx hb dX7_told_227 rfl (lv_at hl 0 rfl) ?_
    refine gX7_18 hC hI lkf_X7_47 dX7_told_228 ?_
    refine lv_iload hx hb dX7_told_231 (lv_at hl 3 rfl) ?_
    refine aX7_18 hC hI hf dX7_told_233 (fun v16 hf => ?_)
    refine lv_iconst (v := (1 : Int32)) hx hb dX7_told_234 (by decide) ?_
    refine lv_isub hx hb dX7_told_235 ?_
    refine lv_iload_n hx hb dX7_told_236 rfl (lv_at hl 1 rfl) ?_
    refine x_ieq hC 259 hf dX7_told_237 (by decide) (fun hf => ?_) (fun hf => ?_)
    · exact w_X7_told_259 hC hR hrec147 hI (lv_sub hl [0, 1, 2, 3] rfl) hf
    · exact w_X7_told_240 hC hR hrec147 hI (lv_sub hl [0, 1, 2, 3, 4] rfl) hf
def f_X7_told_199 (n : Nat) (rec147 : x_S × Int32 × Int32 × Int32 → Option (Int32 × x_S)) (S : x_S) (a2 : Int32) (a5 : Int32) (a6 : Int32) (a7 : Int32) (t0 : Int32) : Option (Int32 × x_S) :=
if t0 = 0 then
f_X7_told_217 n rec147 S a2 a5 a6 a7
else
x_g (¬ (a6 < 0 ∨ 200 ≤ (a6).toNatClampNeg)) (x_let (g_ar S 717 (a6).toNatClampNeg) (fun v17 =>
if v17 = a2 then
f_X7_told_259 n rec147 S a2 a5 a6
else
f_X7_told_217 n rec147 S a2 a5 a6 a7))
set_option maxHeartbeats 4000000 in
set_option maxRecDepth 100000 in
theorem w_X7_told_199 {r : Int32 × x_S} {a2 : Int32} {a5 : Int32} {a6 : Int32} {a7 : Int32} {t0 : Int32} {rec147 : x_S × Int32 × Int32 × Int32 → Option (Int32 × x_S)} (hC : x_C p s m args meth c cX7_told 10 RX7 E A) (hR : x_Ri p l e { frames := 4, cells := 0, slots := 0, locals := 111 } s m args below meth c cX7_told E A Q (mw E ad r.2) r.1) (hrec147 : ∀ z : x_S × Int32 × Int32 × Int32, rec147 z = some r → ∀ (H : Heap) (locs : List Loc) (ls : Array Slot), x_I E A s.heap (mw E ad z.1) H locs → lv_has ls 10 [(0, .ref (ad 799)), (2, .int z.2.1), (5, .int z.2.2.1), (6, .int z.2.2.2)] → W p l e { frames := 4, cells := 0, slots := 0, locals := 111 } s m args below meth c H locs 0 0 Q (F0 m 147 ls [])) (hI : x_I E A s.heap (mw E ad S) H locs) (hl : lv_has ls 10 [(0, .ref (ad 799)), (2, .int a2), (5, .int a5), (6, .int a6), (7, .int a7)]) (hf : f_X7_told_199 n rec147 S a2 a5 a6 a7 t0 = some r) : W p l e { frames := 4, cells := 0, slots := 0, locals := 111 } s m args below meth c H locs 0 0 Q (F0 m 199 ls [.int t0]) := by
  obtain ⟨hx, hb, hml, hown, hts, hK, hN, hA⟩ := id hC
  unfold f_X7_told_199 at hf
  refine lv_istore (lv' := [(8, .int t0), (0, .ref (ad 799)), (2, .int a2), (5, .int a5), (6, .int a6), (7, .int a7)]) hx hb dX7_told_199 hl (by decide) rfl (fun ls hl => ?_)
  refine lv_iload hx hb dX7_told_201 (lv_at hl 0 rfl) ?_
  refine x_eq0 hC 217 hf dX7_told_203 (by decide) (fun hf => ?_) (fun hf => ?_)
  · exact w_X7_told_217 hC hR hrec147 hI (lv_sub hl [1, 2, 3, 4, 5] rfl) hf
  · refine lv_aload_n hx hb dX7_told_206 rfl (lv_at hl 1 rfl) ?_
    refine gX7_17 hC hI lkf_X7_44 dX7_told_207 ?_
    refine lv_iload hx hb dX7_told_210 (lv_at hl 4 rfl) ?_
    refine aX7_17 hC hI hf dX7_told_212 (fun v17 hf => ?_)
    refine lv_iload_n hx hb dX7_told_213 rfl (lv_at hl 2 rfl) ?_
    refine x_ieq hC 259 hf dX7_told_214 (by decide) (fun hf => ?_) (fun hf => ?_)
    · exact w_X7_told_259 hC hR hrec147 hI (lv_sub hl [1, 2, 3, 4] rfl) hf
    · exact w_X7_told_217 hC hR hrec147 hI (lv_sub hl [1, 2, 3, 4, 5] rfl) hf
def f_X7_told_194 (n : Nat) (rec147 : x_S × Int32 × Int32 × Int32 → Option (Int32 × x_S)) (S : x_S) (a2 : Int32) (a5 : Int32) (a6 : Int32) (a7 : Int32) : Option (Int32 × x_S) :=
f_X7_told_199 n rec147 S a2 a5 a6 a7 (1 : Int32)
set_option maxHeartbeats 4000000 in
set_option maxRecDepth 100000 in
theorem w_X7_told_194 {r : Int32 × x_S} {a2 : Int32} {a5 : Int32} {a6 : Int32} {a7 : Int32} {rec147 : x_S × Int32 × Int32 × Int32 → Option (Int32 × x_S)} (hC : x_C p s m args meth c cX7_told 10 RX7 E A) (hR : x_Ri p l e { frames := 4, cells := 0, slots := 0, locals := 111 } s m args below meth c cX7_told E A Q (mw E ad r.2) r.1) (hrec147 : ∀ z : x_S × Int32 × Int32 × Int32, rec147 z = some r → ∀ (H : Heap) (locs : List Loc) (ls : Array Slot), x_I E A s.heap (mw E ad z.1) H locs → lv_has ls 10 [(0, .ref (ad 799)), (2, .int z.2.1), (5, .int z.2.2.1), (6, .int z.2.2.2)] → W p l e { frames := 4, cells := 0, slots := 0, locals := 111 } s m args below meth c H locs 0 0 Q (F0 m 147 ls [])) (hI : x_I E A s.heap (mw E ad S) H locs) (hl : lv_has ls 10 [(0, .ref (ad 799)), (2, .int a2), (5, .int a5), (6, .int a6), (7, .int a7)]) (hf : f_X7_told_194 n rec147 S a2 a5 a6 a7 = some r) : W p l e { frames := 4, cells := 0, slots := 0, locals := 111 } s m args below meth c H locs 0 0 Q (F0 m 194 ls []) := by
  obtain ⟨hx, hb, hml, hown, hts, hK, hN, hA⟩ := id hC
  unfold f_X7_told_194 at hf
  refine lv_iconst (v := (1 : Int32)) hx hb dX7_told_194 (by decide) ?_
  refine lv_goto (tgt := 199) hx hb dX7_told_195 (by decide) ?_
  exact w_X7_told_199 hC hR hrec147 hI (lv_sub hl [0, 1, 2, 3, 4] rfl) hf
def f_X7_told_147 (n : Nat) (rec147 : x_S × Int32 × Int32 × Int32 → Option (Int32 × x_S)) (S : x_S) (a2 : Int32) (a5 : Int32) (a6 : Int32) : Option (Int32 × x_S) :=
x_let (g_sc S 715) (fun v11 =>
if v11 ≤ a6 then
some (a5, S)
else
x_g (¬ (a6 < 0 ∨ 200 ≤ (a6).toNatClampNeg)) (x_let (g_ar S 716 (a6).toNatClampNeg) (fun v12 =>
if v12 = 0 then
f_X7_told_194 n rec147 S a2 a5 a6 v12
else
if (5 : Int32) < v12 then
f_X7_told_194 n rec147 S a2 a5 a6 v12
else
if v12 = (1 : Int32) then
f_X7_told_194 n rec147 S a2 a5 a6 v12
else
if v12 = (2 : Int32) then
f_X7_told_194 n rec147 S a2 a5 a6 v12
else
if v12 = (4 : Int32) then
f_X7_told_194 n rec147 S a2 a5 a6 v12
else
f_X7_told_199 n rec147 S a2 a5 a6 v12 (0 : Int32))))
set_option maxHeartbeats 4000000 in
set_option maxRecDepth 100000 in
theorem w_X7_told_147 {r : Int32 × x_S} {a2 : Int32} {a5 : Int32} {a6 : Int32} {rec147 : x_S × Int32 × Int32 × Int32 → Option (Int32 × x_S)} (hC : x_C p s m args meth c cX7_told 10 RX7 E A) (hR : x_Ri p l e { frames := 4, cells := 0, slots := 0, locals := 111 } s m args below meth c cX7_told E A Q (mw E ad r.2) r.1) (hrec147 : ∀ z : x_S × Int32 × Int32 × Int32, rec147 z = some r → ∀ (H : Heap) (locs : List Loc) (ls : Array Slot), x_I E A s.heap (mw E ad z.1) H locs → lv_has ls 10 [(0, .ref (ad 799)), (2, .int z.2.1), (5, .int z.2.2.1), (6, .int z.2.2.2)] → W p l e { frames := 4, cells := 0, slots := 0, locals := 111 } s m args below meth c H locs 0 0 Q (F0 m 147 ls [])) (hI : x_I E A s.heap (mw E ad S) H locs) (hl : lv_has ls 10 [(0, .ref (ad 799)), (2, .int a2), (5, .int a5), (6, .int a6)]) (hf : f_X7_told_147 n rec147 S a2 a5 a6 = some r) : W p l e { frames := 4, cells := 0, slots := 0, locals := 111 } s m args below meth c H locs 0 0 Q (F0 m 147 ls []) := by
  obtain ⟨hx, hb, hml, hown, hts, hK, hN, hA⟩ := id hC
  unfold f_X7_told_147 at hf
  refine lv_iload hx hb dX7_told_147 (lv_at hl 3 rfl) ?_
  refine lv_aload_n hx hb dX7_told_149 rfl (lv_at hl 0 rfl) ?_
  refine gX7_15 hC hI hf lkf_X7_160 dX7_told_150 (fun v11 hf => ?_)
  refine x_ige hC 286 hf dX7_told_153 (by decide) (fun hf => ?_) (fun hf => ?_)
  · refine lv_iload hx hb dX7_told_286 (lv_at hl 2 rfl) ?_
    obtain rfl := Option.some.inj hf
    exact hR _ _ _ _ hI dX7_told_288
  · refine lv_aload_n hx hb dX7_told_156 rfl (lv_at hl 0 rfl) ?_
    refine gX7_16 hC hI lkf_X7_41 dX7_told_157 ?_
    refine lv_iload hx hb dX7_told_160 (lv_at hl 3 rfl) ?_
    refine aX7_16 hC hI hf dX7_told_162 (fun v12 hf => ?_)
    refine lv_istore (lv' := [(7, .int v12), (0, .ref (ad 799)), (2, .int a2), (5, .int a5), (6, .int a6)]) hx hb dX7_told_163 hl (by decide) rfl (fun ls hl => ?_)
    refine lv_iload hx hb dX7_told_165 (lv_at hl 0 rfl) ?_
    refine x_eq0 hC 194 hf dX7_told_167 (by decide) (fun hf => ?_) (fun hf => ?_)
    · exact w_X7_told_194 hC hR hrec147 hI (lv_sub hl [1, 2, 3, 4, 0] rfl) hf
    · refine lv_iload hx hb dX7_told_170 (lv_at hl 0 rfl) ?_
      refine lv_iconst (v := (5 : Int32)) hx hb dX7_told_172 (by decide) ?_
      refine x_igt hC 194 hf dX7_told_173 (by decide) (fun hf => ?_) (fun hf => ?_)
      · exact w_X7_told_194 hC hR hrec147 hI (lv_sub hl [1, 2, 3, 4, 0] rfl) hf
      · refine lv_iload hx hb dX7_told_176 (lv_at hl 0 rfl) ?_
        refine lv_iconst (v := (1 : Int32)) hx hb dX7_told_178 (by decide) ?_
        refine x_ieq hC 194 hf dX7_told_179 (by decide) (fun hf => ?_) (fun hf => ?_)
        · exact w_X7_told_194 hC hR hrec147 hI (lv_sub hl [1, 2, 3, 4, 0] rfl) hf
        · refine lv_iload hx hb dX7_told_182 (lv_at hl 0 rfl) ?_
          refine lv_iconst (v := (2 : Int32)) hx hb dX7_told_184 (by decide) ?_
          refine x_ieq hC 194 hf dX7_told_185 (by decide) (fun hf => ?_) (fun hf => ?_)
          · exact w_X7_told_194 hC hR hrec147 hI (lv_sub hl [1, 2, 3, 4, 0] rfl) hf
          · refine lv_iload hx hb dX7_told_188 (lv_at hl 0 rfl) ?_
            refine lv_iconst (v := (4 : Int32)) hx hb dX7_told_190 (by decide) ?_
            refine x_ine hC 198 hf dX7_told_191 (by decide) (fun hf => ?_) (fun hf => ?_)
            · refine lv_iconst (v := (0 : Int32)) hx hb dX7_told_198 (by decide) ?_
              exact w_X7_told_199 hC hR hrec147 hI (lv_sub hl [1, 2, 3, 4, 0] rfl) hf
            · exact w_X7_told_194 hC hR hrec147 hI (lv_sub hl [1, 2, 3, 4, 0] rfl) hf
theorem w_X7_told_147_loop {r : Int32 × x_S} (hC : x_C p s m args meth c cX7_told 10 RX7 E A) (hR : x_Ri p l e { frames := 4, cells := 0, slots := 0, locals := 111 } s m args below meth c cX7_told E A Q (mw E ad r.2) r.1) : ∀ (k : Nat) (z : x_S × Int32 × Int32 × Int32), x_loop (fun rec z => f_X7_told_147 n rec z.1 z.2.1 z.2.2.1 z.2.2.2) k z = some r → ∀ (H : Heap) (locs : List Loc) (ls : Array Slot), x_I E A s.heap (mw E ad z.1) H locs → lv_has ls 10 [(0, .ref (ad 799)), (2, .int z.2.1), (5, .int z.2.2.1), (6, .int z.2.2.2)] → W p l e { frames := 4, cells := 0, slots := 0, locals := 111 } s m args below meth c H locs 0 0 Q (F0 m 147 ls []) :=
  x_loop_ind (P := fun (z : x_S × Int32 × Int32 × Int32) => ∀ (H : Heap) (locs : List Loc) (ls : Array Slot), x_I E A s.heap (mw E ad z.1) H locs → lv_has ls 10 [(0, .ref (ad 799)), (2, .int z.2.1), (5, .int z.2.2.1), (6, .int z.2.2.2)] → W p l e { frames := 4, cells := 0, slots := 0, locals := 111 } s m args below meth c H locs 0 0 Q (F0 m 147 ls [])) (fun rec hrec z hf H locs ls hI hl => w_X7_told_147 hC hR hrec hI hl hf)
def f_X7_told (n : Nat) (S : x_S) (a1 : Int32) (a2 : Int32) (a3 : Int32) : Option (Int32 × x_S) :=
x_b2 (f_X7_isRoutine n S a1) (fun v2 S =>
if v2 = 0 then
some ((-2 : Int32), S)
else
x_g (¬ (a1 < 0 ∨ 12 ≤ (a1).toNatClampNeg)) (x_let (g_ar S 701 (a1).toNatClampNeg) (fun v3 =>
x_b (f_X7_in n a2 (0 : Int32) (v3 - (1 : Int32))) (fun v5 =>
if v5 = 0 then
some ((-2 : Int32), S)
else
x_b (f_X7_in n a3 (0 : Int32) (5 : Int32)) (fun v7 =>
if v7 = 0 then
some ((-2 : Int32), S)
else
if (4 : Int32) ≤ a3 then
x_b2 (f_X7_isWhole n S a1) (fun v9 S =>
if v9 = 0 then
some ((-1 : Int32), S)
else
if a3 = (5 : Int32) then
x_b (f_X7_come n S a1) (fun S =>
x_g (¬ (a2 < 0 ∨ 61 ≤ (a2).toNatClampNeg)) (x_let (g_ar S 733 (a2).toNatClampNeg) (fun v19 =>
if v19 = 0 then
some ((0 : Int32), S)
else
some ((1 : Int32), S))))
else
x_b (f_X7_read n S a1) (fun S =>
x_loop (fun rec z => f_X7_told_147 n rec z.1 z.2.1 z.2.2.1 z.2.2.2) n (S, a2, (-1 : Int32), (0 : Int32))))
else
if a3 = 0 then
x_g (¬ ((((60 : Int32) * a1) + a2) < 0 ∨ 720 ≤ ((((60 : Int32) * a1) + a2)).toNatClampNeg)) (x_let (g_ar S 702 ((((60 : Int32) * a1) + a2)).toNatClampNeg) (fun v23 =>
some (v23, S)))
else
if a3 = (1 : Int32) then
x_g (¬ ((((60 : Int32) * a1) + a2) < 0 ∨ 720 ≤ ((((60 : Int32) * a1) + a2)).toNatClampNeg)) (x_let (g_ar S 703 ((((60 : Int32) * a1) + a2)).toNatClampNeg) (fun v22 =>
some (v22, S)))
else
if a3 = (2 : Int32) then
x_g (¬ ((((60 : Int32) * a1) + a2) < 0 ∨ 720 ≤ ((((60 : Int32) * a1) + a2)).toNatClampNeg)) (x_let (g_ar S 704 ((((60 : Int32) * a1) + a2)).toNatClampNeg) (fun v21 =>
some (v21, S)))
else
x_g (¬ ((((60 : Int32) * a1) + a2) < 0 ∨ 720 ≤ ((((60 : Int32) * a1) + a2)).toNatClampNeg)) (x_let (g_ar S 705 ((((60 : Int32) * a1) + a2)).toNatClampNeg) (fun v20 =>
some (v20, S))))))))
set_option maxHeartbeats 4000000 in
set_option maxRecDepth 100000 in
theorem w_X7_told {r : Int32 × x_S} {a1 : Int32} {a2 : Int32} {a3 : Int32} (hC : x_C p s m args meth c cX7_told 10 RX7 E A) (hR : x_Ri p l e { frames := 4, cells := 0, slots := 0, locals := 111 } s m args below meth c cX7_told E A Q (mw E ad r.2) r.1) (hI : x_I E A s.heap (mw E ad S) H locs) (hl : lv_has ls 10 [(0, .ref (ad 799)), (1, .int a1), (2, .int a2), (3, .int a3)]) (hf : f_X7_told n S a1 a2 a3 = some r) : W p l e { frames := 4, cells := 0, slots := 0, locals := 111 } s m args below meth c H locs 0 0 Q (F0 m 0 ls []) := by
  obtain ⟨hx, hb, hml, hown, hts, hK, hN, hA⟩ := id hC
  unfold f_X7_told at hf
  refine lv_aload_n hx hb dX7_told_0 rfl (lv_at hl 0 rfl) ?_
  refine lv_iload_n hx hb dX7_told_1 rfl (lv_at hl 1 rfl) ?_
  obtain ⟨v2, S, hc1, hf⟩ := x_b2_eq hf
  refine x_callV hC hI (c_X7_isRoutine hc1) 0 7 rfl rfl kv_X7_142 rfl ⟨Nat.le_of_ble_eq_true rfl, Nat.le_of_ble_eq_true rfl⟩ ⟨Nat.le_refl _, Nat.le_refl _⟩ hl.1 rfl (Nat.le_of_ble_eq_true rfl) dX7_told_2 (fun H locs hI => ?_)
  refine x_eq0 hC 33 hf dX7_told_5 (by decide) (fun hf => ?_) (fun hf => ?_)
  · refine lv_bipush (v := (-2 : Int32)) hx hb dX7_told_33 (by decide) ?_
    obtain rfl := Option.some.inj hf
    exact hR _ _ _ _ hI dX7_told_35
  · refine lv_iload_n hx hb dX7_told_8 rfl (lv_at hl 2 rfl) ?_
    refine lv_iconst (v := (0 : Int32)) hx hb dX7_told_9 (by decide) ?_
    refine lv_aload_n hx hb dX7_told_10 rfl (lv_at hl 0 rfl) ?_
    refine gX7_1 hC hI lkf_X7_7 dX7_told_11 ?_
    refine lv_iload_n hx hb dX7_told_14 rfl (lv_at hl 1 rfl) ?_
    refine aX7_1 hC hI hf dX7_told_15 (fun v3 hf => ?_)
    refine lv_iconst (v := (1 : Int32)) hx hb dX7_told_16 (by decide) ?_
    refine lv_isub hx hb dX7_told_17 ?_
    obtain ⟨v5, hc4, hf⟩ := x_b_eq hf
    refine x_callS hC hI (c_X7_in hc4) ks_X7_138 rfl ⟨Nat.le_of_ble_eq_true rfl, Nat.le_of_ble_eq_true rfl⟩ ⟨Nat.le_refl _, Nat.le_refl _⟩ hl.1 rfl (Nat.le_of_ble_eq_true rfl) dX7_told_18 (fun H locs hI => ?_)
    refine x_eq0 hC 33 hf dX7_told_21 (by decide) (fun hf => ?_) (fun hf => ?_)
    · refine lv_bipush (v := (-2 : Int32)) hx hb dX7_told_33 (by decide) ?_
      obtain rfl := Option.some.inj hf
      exact hR _ _ _ _ hI dX7_told_35
    · refine lv_iload_n hx hb dX7_told_24 rfl (lv_at hl 3 rfl) ?_
      refine lv_iconst (v := (0 : Int32)) hx hb dX7_told_25 (by decide) ?_
      refine lv_iconst (v := (5 : Int32)) hx hb dX7_told_26 (by decide) ?_
      obtain ⟨v7, hc6, hf⟩ := x_b_eq hf
      refine x_callS hC hI (c_X7_in hc6) ks_X7_138 rfl ⟨Nat.le_of_ble_eq_true rfl, Nat.le_of_ble_eq_true rfl⟩ ⟨Nat.le_refl _, Nat.le_refl _⟩ hl.1 rfl (Nat.le_of_ble_eq_true rfl) dX7_told_27 (fun H locs hI => ?_)
      refine x_ne0 hC 36 hf dX7_told_30 (by decide) (fun hf => ?_) (fun hf => ?_)
      · refine lv_bipush (v := (60 : Int32)) hx hb dX7_told_36 (by decide) ?_
        refine lv_iload_n hx hb dX7_told_38 rfl (lv_at hl 1 rfl) ?_
        refine lv_imul hx hb dX7_told_39 ?_
        refine lv_iload_n hx hb dX7_told_40 rfl (lv_at hl 2 rfl) ?_
        refine lv_iadd hx hb dX7_told_41 ?_
        refine lv_istore (lv' := [(4, .int (((60 : Int32) * a1) + a2)), (0, .ref (ad 799)), (1, .int a1), (2, .int a2), (3, .int a3)]) hx hb dX7_told_42 hl (by decide) rfl (fun ls hl => ?_)
        refine lv_iload_n hx hb dX7_told_44 rfl (lv_at hl 4 rfl) ?_
        refine lv_iconst (v := (4 : Int32)) hx hb dX7_told_45 (by decide) ?_
        refine x_ige hC 101 hf dX7_told_46 (by decide) (fun hf => ?_) (fun hf => ?_)
        · refine lv_aload_n hx hb dX7_told_101 rfl (lv_at hl 1 rfl) ?_
          refine lv_iload_n hx hb dX7_told_102 rfl (lv_at hl 2 rfl) ?_
          obtain ⟨v9, S, hc8, hf⟩ := x_b2_eq hf
          refine x_callV hC hI (c_X7_isWhole hc8) 0 7 rfl rfl kv_X7_184 rfl ⟨Nat.le_of_ble_eq_true rfl, Nat.le_of_ble_eq_true rfl⟩ ⟨Nat.le_refl _, Nat.le_refl _⟩ hl.1 rfl (Nat.le_of_ble_eq_true rfl) dX7_told_103 (fun H locs hI => ?_)
          refine x_ne0 hC 111 hf dX7_told_106 (by decide) (fun hf => ?_) (fun hf => ?_)
          · refine lv_iload_n hx hb dX7_told_111 rfl (lv_at hl 4 rfl) ?_
            refine lv_iconst (v := (5 : Int32)) hx hb dX7_told_112 (by decide) ?_
            refine x_ine hC 136 hf dX7_told_113 (by decide) (fun hf => ?_) (fun hf => ?_)
            · refine lv_aload_n hx hb dX7_told_136 rfl (lv_at hl 1 rfl) ?_
              refine lv_iload_n hx hb dX7_told_137 rfl (lv_at hl 2 rfl) ?_
              obtain ⟨S, hc10, hf⟩ := x_b_eq hf
              refine x_callV hC hI (c_X7_read hc10) 0 7 rfl rfl kv_X7_191 rfl ⟨Nat.le_of_ble_eq_true rfl, Nat.le_of_ble_eq_true rfl⟩ ⟨Nat.le_refl _, Nat.le_refl _⟩ hl.1 rfl (Nat.le_of_ble_eq_true rfl) dX7_told_138 (fun H locs hI => ?_)
              refine lv_iconst (v := (-1 : Int32)) hx hb dX7_told_141 (by decide) ?_
              refine lv_istore (lv' := [(5, .int (-1 : Int32)), (4, .int (((60 : Int32) * a1) + a2)), (0, .ref (ad 799)), (1, .int a1), (2, .int a2), (3, .int a3)]) hx hb dX7_told_142 hl (by decide) rfl (fun ls hl => ?_)
              refine lv_iconst (v := (0 : Int32)) hx hb dX7_told_144 (by decide) ?_
              refine lv_istore (lv' := [(6, .int (0 : Int32)), (5, .int (-1 : Int32)), (4, .int (((60 : Int32) * a1) + a2)), (0, .ref (ad 799)), (1, .int a1), (2, .int a2), (3, .int a3)]) hx hb dX7_told_145 hl (by decide) rfl (fun ls hl => ?_)
              exact w_X7_told_147_loop hC hR _ _ hf _ _ _ hI (lv_sub hl [3, 5, 1, 0] rfl)
            · refine lv_aload_n hx hb dX7_told_116 rfl (lv_at hl 1 rfl) ?_
              refine lv_iload_n hx hb dX7_told_117 rfl (lv_at hl 2 rfl) ?_
              obtain ⟨S, hc18, hf⟩ := x_b_eq hf
              refine x_callV hC hI (c_X7_come hc18) 0 7 rfl rfl kv_X7_187 rfl ⟨Nat.le_of_ble_eq_true rfl, Nat.le_of_ble_eq_true rfl⟩ ⟨Nat.le_refl _, Nat.le_refl _⟩ hl.1 rfl (Nat.le_of_ble_eq_true rfl) dX7_told_118 (fun H locs hI => ?_)
              refine lv_aload_n hx hb dX7_told_121 rfl (lv_at hl 1 rfl) ?_
              refine gX7_33 hC hI lkf_X7_86 dX7_told_122 ?_
              refine lv_iload_n hx hb dX7_told_125 rfl (lv_at hl 3 rfl) ?_
              refine aX7_33 hC hI hf dX7_told_126 (fun v19 hf => ?_)
              refine x_eq0 hC 134 hf dX7_told_127 (by decide) (fun hf => ?_) (fun hf => ?_)
              · refine lv_iconst (v := (0 : Int32)) hx hb dX7_told_134 (by decide) ?_
                obtain rfl := Option.some.inj hf
                exact hR _ _ _ _ hI dX7_told_135
              · refine lv_iconst (v := (1 : Int32)) hx hb dX7_told_130 (by decide) ?_
                refine lv_goto (tgt := 135) hx hb dX7_told_131 (by decide) ?_
                obtain rfl := Option.some.inj hf
                exact hR _ _ _ _ hI dX7_told_135
          · refine lv_iconst (v := (-1 : Int32)) hx hb dX7_told_109 (by decide) ?_
            obtain rfl := Option.some.inj hf
            exact hR _ _ _ _ hI dX7_told_110
        · refine lv_iload_n hx hb dX7_told_49 rfl (lv_at hl 4 rfl) ?_
          refine x_ne0 hC 63 hf dX7_told_50 (by decide) (fun hf => ?_) (fun hf => ?_)
          · refine lv_iload_n hx hb dX7_told_63 rfl (lv_at hl 4 rfl) ?_
            refine lv_iconst (v := (1 : Int32)) hx hb dX7_told_64 (by decide) ?_
            refine x_ine hC 78 hf dX7_told_65 (by decide) (fun hf => ?_) (fun hf => ?_)
            · refine lv_iload_n hx hb dX7_told_78 rfl (lv_at hl 4 rfl) ?_
              refine lv_iconst (v := (2 : Int32)) hx hb dX7_told_79 (by decide) ?_
              refine x_ine hC 93 hf dX7_told_80 (by decide) (fun hf => ?_) (fun hf => ?_)
              · refine lv_aload_n hx hb dX7_told_93 rfl (lv_at hl 1 rfl) ?_
                refine gX7_5 hC hI lkf_X7_22 dX7_told_94 ?_
                refine lv_iload hx hb dX7_told_97 (lv_at hl 0 rfl) ?_
                refine aX7_5 hC hI hf dX7_told_99 (fun v20 hf => ?_)
                obtain rfl := Option.some.inj hf
                exact hR _ _ _ _ hI dX7_told_100
              · refine lv_aload_n hx hb dX7_told_83 rfl (lv_at hl 1 rfl) ?_
                refine gX7_4 hC hI lkf_X7_19 dX7_told_84 ?_
                refine lv_iload hx hb dX7_told_87 (lv_at hl 0 rfl) ?_
                refine aX7_4 hC hI hf dX7_told_89 (fun v21 hf => ?_)
                refine lv_goto (tgt := 100) hx hb dX7_told_90 (by decide) ?_
                obtain rfl := Option.some.inj hf
                exact hR _ _ _ _ hI dX7_told_100
            · refine lv_aload_n hx hb dX7_told_68 rfl (lv_at hl 1 rfl) ?_
              refine gX7_3 hC hI lkf_X7_16 dX7_told_69 ?_
              refine lv_iload hx hb dX7_told_72 (lv_at hl 0 rfl) ?_
              refine aX7_3 hC hI hf dX7_told_74 (fun v22 hf => ?_)
              refine lv_goto (tgt := 100) hx hb dX7_told_75 (by decide) ?_
              obtain rfl := Option.some.inj hf
              exact hR _ _ _ _ hI dX7_told_100
          · refine lv_aload_n hx hb dX7_told_53 rfl (lv_at hl 1 rfl) ?_
            refine gX7_2 hC hI lkf_X7_13 dX7_told_54 ?_
            refine lv_iload hx hb dX7_told_57 (lv_at hl 0 rfl) ?_
            refine aX7_2 hC hI hf dX7_told_59 (fun v23 hf => ?_)
            refine lv_goto (tgt := 100) hx hb dX7_told_60 (by decide) ?_
            obtain rfl := Option.some.inj hf
            exact hR _ _ _ _ hI dX7_told_100
      · refine lv_bipush (v := (-2 : Int32)) hx hb dX7_told_33 (by decide) ?_
        obtain rfl := Option.some.inj hf
        exact hR _ _ _ _ hI dX7_told_35
theorem c_X7_told {a1 : Int32} {a2 : Int32} {a3 : Int32} {v : Int32} {S1 : x_S} (hf : f_X7_told n S a1 a2 a3 = some (v, S1)) : x_M l yX7_told cX7_told 10 (some .int) 4 111 E [.ref (ad 799), .int a1, .int a2, .int a3] (mw E ad S) (mw E ad S1) (some (.int v)) :=
  x_entI (by decide) (Nat.le_of_ble_eq_true rfl) (fun p e s m args below meth c A Q ls hC hI hR hl => w_X7_told (r := (v, S1)) hC hR hI hl hf)
-- X7_doesCall
def f_X7_doesCall_55 (n : Nat) (rec8 : x_S × Int32 × Int32 × Int32 × Int32 → Option (Int32 × x_S)) (S : x_S) (a1 : Int32) (a2 : Int32) (a4 : Int32) (t0 : Int32) : Option (Int32 × x_S) :=
rec8 (S, a1, a2, t0, (a4 + (1 : Int32)))
set_option maxHeartbeats 4000000 in
set_option maxRecDepth 100000 in
theorem w_X7_doesCall_55 {r : Int32 × x_S} {a1 : Int32} {a2 : Int32} {a4 : Int32} {t0 : Int32} {rec8 : x_S × Int32 × Int32 × Int32 × Int32 → Option (Int32 × x_S)} (hC : x_C p s m args meth c cX7_doesCall 5 RX7 E A) (hR : x_Rz p l e { frames := 0, cells := 0, slots := 0, locals := 0 } s m args below meth c cX7_doesCall E A Q (mw E ad r.2) r.1) (hrec8 : ∀ z : x_S × Int32 × Int32 × Int32 × Int32, rec8 z = some r → ∀ (H : Heap) (locs : List Loc) (ls : Array Slot), x_I E A s.heap (mw E ad z.1) H locs → lv_has ls 5 [(0, .ref (ad 799)), (1, .int z.2.1), (2, .int z.2.2.1), (3, .int z.2.2.2.1), (4, .int z.2.2.2.2)] → W p l e { frames := 0, cells := 0, slots := 0, locals := 0 } s m args below meth c H locs 0 0 Q (F0 m 8 ls [])) (hI : x_I E A s.heap (mw E ad S) H locs) (hl : lv_has ls 5 [(0, .ref (ad 799)), (1, .int a1), (2, .int a2), (4, .int a4)]) (hf : f_X7_doesCall_55 n rec8 S a1 a2 a4 t0 = some r) : W p l e { frames := 0, cells := 0, slots := 0, locals := 0 } s m args below meth c H locs 0 0 Q (F0 m 55 ls [.int t0]) := by
  obtain ⟨hx, hb, hml, hown, hts, hK, hN, hA⟩ := id hC
  unfold f_X7_doesCall_55 at hf
  refine lv_istore_n (lv' := [(3, .int t0), (0, .ref (ad 799)), (1, .int a1), (2, .int a2), (4, .int a4)]) hx hb dX7_doesCall_55 rfl hl (by decide) rfl (fun ls hl => ?_)
  refine lv_iinc (v := (a4 + (1 : Int32))) (lv' := [(4, .int (a4 + (1 : Int32))), (3, .int t0), (0, .ref (ad 799)), (1, .int a1), (2, .int a2)]) hx hb dX7_doesCall_56 hl (k := 4) rfl rfl (by decide) rfl (fun ls hl => ?_)
  refine lv_goto (tgt := 8) hx hb dX7_doesCall_59 (by decide) ?_
  exact hrec8 _ hf _ _ _ hI (lv_sub hl [2, 3, 4, 1, 0] rfl)
def f_X7_doesCall_50 (n : Nat) (rec8 : x_S × Int32 × Int32 × Int32 × Int32 → Option (Int32 × x_S)) (S : x_S) (a1 : Int32) (a2 : Int32) (a4 : Int32) : Option (Int32 × x_S) :=
f_X7_doesCall_55 n rec8 S a1 a2 a4 (1 : Int32)
set_option maxHeartbeats 4000000 in
set_option maxRecDepth 100000 in
theorem w_X7_doesCall_50 {r : Int32 × x_S} {a1 : Int32} {a2 : Int32} {a4 : Int32} {rec8 : x_S × Int32 × Int32 × Int32 × Int32 → Option (Int32 × x_S)} (hC : x_C p s m args meth c cX7_doesCall 5 RX7 E A) (hR : x_Rz p l e { frames := 0, cells := 0, slots := 0, locals := 0 } s m args below meth c cX7_doesCall E A Q (mw E ad r.2) r.1) (hrec8 : ∀ z : x_S × Int32 × Int32 × Int32 × Int32, rec8 z = some r → ∀ (H : Heap) (locs : List Loc) (ls : Array Slot), x_I E A s.heap (mw E ad z.1) H locs → lv_has ls 5 [(0, .ref (ad 799)), (1, .int z.2.1), (2, .int z.2.2.1), (3, .int z.2.2.2.1), (4, .int z.2.2.2.2)] → W p l e { frames := 0, cells := 0, slots := 0, locals := 0 } s m args below meth c H locs 0 0 Q (F0 m 8 ls [])) (hI : x_I E A s.heap (mw E ad S) H locs) (hl : lv_has ls 5 [(0, .ref (ad 799)), (1, .int a1), (2, .int a2), (4, .int a4)]) (hf : f_X7_doesCall_50 n rec8 S a1 a2 a4 = some r) : W p l e { frames := 0, cells := 0, slots := 0, locals := 0 } s m args below meth c H locs 0 0 Q (F0 m 50 ls []) := by
  obtain ⟨hx, hb, hml, hown, hts, hK, hN, hA⟩ := id hC
  unfold f_X7_doesCall_50 at hf
  refine lv_iconst (v := (1 : Int32)) hx hb dX7_doesCall_50 (by decide) ?_
  refine lv_goto (tgt := 55) hx hb dX7_doesCall_51 (by decide) ?_
  exact w_X7_doesCall_55 hC hR hrec8 hI (lv_sub hl [0, 1, 2, 3] rfl) hf
def f_X7_doesCall_54 (n : Nat) (rec8 : x_S × Int32 × Int32 × Int32 × Int32 → Option (Int32 × x_S)) (S : x_S) (a1 : Int32) (a2 : Int32) (a4 : Int32) : Option (Int32 × x_S) :=
f_X7_doesCall_55 n rec8 S a1 a2 a4 (0 : Int32)
set_option maxHeartbeats 4000000 in
set_option maxRecDepth 100000 in
theorem w_X7_doesCall_54 {r : Int32 × x_S} {a1 : Int32} {a2 : Int32} {a4 : Int32} {rec8 : x_S × Int32 × Int32 × Int32 × Int32 → Option (Int32 × x_S)} (hC : x_C p s m args meth c cX7_doesCall 5 RX7 E A) (hR : x_Rz p l e { frames := 0, cells := 0, slots := 0, locals := 0 } s m args below meth c cX7_doesCall E A Q (mw E ad r.2) r.1) (hrec8 : ∀ z : x_S × Int32 × Int32 × Int32 × Int32, rec8 z = some r → ∀ (H : Heap) (locs : List Loc) (ls : Array Slot), x_I E A s.heap (mw E ad z.1) H locs → lv_has ls 5 [(0, .ref (ad 799)), (1, .int z.2.1), (2, .int z.2.2.1), (3, .int z.2.2.2.1), (4, .int z.2.2.2.2)] → W p l e { frames := 0, cells := 0, slots := 0, locals := 0 } s m args below meth c H locs 0 0 Q (F0 m 8 ls [])) (hI : x_I E A s.heap (mw E ad S) H locs) (hl : lv_has ls 5 [(0, .ref (ad 799)), (1, .int a1), (2, .int a2), (4, .int a4)]) (hf : f_X7_doesCall_54 n rec8 S a1 a2 a4 = some r) : W p l e { frames := 0, cells := 0, slots := 0, locals := 0 } s m args below meth c H locs 0 0 Q (F0 m 54 ls []) := by
  obtain ⟨hx, hb, hml, hown, hts, hK, hN, hA⟩ := id hC
  unfold f_X7_doesCall_54 at hf
  refine lv_iconst (v := (0 : Int32)) hx hb dX7_doesCall_54 (by decide) ?_
  exact w_X7_doesCall_55 hC hR hrec8 hI (lv_sub hl [0, 1, 2, 3] rfl) hf
def f_X7_doesCall_8 (n : Nat) (rec8 : x_S × Int32 × Int32 × Int32 × Int32 → Option (Int32 × x_S)) (S : x_S) (a1 : Int32) (a2 : Int32) (a3 : Int32) (a4 : Int32) : Option (Int32 × x_S) :=
x_g (¬ (a1 < 0 ∨ 12 ≤ (a1).toNatClampNeg)) (x_let (g_ar S 701 (a1).toNatClampNeg) (fun v1 =>
if (((60 : Int32) * a1) + v1) ≤ a4 then
x_g (a3 = 0 ∨ a3 = 1) (some (a3, S))
else
if a3 = 0 then
x_g (¬ (a4 < 0 ∨ 720 ≤ (a4).toNatClampNeg)) (x_let (g_ar S 702 (a4).toNatClampNeg) (fun v2 =>
if v2 = (5 : Int32) then
x_g (¬ (a4 < 0 ∨ 720 ≤ (a4).toNatClampNeg)) (x_let (g_ar S 703 (a4).toNatClampNeg) (fun v3 =>
if v3 = a2 then
f_X7_doesCall_50 n rec8 S a1 a2 a4
else
f_X7_doesCall_54 n rec8 S a1 a2 a4))
else
f_X7_doesCall_54 n rec8 S a1 a2 a4))
else
f_X7_doesCall_50 n rec8 S a1 a2 a4))
set_option maxHeartbeats 4000000 in
set_option maxRecDepth 100000 in
theorem w_X7_doesCall_8 {r : Int32 × x_S} {a1 : Int32} {a2 : Int32} {a3 : Int32} {a4 : Int32} {rec8 : x_S × Int32 × Int32 × Int32 × Int32 → Option (Int32 × x_S)} (hC : x_C p s m args meth c cX7_doesCall 5 RX7 E A) (hR : x_Rz p l e { frames := 0, cells := 0, slots := 0, locals := 0 } s m args below meth c cX7_doesCall E A Q (mw E ad r.2) r.1) (hrec8 : ∀ z : x_S × Int32 × Int32 × Int32 × Int32, rec8 z = some r → ∀ (H : Heap) (locs : List Loc) (ls : Array Slot), x_I E A s.heap (mw E ad z.1) H locs → lv_has ls 5 [(0, .ref (ad 799)), (1, .int z.2.1), (2, .int z.2.2.1), (3, .int z.2.2.2.1), (4, .int z.2.2.2.2)] → W p l e { frames := 0, cells := 0, slots := 0, locals := 0 } s m args below meth c H locs 0 0 Q (F0 m 8 ls [])) (hI : x_I E A s.heap (mw E ad S) H locs) (hl : lv_has ls 5 [(0, .ref (ad 799)), (1, .int a1), (2, .int a2), (3, .int a3), (4, .int a4)]) (hf : f_X7_doesCall_8 n rec8 S a1 a2 a3 a4 = some r) : W p l e { frames := 0, cells := 0, slots := 0, locals := 0 } s m args below meth c H locs 0 0 Q (F0 m 8 ls []) := by
  obtain ⟨hx, hb, hml, hown, hts, hK, hN, hA⟩ := id hC
  unfold f_X7_doesCall_8 at hf
  refine lv_iload hx hb dX7_doesCall_8 (lv_at hl 4 rfl) ?_
  refine lv_bipush (v := (60 : Int32)) hx hb dX7_doesCall_10 (by decide) ?_
  refine lv_iload_n hx hb dX7_doesCall_12 rfl (lv_at hl 1 rfl) ?_
  refine lv_imul hx hb dX7_doesCall_13 ?_
  refine lv_aload_n hx hb dX7_doesCall_14 rfl (lv_at hl 0 rfl) ?_
  refine gX7_1 hC hI lkf_X7_7 dX7_doesCall_15 ?_
  refine lv_iload_n hx hb dX7_doesCall_18 rfl (lv_at hl 1 rfl) ?_
  refine aX7_1 hC hI hf dX7_doesCall_19 (fun v1 hf => ?_)
  refine lv_iadd hx hb dX7_doesCall_20 ?_
  refine x_ige hC 62 hf dX7_doesCall_21 (by decide) (fun hf => ?_) (fun hf => ?_)
  · refine lv_iload_n hx hb dX7_doesCall_62 rfl (lv_at hl 3 rfl) ?_
    obtain ⟨h9, hf⟩ := x_g_eq hf
    obtain rfl := Option.some.inj hf
    exact hR _ _ _ _ h9 hI dX7_doesCall_63
  · refine lv_iload_n hx hb dX7_doesCall_24 rfl (lv_at hl 3 rfl) ?_
    refine x_ne0 hC 50 hf dX7_doesCall_25 (by decide) (fun hf => ?_) (fun hf => ?_)
    · exact w_X7_doesCall_50 hC hR hrec8 hI (lv_sub hl [0, 1, 2, 4] rfl) hf
    · refine lv_aload_n hx hb dX7_doesCall_28 rfl (lv_at hl 0 rfl) ?_
      refine gX7_2 hC hI lkf_X7_13 dX7_doesCall_29 ?_
      refine lv_iload hx hb dX7_doesCall_32 (lv_at hl 4 rfl) ?_
      refine aX7_2 hC hI hf dX7_doesCall_34 (fun v2 hf => ?_)
      refine lv_iconst (v := (5 : Int32)) hx hb dX7_doesCall_35 (by decide) ?_
      refine x_ine hC 54 hf dX7_doesCall_36 (by decide) (fun hf => ?_) (fun hf => ?_)
      · exact w_X7_doesCall_54 hC hR hrec8 hI (lv_sub hl [0, 1, 2, 4] rfl) hf
      · refine lv_aload_n hx hb dX7_doesCall_39 rfl (lv_at hl 0 rfl) ?_
        refine gX7_3 hC hI lkf_X7_16 dX7_doesCall_40 ?_
        refine lv_iload hx hb dX7_doesCall_43 (lv_at hl 4 rfl) ?_
        refine aX7_3 hC hI hf dX7_doesCall_45 (fun v3 hf => ?_)
        refine lv_iload_n hx hb dX7_doesCall_46 rfl (lv_at hl 2 rfl) ?_
        refine x_ine hC 54 hf dX7_doesCall_47 (by decide) (fun hf => ?_) (fun hf => ?_)
        · exact w_X7_doesCall_54 hC hR hrec8 hI (lv_sub hl [0, 1, 2, 4] rfl) hf
        · exact w_X7_doesCall_50 hC hR hrec8 hI (lv_sub hl [0, 1, 2, 4] rfl) hf
theorem w_X7_doesCall_8_loop {r : Int32 × x_S} (hC : x_C p s m args meth c cX7_doesCall 5 RX7 E A) (hR : x_Rz p l e { frames := 0, cells := 0, slots := 0, locals := 0 } s m args below meth c cX7_doesCall E A Q (mw E ad r.2) r.1) : ∀ (k : Nat) (z : x_S × Int32 × Int32 × Int32 × Int32), x_loop (fun rec z => f_X7_doesCall_8 n rec z.1 z.2.1 z.2.2.1 z.2.2.2.1 z.2.2.2.2) k z = some r → ∀ (H : Heap) (locs : List Loc) (ls : Array Slot), x_I E A s.heap (mw E ad z.1) H locs → lv_has ls 5 [(0, .ref (ad 799)), (1, .int z.2.1), (2, .int z.2.2.1), (3, .int z.2.2.2.1), (4, .int z.2.2.2.2)] → W p l e { frames := 0, cells := 0, slots := 0, locals := 0 } s m args below meth c H locs 0 0 Q (F0 m 8 ls []) :=
  x_loop_ind (P := fun (z : x_S × Int32 × Int32 × Int32 × Int32) => ∀ (H : Heap) (locs : List Loc) (ls : Array Slot), x_I E A s.heap (mw E ad z.1) H locs → lv_has ls 5 [(0, .ref (ad 799)), (1, .int z.2.1), (2, .int z.2.2.1), (3, .int z.2.2.2.1), (4, .int z.2.2.2.2)] → W p l e { frames := 0, cells := 0, slots := 0, locals := 0 } s m args below meth c H locs 0 0 Q (F0 m 8 ls [])) (fun rec hrec z hf H locs ls hI hl => w_X7_doesCall_8 hC hR hrec hI hl hf)
def f_X7_doesCall (n : Nat) (S : x_S) (a1 : Int32) (a2 : Int32) : Option (Int32 × x_S) :=
x_loop (fun rec z => f_X7_doesCall_8 n rec z.1 z.2.1 z.2.2.1 z.2.2.2.1 z.2.2.2.2) n (S, a1, a2, (0 : Int32), ((60 : Int32) * a1))
set_option maxHeartbeats 4000000 in
set_option maxRecDepth 100000 in
theorem w_X7_doesCall {r : Int32 × x_S} {a1 : Int32} {a2 : Int32} (hC : x_C p s m args meth c cX7_doesCall 5 RX7 E A) (hR : x_Rz p l e { frames := 0, cells := 0, slots := 0, locals := 0 } s m args below meth c cX7_doesCall E A Q (mw E ad r.2) r.1) (hI : x_I E A s.heap (mw E ad S) H locs) (hl : lv_has ls 5 [(0, .ref (ad 799)), (1, .int a1), (2, .int a2)]) (hf : f_X7_doesCall n S a1 a2 = some r) : W p l e { frames := 0, cells := 0, slots := 0, locals := 0 } s m args below meth c H locs 0 0 Q (F0 m 0 ls []) := by
  obtain ⟨hx, hb, hml, hown, hts, hK, hN, hA⟩ := id hC
  unfold f_X7_doesCall at hf
  refine lv_iconst (v := (0 : Int32)) hx hb dX7_doesCall_0 (by decide) ?_
  refine lv_istore_n (lv' := [(3, .int (0 : Int32)), (0, .ref (ad 799)), (1, .int a1), (2, .int a2)]) hx hb dX7_doesCall_1 rfl hl (by decide) rfl (fun ls hl => ?_)
  refine lv_bipush (v := (60 : Int32)) hx hb dX7_doesCall_2 (by decide) ?_
  refine lv_iload_n hx hb dX7_doesCall_4 rfl (lv_at hl 2 rfl) ?_
  refine lv_imul hx hb dX7_doesCall_5 ?_
  refine lv_istore (lv' := [(4, .int ((60 : Int32) * a1)), (3, .int (0 : Int32)), (0, .ref (ad 799)), (1, .int a1), (2, .int a2)]) hx hb dX7_doesCall_6 hl (by decide) rfl (fun ls hl => ?_)
  exact w_X7_doesCall_8_loop hC hR _ _ hf _ _ _ hI (lv_sub hl [2, 3, 4, 1, 0] rfl)
theorem c_X7_doesCall {a1 : Int32} {a2 : Int32} {v : Int32} {S1 : x_S} (hf : f_X7_doesCall n S a1 a2 = some (v, S1)) : x_M l yX7_doesCall cX7_doesCall 5 (some .boolean) 0 0 E [.ref (ad 799), .int a1, .int a2] (mw E ad S) (mw E ad S1) (some (.int v)) :=
  x_entZ (by decide) (Nat.le_of_ble_eq_true rfl) (fun p e s m args below meth c A Q ls hC hI hR hl => w_X7_doesCall (r := (v, S1)) hC hR hI hl hf)
-- X7_depthOf
def f_X7_depthOf_9 (n : Nat) (rec9 : x_S × Int32 × Int32 → Option (Int32 × x_S)) (S : x_S) (a2 : Int32) (a3 : Int32) : Option (Int32 × x_S) :=
if a3 = (-1 : Int32) then
some (a2, S)
else
x_g (¬ (a3 < 0 ∨ 200 ≤ (a3).toNatClampNeg)) (x_let (g_ar S 719 (a3).toNatClampNeg) (fun v2 =>
rec9 (S, (a2 + (1 : Int32)), v2)))
set_option maxHeartbeats 4000000 in
set_option maxRecDepth 100000 in
theorem w_X7_depthOf_9 {r : Int32 × x_S} {a2 : Int32} {a3 : Int32} {rec9 : x_S × Int32 × Int32 → Option (Int32 × x_S)} (hC : x_C p s m args meth c cX7_depthOf 4 RX7 E A) (hR : x_Ri p l e { frames := 0, cells := 0, slots := 0, locals := 0 } s m args below meth c cX7_depthOf E A Q (mw E ad r.2) r.1) (hrec9 : ∀ z : x_S × Int32 × Int32, rec9 z = some r → ∀ (H : Heap) (locs : List Loc) (ls : Array Slot), x_I E A s.heap (mw E ad z.1) H locs → lv_has ls 4 [(0, .ref (ad 799)), (2, .int z.2.1), (3, .int z.2.2)] → W p l e { frames := 0, cells := 0, slots := 0, locals := 0 } s m args below meth c H locs 0 0 Q (F0 m 9 ls [])) (hI : x_I E A s.heap (mw E ad S) H locs) (hl : lv_has ls 4 [(0, .ref (ad 799)), (2, .int a2), (3, .int a3)]) (hf : f_X7_depthOf_9 n rec9 S a2 a3 = some r) : W p l e { frames := 0, cells := 0, slots := 0, locals := 0 } s m args below meth c H locs 0 0 Q (F0 m 9 ls []) := by
  obtain ⟨hx, hb, hml, hown, hts, hK, hN, hA⟩ := id hC
  unfold f_X7_depthOf_9 at hf
  refine lv_iload_n hx hb dX7_depthOf_9 rfl (lv_at hl 2 rfl) ?_
  refine lv_iconst (v := (-1 : Int32)) hx hb dX7_depthOf_10 (by decide) ?_
  refine x_ieq hC 27 hf dX7_depthOf_11 (by decide) (fun hf => ?_) (fun hf => ?_)
  · refine lv_iload_n hx hb dX7_depthOf_27 rfl (lv_at hl 1 rfl) ?_
    obtain rfl := Option.some.inj hf
    exact hR _ _ _ _ hI dX7_depthOf_28
  · refine lv_iinc (v := (a2 + (1 : Int32))) (lv' := [(2, .int (a2 + (1 : Int32))), (0, .ref (ad 799)), (3, .int a3)]) hx hb dX7_depthOf_14 hl (k := 1) rfl rfl (by decide) rfl (fun ls hl => ?_)
    refine lv_aload_n hx hb dX7_depthOf_17 rfl (lv_at hl 1 rfl) ?_
    refine gX7_19 hC hI lkf_X7_50 dX7_depthOf_18 ?_
    refine lv_iload_n hx hb dX7_depthOf_21 rfl (lv_at hl 2 rfl) ?_
    refine aX7_19 hC hI hf dX7_depthOf_22 (fun v2 hf => ?_)
    refine lv_istore_n (lv' := [(3, .int v2), (2, .int (a2 + (1 : Int32))), (0, .ref (ad 799))]) hx hb dX7_depthOf_23 rfl hl (by decide) rfl (fun ls hl => ?_)
    refine lv_goto (tgt := 9) hx hb dX7_depthOf_24 (by decide) ?_
    exact hrec9 _ hf _ _ _ hI (lv_sub hl [2, 1, 0] rfl)
theorem w_X7_depthOf_9_loop {r : Int32 × x_S} (hC : x_C p s m args meth c cX7_depthOf 4 RX7 E A) (hR : x_Ri p l e { frames := 0, cells := 0, slots := 0, locals := 0 } s m args below meth c cX7_depthOf E A Q (mw E ad r.2) r.1) : ∀ (k : Nat) (z : x_S × Int32 × Int32), x_loop (fun rec z => f_X7_depthOf_9 n rec z.1 z.2.1 z.2.2) k z = some r → ∀ (H : Heap) (locs : List Loc) (ls : Array Slot), x_I E A s.heap (mw E ad z.1) H locs → lv_has ls 4 [(0, .ref (ad 799)), (2, .int z.2.1), (3, .int z.2.2)] → W p l e { frames := 0, cells := 0, slots := 0, locals := 0 } s m args below meth c H locs 0 0 Q (F0 m 9 ls []) :=
  x_loop_ind (P := fun (z : x_S × Int32 × Int32) => ∀ (H : Heap) (locs : List Loc) (ls : Array Slot), x_I E A s.heap (mw E ad z.1) H locs → lv_has ls 4 [(0, .ref (ad 799)), (2, .int z.2.1), (3, .int z.2.2)] → W p l e { frames := 0, cells := 0, slots := 0, locals := 0 } s m args below meth c H locs 0 0 Q (F0 m 9 ls [])) (fun rec hrec z hf H locs ls hI hl => w_X7_depthOf_9 hC hR hrec hI hl hf)
def f_X7_depthOf (n : Nat) (S : x_S) (a1 : Int32) : Option (Int32 × x_S) :=
x_g (¬ (a1 < 0 ∨ 200 ≤ (a1).toNatClampNeg)) (x_let (g_ar S 719 (a1).toNatClampNeg) (fun v1 =>
x_loop (fun rec z => f_X7_depthOf_9 n rec z.1 z.2.1 z.2.2) n (S, (1 : Int32), v1)))
set_option maxHeartbeats 4000000 in
set_option maxRecDepth 100000 in
theorem w_X7_depthOf {r : Int32 × x_S} {a1 : Int32} (hC : x_C p s m args meth c cX7_depthOf 4 RX7 E A) (hR : x_Ri p l e { frames := 0, cells := 0, slots := 0, locals := 0 } s m args below meth c cX7_depthOf E A Q (mw E ad r.2) r.1) (hI : x_I E A s.heap (mw E ad S) H locs) (hl : lv_has ls 4 [(0, .ref (ad 799)), (1, .int a1)]) (hf : f_X7_depthOf n S a1 = some r) : W p l e { frames := 0, cells := 0, slots := 0, locals := 0 } s m args below meth c H locs 0 0 Q (F0 m 0 ls []) := by
  obtain ⟨hx, hb, hml, hown, hts, hK, hN, hA⟩ := id hC
  unfold f_X7_depthOf at hf
  refine lv_iconst (v := (1 : Int32)) hx hb dX7_depthOf_0 (by decide) ?_
  refine lv_istore_n (lv' := [(2, .int (1 : Int32)), (0, .ref (ad 799)), (1, .int a1)]) hx hb dX7_depthOf_1 rfl hl (by decide) rfl (fun ls hl => ?_)
  refine lv_aload_n hx hb dX7_depthOf_2 rfl (lv_at hl 1 rfl) ?_
  refine gX7_19 hC hI lkf_X7_50 dX7_depthOf_3 ?_
  refine lv_iload_n hx hb dX7_depthOf_6 rfl (lv_at hl 2 rfl) ?_
  refine aX7_19 hC hI hf dX7_depthOf_7 (fun v1 hf => ?_)
  refine lv_istore_n (lv' := [(3, .int v1), (2, .int (1 : Int32)), (0, .ref (ad 799)), (1, .int a1)]) hx hb dX7_depthOf_8 rfl hl (by decide) rfl (fun ls hl => ?_)
  exact w_X7_depthOf_9_loop hC hR _ _ hf _ _ _ hI (lv_sub hl [2, 1, 0] rfl)
theorem c_X7_depthOf {a1 : Int32} {v : Int32} {S1 : x_S} (hf : f_X7_depthOf n S a1 = some (v, S1)) : x_M l yX7_depthOf cX7_depthOf 4 (some .int) 0 0 E [.ref (ad 799), .int a1] (mw E ad S) (mw E ad S1) (some (.int v)) :=
  x_entI (by decide) (Nat.le_of_ble_eq_true rfl) (fun p e s m args below meth c A Q ls hC hI hR hl => w_X7_depthOf (r := (v, S1)) hC hR hI hl hf)
end
