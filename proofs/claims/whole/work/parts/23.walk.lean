section
variable {p : Program} {l : Launch} {e : Env} {s : State} {m : MethodId} {args : Array Value} {below : List Frame} {meth : Method} {c : Code} {H : Heap} {locs : List Loc} {Q : State → Prop}
variable {E : x_E} {A : Nat → Prop} {ls : Array Slot} {ad : Nat → Nat} {ap : Nat → Nat → Nat} {S : x_S} {w : va_W} {n : Nat}
-- X7_writeAct
def f_X7_writeAct_101 (n : Nat) (S : x_S) (a1 : Int32) (a2 : Int32) (a3 : Int32) : Option (x_S) :=
x_b (f_X7_make n S a1 a2 a3 (0 : Int32)) (fun S =>
some S)
set_option maxHeartbeats 4000000 in
set_option maxRecDepth 100000 in
theorem w_X7_writeAct_101 {r : x_S} {a1 : Int32} {a2 : Int32} {a3 : Int32} (hC : x_C p s m args meth c cX7_writeAct 4 RX7 E A) (hR : x_Rv p l e { frames := 2, cells := 0, slots := 0, locals := 45 } s m args below meth c cX7_writeAct E A Q (mw E ad r)) (hI : x_I E A s.heap (mw E ad S) H locs) (hl : lv_has ls 4 [(0, .ref (ad 799)), (1, .int a1), (2, .int a2), (3, .int a3)]) (hf : f_X7_writeAct_101 n S a1 a2 a3 = some r) : W p l e { frames := 2, cells := 0, slots := 0, locals := 45 } s m args below meth c H locs 0 0 Q (F0 m 101 ls []) := by
  obtain ⟨hx, hb, hml, hown, hts, hK, hN, hA⟩ := id hC
  unfold f_X7_writeAct_101 at hf
  refine lv_aload_n hx hb dX7_writeAct_101 rfl (lv_at hl 0 rfl) ?_
  refine lv_iload_n hx hb dX7_writeAct_102 rfl (lv_at hl 1 rfl) ?_
  refine lv_iload_n hx hb dX7_writeAct_103 rfl (lv_at hl 2 rfl) ?_
  refine lv_iload_n hx hb dX7_writeAct_104 rfl (lv_at hl 3 rfl) ?_
  refine lv_iconst (v := (0 : Int32)) hx hb dX7_writeAct_105 (by decide) ?_
  obtain ⟨S, hc10, hf⟩ := x_b_eq hf
  refine x_callV hC hI (c_X7_make hc10) 0 7 rfl rfl kv_X7_249 rfl ⟨Nat.le_of_ble_eq_true rfl, Nat.le_of_ble_eq_true rfl⟩ ⟨Nat.le_refl _, Nat.le_refl _⟩ hl.1 rfl (Nat.le_of_ble_eq_true rfl) dX7_writeAct_106 (fun H locs hI => ?_)
  obtain rfl := Option.some.inj hf
  exact hR _ _ _ _ hI dX7_writeAct_109
def f_X7_writeAct_75 (n : Nat) (S : x_S) (a1 : Int32) (a2 : Int32) : Option (x_S) :=
x_b2 (f_X7_next n S) (fun v8 S =>
x_let (g_sc S 737) (fun v9 =>
if v9 = 0 then
if a1 = (1 : Int32) then
f_X7_writeAct_101 n S a1 a2 v8
else
if v8 = 0 then
f_X7_writeAct_101 n S a1 a2 v8
else
x_b (f_X7_wrong n S (4 : Int32)) (fun S =>
f_X7_writeAct_101 n S a1 a2 v8)
else
f_X7_writeAct_101 n S a1 a2 v8))
set_option maxHeartbeats 4000000 in
set_option maxRecDepth 100000 in
theorem w_X7_writeAct_75 {r : x_S} {a1 : Int32} {a2 : Int32} (hC : x_C p s m args meth c cX7_writeAct 4 RX7 E A) (hR : x_Rv p l e { frames := 2, cells := 0, slots := 0, locals := 45 } s m args below meth c cX7_writeAct E A Q (mw E ad r)) (hI : x_I E A s.heap (mw E ad S) H locs) (hl : lv_has ls 4 [(0, .ref (ad 799)), (1, .int a1), (2, .int a2)]) (hf : f_X7_writeAct_75 n S a1 a2 = some r) : W p l e { frames := 2, cells := 0, slots := 0, locals := 45 } s m args below meth c H locs 0 0 Q (F0 m 75 ls []) := by
  obtain ⟨hx, hb, hml, hown, hts, hK, hN, hA⟩ := id hC
  unfold f_X7_writeAct_75 at hf
  refine lv_aload_n hx hb dX7_writeAct_75 rfl (lv_at hl 0 rfl) ?_
  obtain ⟨v8, S, hc7, hf⟩ := x_b2_eq hf
  refine x_callV hC hI (c_X7_next hc7) 0 7 rfl rfl kv_X7_239 rfl ⟨Nat.le_of_ble_eq_true rfl, Nat.le_of_ble_eq_true rfl⟩ ⟨Nat.le_refl _, Nat.le_refl _⟩ hl.1 rfl (Nat.le_of_ble_eq_true rfl) dX7_writeAct_76 (fun H locs hI => ?_)
  refine lv_istore_n (lv' := [(3, .int v8), (0, .ref (ad 799)), (1, .int a1), (2, .int a2)]) hx hb dX7_writeAct_79 rfl hl (by decide) rfl (fun ls hl => ?_)
  refine lv_aload_n hx hb dX7_writeAct_80 rfl (lv_at hl 1 rfl) ?_
  refine gX7_37 hC hI hf lkf_X7_230 dX7_writeAct_81 (fun v9 hf => ?_)
  refine x_ne0 hC 101 hf dX7_writeAct_84 (by decide) (fun hf => ?_) (fun hf => ?_)
  · exact w_X7_writeAct_101 hC hR hI (lv_sub hl [1, 2, 3, 0] rfl) hf
  · refine lv_iload_n hx hb dX7_writeAct_87 rfl (lv_at hl 2 rfl) ?_
    refine lv_iconst (v := (1 : Int32)) hx hb dX7_writeAct_88 (by decide) ?_
    refine x_ieq hC 101 hf dX7_writeAct_89 (by decide) (fun hf => ?_) (fun hf => ?_)
    · exact w_X7_writeAct_101 hC hR hI (lv_sub hl [1, 2, 3, 0] rfl) hf
    · refine lv_iload_n hx hb dX7_writeAct_92 rfl (lv_at hl 0 rfl) ?_
      refine x_eq0 hC 101 hf dX7_writeAct_93 (by decide) (fun hf => ?_) (fun hf => ?_)
      · exact w_X7_writeAct_101 hC hR hI (lv_sub hl [1, 2, 3, 0] rfl) hf
      · refine lv_aload_n hx hb dX7_writeAct_96 rfl (lv_at hl 1 rfl) ?_
        refine lv_iconst (v := (4 : Int32)) hx hb dX7_writeAct_97 (by decide) ?_
        obtain ⟨S, hc11, hf⟩ := x_b_eq hf
        refine x_callV hC hI (c_X7_wrong hc11) 0 7 rfl rfl kv_X7_243 rfl ⟨Nat.le_of_ble_eq_true rfl, Nat.le_of_ble_eq_true rfl⟩ ⟨Nat.le_refl _, Nat.le_refl _⟩ hl.1 rfl (Nat.le_of_ble_eq_true rfl) dX7_writeAct_98 (fun H locs hI => ?_)
        exact w_X7_writeAct_101 hC hR hI (lv_sub hl [1, 2, 3, 0] rfl) hf
def f_X7_writeAct_70 (n : Nat) (S : x_S) (a1 : Int32) (a2 : Int32) : Option (x_S) :=
x_b (f_X7_wrong n S (4 : Int32)) (fun S =>
f_X7_writeAct_75 n S a1 a2)
set_option maxHeartbeats 4000000 in
set_option maxRecDepth 100000 in
theorem w_X7_writeAct_70 {r : x_S} {a1 : Int32} {a2 : Int32} (hC : x_C p s m args meth c cX7_writeAct 4 RX7 E A) (hR : x_Rv p l e { frames := 2, cells := 0, slots := 0, locals := 45 } s m args below meth c cX7_writeAct E A Q (mw E ad r)) (hI : x_I E A s.heap (mw E ad S) H locs) (hl : lv_has ls 4 [(0, .ref (ad 799)), (1, .int a1), (2, .int a2)]) (hf : f_X7_writeAct_70 n S a1 a2 = some r) : W p l e { frames := 2, cells := 0, slots := 0, locals := 45 } s m args below meth c H locs 0 0 Q (F0 m 70 ls []) := by
  obtain ⟨hx, hb, hml, hown, hts, hK, hN, hA⟩ := id hC
  unfold f_X7_writeAct_70 at hf
  refine lv_aload_n hx hb dX7_writeAct_70 rfl (lv_at hl 0 rfl) ?_
  refine lv_iconst (v := (4 : Int32)) hx hb dX7_writeAct_71 (by decide) ?_
  obtain ⟨S, hc14, hf⟩ := x_b_eq hf
  refine x_callV hC hI (c_X7_wrong hc14) 0 7 rfl rfl kv_X7_243 rfl ⟨Nat.le_of_ble_eq_true rfl, Nat.le_of_ble_eq_true rfl⟩ ⟨Nat.le_refl _, Nat.le_refl _⟩ hl.1 rfl (Nat.le_of_ble_eq_true rfl) dX7_writeAct_72 (fun H locs hI => ?_)
  exact w_X7_writeAct_75 hC hR hI (lv_sub hl [0, 1, 2] rfl) hf
def f_X7_writeAct_36 (n : Nat) (S : x_S) (a1 : Int32) : Option (x_S) :=
x_b2 (f_X7_next n S) (fun v5 S =>
x_let (g_sc S 737) (fun v6 =>
if v6 = 0 then
if a1 = (4 : Int32) then
if v5 = 0 then
f_X7_writeAct_75 n S a1 v5
else
f_X7_writeAct_70 n S a1 v5
else
x_b (f_X7_isAct n a1 v5 (0 : Int32) (0 : Int32)) (fun v13 =>
if v13 = 0 then
f_X7_writeAct_70 n S a1 v5
else
f_X7_writeAct_75 n S a1 v5)
else
f_X7_writeAct_75 n S a1 v5))
set_option maxHeartbeats 4000000 in
set_option maxRecDepth 100000 in
theorem w_X7_writeAct_36 {r : x_S} {a1 : Int32} (hC : x_C p s m args meth c cX7_writeAct 4 RX7 E A) (hR : x_Rv p l e { frames := 2, cells := 0, slots := 0, locals := 45 } s m args below meth c cX7_writeAct E A Q (mw E ad r)) (hI : x_I E A s.heap (mw E ad S) H locs) (hl : lv_has ls 4 [(0, .ref (ad 799)), (1, .int a1)]) (hf : f_X7_writeAct_36 n S a1 = some r) : W p l e { frames := 2, cells := 0, slots := 0, locals := 45 } s m args below meth c H locs 0 0 Q (F0 m 36 ls []) := by
  obtain ⟨hx, hb, hml, hown, hts, hK, hN, hA⟩ := id hC
  unfold f_X7_writeAct_36 at hf
  refine lv_aload_n hx hb dX7_writeAct_36 rfl (lv_at hl 0 rfl) ?_
  obtain ⟨v5, S, hc4, hf⟩ := x_b2_eq hf
  refine x_callV hC hI (c_X7_next hc4) 0 7 rfl rfl kv_X7_239 rfl ⟨Nat.le_of_ble_eq_true rfl, Nat.le_of_ble_eq_true rfl⟩ ⟨Nat.le_refl _, Nat.le_refl _⟩ hl.1 rfl (Nat.le_of_ble_eq_true rfl) dX7_writeAct_37 (fun H locs hI => ?_)
  refine lv_istore_n (lv' := [(2, .int v5), (0, .ref (ad 799)), (1, .int a1)]) hx hb dX7_writeAct_40 rfl hl (by decide) rfl (fun ls hl => ?_)
  refine lv_aload_n hx hb dX7_writeAct_41 rfl (lv_at hl 1 rfl) ?_
  refine gX7_37 hC hI hf lkf_X7_230 dX7_writeAct_42 (fun v6 hf => ?_)
  refine x_ne0 hC 75 hf dX7_writeAct_45 (by decide) (fun hf => ?_) (fun hf => ?_)
  · exact w_X7_writeAct_75 hC hR hI (lv_sub hl [1, 2, 0] rfl) hf
  · refine lv_iload_n hx hb dX7_writeAct_48 rfl (lv_at hl 2 rfl) ?_
    refine lv_iconst (v := (4 : Int32)) hx hb dX7_writeAct_49 (by decide) ?_
    refine x_ine hC 60 hf dX7_writeAct_50 (by decide) (fun hf => ?_) (fun hf => ?_)
    · refine lv_iload_n hx hb dX7_writeAct_60 rfl (lv_at hl 2 rfl) ?_
      refine lv_iload_n hx hb dX7_writeAct_61 rfl (lv_at hl 0 rfl) ?_
      refine lv_iconst (v := (0 : Int32)) hx hb dX7_writeAct_62 (by decide) ?_
      refine lv_iconst (v := (0 : Int32)) hx hb dX7_writeAct_63 (by decide) ?_
      obtain ⟨v13, hc12, hf⟩ := x_b_eq hf
      refine x_callS hC hI (c_X7_isAct hc12) ks_X7_146 rfl ⟨Nat.le_of_ble_eq_true rfl, Nat.le_of_ble_eq_true rfl⟩ ⟨Nat.le_refl _, Nat.le_refl _⟩ hl.1 rfl (Nat.le_of_ble_eq_true rfl) dX7_writeAct_64 (fun H locs hI => ?_)
      refine x_ne0 hC 75 hf dX7_writeAct_67 (by decide) (fun hf => ?_) (fun hf => ?_)
      · exact w_X7_writeAct_75 hC hR hI (lv_sub hl [1, 2, 0] rfl) hf
      · exact w_X7_writeAct_70 hC hR hI (lv_sub hl [1, 2, 0] rfl) hf
    · refine lv_iload_n hx hb dX7_writeAct_53 rfl (lv_at hl 0 rfl) ?_
      refine x_eq0 hC 75 hf dX7_writeAct_54 (by decide) (fun hf => ?_) (fun hf => ?_)
      · exact w_X7_writeAct_75 hC hR hI (lv_sub hl [1, 2, 0] rfl) hf
      · refine lv_goto (tgt := 70) hx hb dX7_writeAct_57 (by decide) ?_
        exact w_X7_writeAct_70 hC hR hI (lv_sub hl [1, 2, 0] rfl) hf
def f_X7_writeAct (n : Nat) (S : x_S) : Option (x_S) :=
x_b2 (f_X7_next n S) (fun v2 S =>
x_let (g_sc S 737) (fun v3 =>
if v3 = 0 then
if v2 = 0 then
f_X7_writeAct_36 n S v2
else
if v2 = (1 : Int32) then
f_X7_writeAct_36 n S v2
else
if v2 = (4 : Int32) then
f_X7_writeAct_36 n S v2
else
if v2 = (5 : Int32) then
f_X7_writeAct_36 n S v2
else
x_b (f_X7_wrong n S (4 : Int32)) (fun S =>
f_X7_writeAct_36 n S v2)
else
f_X7_writeAct_36 n S v2))
set_option maxHeartbeats 4000000 in
set_option maxRecDepth 100000 in
theorem w_X7_writeAct {r : x_S} (hC : x_C p s m args meth c cX7_writeAct 4 RX7 E A) (hR : x_Rv p l e { frames := 2, cells := 0, slots := 0, locals := 45 } s m args below meth c cX7_writeAct E A Q (mw E ad r)) (hI : x_I E A s.heap (mw E ad S) H locs) (hl : lv_has ls 4 [(0, .ref (ad 799))]) (hf : f_X7_writeAct n S = some r) : W p l e { frames := 2, cells := 0, slots := 0, locals := 45 } s m args below meth c H locs 0 0 Q (F0 m 0 ls []) := by
  obtain ⟨hx, hb, hml, hown, hts, hK, hN, hA⟩ := id hC
  unfold f_X7_writeAct at hf
  refine lv_aload_n hx hb dX7_writeAct_0 rfl (lv_at hl 0 rfl) ?_
  obtain ⟨v2, S, hc1, hf⟩ := x_b2_eq hf
  refine x_callV hC hI (c_X7_next hc1) 0 7 rfl rfl kv_X7_239 rfl ⟨Nat.le_of_ble_eq_true rfl, Nat.le_of_ble_eq_true rfl⟩ ⟨Nat.le_refl _, Nat.le_refl _⟩ hl.1 rfl (Nat.le_of_ble_eq_true rfl) dX7_writeAct_1 (fun H locs hI => ?_)
  refine lv_istore_n (lv' := [(1, .int v2), (0, .ref (ad 799))]) hx hb dX7_writeAct_4 rfl hl (by decide) rfl (fun ls hl => ?_)
  refine lv_aload_n hx hb dX7_writeAct_5 rfl (lv_at hl 1 rfl) ?_
  refine gX7_37 hC hI hf lkf_X7_230 dX7_writeAct_6 (fun v3 hf => ?_)
  refine x_ne0 hC 36 hf dX7_writeAct_9 (by decide) (fun hf => ?_) (fun hf => ?_)
  · exact w_X7_writeAct_36 hC hR hI (lv_sub hl [1, 0] rfl) hf
  · refine lv_iload_n hx hb dX7_writeAct_12 rfl (lv_at hl 0 rfl) ?_
    refine x_eq0 hC 36 hf dX7_writeAct_13 (by decide) (fun hf => ?_) (fun hf => ?_)
    · exact w_X7_writeAct_36 hC hR hI (lv_sub hl [1, 0] rfl) hf
    · refine lv_iload_n hx hb dX7_writeAct_16 rfl (lv_at hl 0 rfl) ?_
      refine lv_iconst (v := (1 : Int32)) hx hb dX7_writeAct_17 (by decide) ?_
      refine x_ieq hC 36 hf dX7_writeAct_18 (by decide) (fun hf => ?_) (fun hf => ?_)
      · exact w_X7_writeAct_36 hC hR hI (lv_sub hl [1, 0] rfl) hf
      · refine lv_iload_n hx hb dX7_writeAct_21 rfl (lv_at hl 0 rfl) ?_
        refine lv_iconst (v := (4 : Int32)) hx hb dX7_writeAct_22 (by decide) ?_
        refine x_ieq hC 36 hf dX7_writeAct_23 (by decide) (fun hf => ?_) (fun hf => ?_)
        · exact w_X7_writeAct_36 hC hR hI (lv_sub hl [1, 0] rfl) hf
        · refine lv_iload_n hx hb dX7_writeAct_26 rfl (lv_at hl 0 rfl) ?_
          refine lv_iconst (v := (5 : Int32)) hx hb dX7_writeAct_27 (by decide) ?_
          refine x_ieq hC 36 hf dX7_writeAct_28 (by decide) (fun hf => ?_) (fun hf => ?_)
          · exact w_X7_writeAct_36 hC hR hI (lv_sub hl [1, 0] rfl) hf
          · refine lv_aload_n hx hb dX7_writeAct_31 rfl (lv_at hl 1 rfl) ?_
            refine lv_iconst (v := (4 : Int32)) hx hb dX7_writeAct_32 (by decide) ?_
            obtain ⟨S, hc15, hf⟩ := x_b_eq hf
            refine x_callV hC hI (c_X7_wrong hc15) 0 7 rfl rfl kv_X7_243 rfl ⟨Nat.le_of_ble_eq_true rfl, Nat.le_of_ble_eq_true rfl⟩ ⟨Nat.le_refl _, Nat.le_refl _⟩ hl.1 rfl (Nat.le_of_ble_eq_true rfl) dX7_writeAct_33 (fun H locs hI => ?_)
            exact w_X7_writeAct_36 hC hR hI (lv_sub hl [1, 0] rfl) hf
theorem c_X7_writeAct {S1 : x_S} (hf : f_X7_writeAct n S = some S1) : x_M l yX7_writeAct cX7_writeAct 4 none 2 45 E [.ref (ad 799)] (mw E ad S) (mw E ad S1) none :=
  x_entV (by decide) (Nat.le_of_ble_eq_true rfl) (fun p e s m args below meth c A Q ls hC hI hR hl => w_X7_writeAct (r := S1) hC hR hI hl hf)
-- X7_writeStatement
def f_X7_writeStatement_222 (n : Nat) (S : x_S) (a4 : Int32) (a5 : Int32) (a6 : Int32) (t0 : Int32) : Option (x_S) :=
x_b (f_X7_make n S t0 a4 a5 a6) (fun S =>
some S)
set_option maxHeartbeats 4000000 in
set_option maxRecDepth 100000 in
theorem w_X7_writeStatement_222 {r : x_S} {a4 : Int32} {a5 : Int32} {a6 : Int32} {t0 : Int32} (hC : x_C p s m args meth c cX7_writeStatement 7 RX7 E A) (hR : x_Rv p l e { frames := 3, cells := 0, slots := 0, locals := 68 } s m args below meth c cX7_writeStatement E A Q (mw E ad r)) (hI : x_I E A s.heap (mw E ad S) H locs) (hl : lv_has ls 7 [(4, .int a4), (5, .int a5), (6, .int a6)]) (hf : f_X7_writeStatement_222 n S a4 a5 a6 t0 = some r) : W p l e { frames := 3, cells := 0, slots := 0, locals := 68 } s m args below meth c H locs 0 0 Q (F0 m 222 ls [.int t0, .ref (ad 799)]) := by
  obtain ⟨hx, hb, hml, hown, hts, hK, hN, hA⟩ := id hC
  unfold f_X7_writeStatement_222 at hf
  refine lv_iload hx hb dX7_writeStatement_222 (lv_at hl 0 rfl) ?_
  refine lv_iload hx hb dX7_writeStatement_224 (lv_at hl 1 rfl) ?_
  refine lv_iload hx hb dX7_writeStatement_226 (lv_at hl 2 rfl) ?_
  obtain ⟨S, hc8, hf⟩ := x_b_eq hf
  refine x_callV hC hI (c_X7_make hc8) 0 7 rfl rfl kv_X7_249 rfl ⟨Nat.le_of_ble_eq_true rfl, Nat.le_of_ble_eq_true rfl⟩ ⟨Nat.le_refl _, Nat.le_refl _⟩ hl.1 rfl (Nat.le_of_ble_eq_true rfl) dX7_writeStatement_228 (fun H locs hI => ?_)
  refine lv_goto (tgt := 276) hx hb dX7_writeStatement_231 (by decide) ?_
  obtain rfl := Option.some.inj hf
  exact hR _ _ _ _ hI dX7_writeStatement_276
def f_X7_writeStatement_212 (n : Nat) (S : x_S) (a3 : Int32) (a4 : Int32) (a5 : Int32) (a6 : Int32) : Option (x_S) :=
if a3 = 0 then
f_X7_writeStatement_222 n S a4 a5 a6 (2 : Int32)
else
f_X7_writeStatement_222 n S a4 a5 a6 (3 : Int32)
set_option maxHeartbeats 4000000 in
set_option maxRecDepth 100000 in
theorem w_X7_writeStatement_212 {r : x_S} {a3 : Int32} {a4 : Int32} {a5 : Int32} {a6 : Int32} (hC : x_C p s m args meth c cX7_writeStatement 7 RX7 E A) (hR : x_Rv p l e { frames := 3, cells := 0, slots := 0, locals := 68 } s m args below meth c cX7_writeStatement E A Q (mw E ad r)) (hI : x_I E A s.heap (mw E ad S) H locs) (hl : lv_has ls 7 [(0, .ref (ad 799)), (3, .int a3), (4, .int a4), (5, .int a5), (6, .int a6)]) (hf : f_X7_writeStatement_212 n S a3 a4 a5 a6 = some r) : W p l e { frames := 3, cells := 0, slots := 0, locals := 68 } s m args below meth c H locs 0 0 Q (F0 m 212 ls []) := by
  obtain ⟨hx, hb, hml, hown, hts, hK, hN, hA⟩ := id hC
  unfold f_X7_writeStatement_212 at hf
  refine lv_aload_n hx hb dX7_writeStatement_212 rfl (lv_at hl 0 rfl) ?_
  refine lv_iload_n hx hb dX7_writeStatement_213 rfl (lv_at hl 1 rfl) ?_
  refine x_eq0 hC 221 hf dX7_writeStatement_214 (by decide) (fun hf => ?_) (fun hf => ?_)
  · refine lv_iconst (v := (2 : Int32)) hx hb dX7_writeStatement_221 (by decide) ?_
    exact w_X7_writeStatement_222 hC hR hI (lv_sub hl [2, 3, 4] rfl) hf
  · refine lv_iconst (v := (3 : Int32)) hx hb dX7_writeStatement_217 (by decide) ?_
    refine lv_goto (tgt := 222) hx hb dX7_writeStatement_218 (by decide) ?_
    exact w_X7_writeStatement_222 hC hR hI (lv_sub hl [2, 3, 4] rfl) hf
def f_X7_writeStatement_195 (n : Nat) (S : x_S) (a3 : Int32) (a4 : Int32) (a5 : Int32) : Option (x_S) :=
x_b2 (f_X7_next n S) (fun v7 S =>
if 0 ≤ v7 then
f_X7_writeStatement_212 n S a3 a4 a5 v7
else
x_b (f_X7_wrong n S (6 : Int32)) (fun S =>
f_X7_writeStatement_212 n S a3 a4 a5 v7))
set_option maxHeartbeats 4000000 in
set_option maxRecDepth 100000 in
theorem w_X7_writeStatement_195 {r : x_S} {a3 : Int32} {a4 : Int32} {a5 : Int32} (hC : x_C p s m args meth c cX7_writeStatement 7 RX7 E A) (hR : x_Rv p l e { frames := 3, cells := 0, slots := 0, locals := 68 } s m args below meth c cX7_writeStatement E A Q (mw E ad r)) (hI : x_I E A s.heap (mw E ad S) H locs) (hl : lv_has ls 7 [(0, .ref (ad 799)), (3, .int a3), (4, .int a4), (5, .int a5)]) (hf : f_X7_writeStatement_195 n S a3 a4 a5 = some r) : W p l e { frames := 3, cells := 0, slots := 0, locals := 68 } s m args below meth c H locs 0 0 Q (F0 m 195 ls []) := by
  obtain ⟨hx, hb, hml, hown, hts, hK, hN, hA⟩ := id hC
  unfold f_X7_writeStatement_195 at hf
  refine lv_aload_n hx hb dX7_writeStatement_195 rfl (lv_at hl 0 rfl) ?_
  obtain ⟨v7, S, hc6, hf⟩ := x_b2_eq hf
  refine x_callV hC hI (c_X7_next hc6) 0 7 rfl rfl kv_X7_239 rfl ⟨Nat.le_of_ble_eq_true rfl, Nat.le_of_ble_eq_true rfl⟩ ⟨Nat.le_refl _, Nat.le_refl _⟩ hl.1 rfl (Nat.le_of_ble_eq_true rfl) dX7_writeStatement_196 (fun H locs hI => ?_)
  refine lv_istore (lv' := [(6, .int v7), (0, .ref (ad 799)), (3, .int a3), (4, .int a4), (5, .int a5)]) hx hb dX7_writeStatement_199 hl (by decide) rfl (fun ls hl => ?_)
  refine lv_iload hx hb dX7_writeStatement_201 (lv_at hl 0 rfl) ?_
  refine x_ge0 hC 212 hf dX7_writeStatement_203 (by decide) (fun hf => ?_) (fun hf => ?_)
  · exact w_X7_writeStatement_212 hC hR hI (lv_sub hl [1, 2, 3, 4, 0] rfl) hf
  · refine lv_aload_n hx hb dX7_writeStatement_206 rfl (lv_at hl 1 rfl) ?_
    refine lv_bipush (v := (6 : Int32)) hx hb dX7_writeStatement_207 (by decide) ?_
    obtain ⟨S, hc9, hf⟩ := x_b_eq hf
    refine x_callV hC hI (c_X7_wrong hc9) 0 7 rfl rfl kv_X7_243 rfl ⟨Nat.le_of_ble_eq_true rfl, Nat.le_of_ble_eq_true rfl⟩ ⟨Nat.le_refl _, Nat.le_refl _⟩ hl.1 rfl (Nat.le_of_ble_eq_true rfl) dX7_writeStatement_209 (fun H locs hI => ?_)
    exact w_X7_writeStatement_212 hC hR hI (lv_sub hl [1, 2, 3, 4, 0] rfl) hf
def f_X7_writeStatement_265 (n : Nat) (S : x_S) (a1 : Int32) (a4 : Int32) (a5 : Int32) (a6 : Int32) : Option (x_S) :=
x_b (f_X7_beginBody n S a1 a4 a5 a6) (fun S =>
some S)
set_option maxHeartbeats 4000000 in
set_option maxRecDepth 100000 in
theorem w_X7_writeStatement_265 {r : x_S} {a1 : Int32} {a4 : Int32} {a5 : Int32} {a6 : Int32} (hC : x_C p s m args meth c cX7_writeStatement 7 RX7 E A) (hR : x_Rv p l e { frames := 3, cells := 0, slots := 0, locals := 68 } s m args below meth c cX7_writeStatement E A Q (mw E ad r)) (hI : x_I E A s.heap (mw E ad S) H locs) (hl : lv_has ls 7 [(0, .ref (ad 799)), (1, .int a1), (4, .int a4), (5, .int a5), (6, .int a6)]) (hf : f_X7_writeStatement_265 n S a1 a4 a5 a6 = some r) : W p l e { frames := 3, cells := 0, slots := 0, locals := 68 } s m args below meth c H locs 0 0 Q (F0 m 265 ls []) := by
  obtain ⟨hx, hb, hml, hown, hts, hK, hN, hA⟩ := id hC
  unfold f_X7_writeStatement_265 at hf
  refine lv_aload_n hx hb dX7_writeStatement_265 rfl (lv_at hl 0 rfl) ?_
  refine lv_iload_n hx hb dX7_writeStatement_266 rfl (lv_at hl 1 rfl) ?_
  refine lv_iload hx hb dX7_writeStatement_267 (lv_at hl 2 rfl) ?_
  refine lv_iload hx hb dX7_writeStatement_269 (lv_at hl 3 rfl) ?_
  refine lv_iload hx hb dX7_writeStatement_271 (lv_at hl 4 rfl) ?_
  obtain ⟨S, hc12, hf⟩ := x_b_eq hf
  refine x_callV hC hI (c_X7_beginBody hc12) 0 7 rfl rfl kv_X7_266 rfl ⟨Nat.le_of_ble_eq_true rfl, Nat.le_of_ble_eq_true rfl⟩ ⟨Nat.le_refl _, Nat.le_refl _⟩ hl.1 rfl (Nat.le_of_ble_eq_true rfl) dX7_writeStatement_273 (fun H locs hI => ?_)
  obtain rfl := Option.some.inj hf
  exact hR _ _ _ _ hI dX7_writeStatement_276
def f_X7_writeStatement_255 (n : Nat) (S : x_S) (a1 : Int32) (a4 : Int32) (a5 : Int32) (a6 : Int32) : Option (x_S) :=
x_b (f_X7_make n S (3 : Int32) a4 a5 (0 : Int32)) (fun S =>
f_X7_writeStatement_265 n S a1 a4 a5 a6)
set_option maxHeartbeats 4000000 in
set_option maxRecDepth 100000 in
theorem w_X7_writeStatement_255 {r : x_S} {a1 : Int32} {a4 : Int32} {a5 : Int32} {a6 : Int32} (hC : x_C p s m args meth c cX7_writeStatement 7 RX7 E A) (hR : x_Rv p l e { frames := 3, cells := 0, slots := 0, locals := 68 } s m args below meth c cX7_writeStatement E A Q (mw E ad r)) (hI : x_I E A s.heap (mw E ad S) H locs) (hl : lv_has ls 7 [(0, .ref (ad 799)), (1, .int a1), (4, .int a4), (5, .int a5), (6, .int a6)]) (hf : f_X7_writeStatement_255 n S a1 a4 a5 a6 = some r) : W p l e { frames := 3, cells := 0, slots := 0, locals := 68 } s m args below meth c H locs 0 0 Q (F0 m 255 ls []) := by
  obtain ⟨hx, hb, hml, hown, hts, hK, hN, hA⟩ := id hC
  unfold f_X7_writeStatement_255 at hf
  refine lv_aload_n hx hb dX7_writeStatement_255 rfl (lv_at hl 0 rfl) ?_
  refine lv_iconst (v := (3 : Int32)) hx hb dX7_writeStatement_256 (by decide) ?_
  refine lv_iload hx hb dX7_writeStatement_257 (lv_at hl 2 rfl) ?_
  refine lv_iload hx hb dX7_writeStatement_259 (lv_at hl 3 rfl) ?_
  refine lv_iconst (v := (0 : Int32)) hx hb dX7_writeStatement_261 (by decide) ?_
  obtain ⟨S, hc11, hf⟩ := x_b_eq hf
  refine x_callV hC hI (c_X7_make hc11) 0 7 rfl rfl kv_X7_249 rfl ⟨Nat.le_of_ble_eq_true rfl, Nat.le_of_ble_eq_true rfl⟩ ⟨Nat.le_refl _, Nat.le_refl _⟩ hl.1 rfl (Nat.le_of_ble_eq_true rfl) dX7_writeStatement_262 (fun H locs hI => ?_)
  exact w_X7_writeStatement_265 hC hR hI (lv_sub hl [0, 1, 2, 3, 4] rfl) hf
def f_X7_writeStatement_172 (n : Nat) (S : x_S) (a3 : Int32) (a4 : Int32) (a5 : Int32) (t0 : Int32) : Option (x_S) :=
x_b (f_X7_leave n S t0 a3 a4 a5) (fun S =>
some S)
set_option maxHeartbeats 4000000 in
set_option maxRecDepth 100000 in
theorem w_X7_writeStatement_172 {r : x_S} {a3 : Int32} {a4 : Int32} {a5 : Int32} {t0 : Int32} (hC : x_C p s m args meth c cX7_writeStatement 7 RX7 E A) (hR : x_Rv p l e { frames := 3, cells := 0, slots := 0, locals := 68 } s m args below meth c cX7_writeStatement E A Q (mw E ad r)) (hI : x_I E A s.heap (mw E ad S) H locs) (hl : lv_has ls 7 [(3, .int a3), (4, .int a4), (5, .int a5)]) (hf : f_X7_writeStatement_172 n S a3 a4 a5 t0 = some r) : W p l e { frames := 3, cells := 0, slots := 0, locals := 68 } s m args below meth c H locs 0 0 Q (F0 m 172 ls [.int t0, .ref (ad 799)]) := by
  obtain ⟨hx, hb, hml, hown, hts, hK, hN, hA⟩ := id hC
  unfold f_X7_writeStatement_172 at hf
  refine lv_iload_n hx hb dX7_writeStatement_172 rfl (lv_at hl 0 rfl) ?_
  refine lv_iload hx hb dX7_writeStatement_173 (lv_at hl 1 rfl) ?_
  refine lv_iload hx hb dX7_writeStatement_175 (lv_at hl 2 rfl) ?_
  obtain ⟨S, hc13, hf⟩ := x_b_eq hf
  refine x_callV hC hI (c_X7_leave hc13) 0 7 rfl rfl kv_X7_262 rfl ⟨Nat.le_of_ble_eq_true rfl, Nat.le_of_ble_eq_true rfl⟩ ⟨Nat.le_refl _, Nat.le_refl _⟩ hl.1 rfl (Nat.le_of_ble_eq_true rfl) dX7_writeStatement_177 (fun H locs hI => ?_)
  refine lv_goto (tgt := 276) hx hb dX7_writeStatement_180 (by decide) ?_
  obtain rfl := Option.some.inj hf
  exact hR _ _ _ _ hI dX7_writeStatement_276
def f_X7_writeStatement_167 (n : Nat) (S : x_S) (a3 : Int32) (a4 : Int32) (a5 : Int32) : Option (x_S) :=
f_X7_writeStatement_172 n S a3 a4 a5 (1 : Int32)
set_option maxHeartbeats 4000000 in
set_option maxRecDepth 100000 in
theorem w_X7_writeStatement_167 {r : x_S} {a3 : Int32} {a4 : Int32} {a5 : Int32} (hC : x_C p s m args meth c cX7_writeStatement 7 RX7 E A) (hR : x_Rv p l e { frames := 3, cells := 0, slots := 0, locals := 68 } s m args below meth c cX7_writeStatement E A Q (mw E ad r)) (hI : x_I E A s.heap (mw E ad S) H locs) (hl : lv_has ls 7 [(3, .int a3), (4, .int a4), (5, .int a5)]) (hf : f_X7_writeStatement_167 n S a3 a4 a5 = some r) : W p l e { frames := 3, cells := 0, slots := 0, locals := 68 } s m args below meth c H locs 0 0 Q (F0 m 167 ls [.ref (ad 799)]) := by
  obtain ⟨hx, hb, hml, hown, hts, hK, hN, hA⟩ := id hC
  unfold f_X7_writeStatement_167 at hf
  refine lv_iconst (v := (1 : Int32)) hx hb dX7_writeStatement_167 (by decide) ?_
  refine lv_goto (tgt := 172) hx hb dX7_writeStatement_168 (by decide) ?_
  exact w_X7_writeStatement_172 hC hR hI (lv_sub hl [0, 1, 2] rfl) hf
def f_X7_writeStatement_148 (n : Nat) (S : x_S) (a1 : Int32) (a2 : Int32) (a3 : Int32) (a4 : Int32) (t0 : Int32) : Option (x_S) :=
if a2 = 0 then
if a1 = (8 : Int32) then
f_X7_writeStatement_195 n S a3 a4 t0
else
if a1 = (11 : Int32) then
f_X7_writeStatement_195 n S a3 a4 t0
else
x_let (g_sc S 738) (fun v10 =>
if a1 = (1 : Int32) then
f_X7_writeStatement_255 n S a1 a4 t0 v10
else
if a1 = (2 : Int32) then
f_X7_writeStatement_255 n S a1 a4 t0 v10
else
if a1 = (4 : Int32) then
f_X7_writeStatement_255 n S a1 a4 t0 v10
else
f_X7_writeStatement_265 n S a1 a4 t0 v10)
else
if a1 = (6 : Int32) then
f_X7_writeStatement_167 n S a3 a4 t0
else
if a1 = (9 : Int32) then
f_X7_writeStatement_167 n S a3 a4 t0
else
f_X7_writeStatement_172 n S a3 a4 t0 (2 : Int32)
set_option maxHeartbeats 4000000 in
set_option maxRecDepth 100000 in
theorem w_X7_writeStatement_148 {r : x_S} {a1 : Int32} {a2 : Int32} {a3 : Int32} {a4 : Int32} {t0 : Int32} (hC : x_C p s m args meth c cX7_writeStatement 7 RX7 E A) (hR : x_Rv p l e { frames := 3, cells := 0, slots := 0, locals := 68 } s m args below meth c cX7_writeStatement E A Q (mw E ad r)) (hI : x_I E A s.heap (mw E ad S) H locs) (hl : lv_has ls 7 [(0, .ref (ad 799)), (1, .int a1), (2, .int a2), (3, .int a3), (4, .int a4)]) (hf : f_X7_writeStatement_148 n S a1 a2 a3 a4 t0 = some r) : W p l e { frames := 3, cells := 0, slots := 0, locals := 68 } s m args below meth c H locs 0 0 Q (F0 m 148 ls [.int t0]) := by
  obtain ⟨hx, hb, hml, hown, hts, hK, hN, hA⟩ := id hC
  unfold f_X7_writeStatement_148 at hf
  refine lv_istore (lv' := [(5, .int t0), (0, .ref (ad 799)), (1, .int a1), (2, .int a2), (3, .int a3), (4, .int a4)]) hx hb dX7_writeStatement_148 hl (by decide) rfl (fun ls hl => ?_)
  refine lv_iload_n hx hb dX7_writeStatement_150 rfl (lv_at hl 3 rfl) ?_
  refine x_eq0 hC 183 hf dX7_writeStatement_151 (by decide) (fun hf => ?_) (fun hf => ?_)
  · refine lv_iload_n hx hb dX7_writeStatement_183 rfl (lv_at hl 2 rfl) ?_
    refine lv_bipush (v := (8 : Int32)) hx hb dX7_writeStatement_184 (by decide) ?_
    refine x_ieq hC 195 hf dX7_writeStatement_186 (by decide) (fun hf => ?_) (fun hf => ?_)
    · exact w_X7_writeStatement_195 hC hR hI (lv_sub hl [1, 4, 5, 0] rfl) hf
    · refine lv_iload_n hx hb dX7_writeStatement_189 rfl (lv_at hl 2 rfl) ?_
      refine lv_bipush (v := (11 : Int32)) hx hb dX7_writeStatement_190 (by decide) ?_
      refine x_ine hC 234 hf dX7_writeStatement_192 (by decide) (fun hf => ?_) (fun hf => ?_)
      · refine lv_aload_n hx hb dX7_writeStatement_234 rfl (lv_at hl 1 rfl) ?_
        refine gX7_38 hC hI hf lkf_X7_236 dX7_writeStatement_235 (fun v10 hf => ?_)
        refine lv_istore (lv' := [(6, .int v10), (5, .int t0), (0, .ref (ad 799)), (1, .int a1), (2, .int a2), (3, .int a3), (4, .int a4)]) hx hb dX7_writeStatement_238 hl (by decide) rfl (fun ls hl => ?_)
        refine lv_iload_n hx hb dX7_writeStatement_240 rfl (lv_at hl 3 rfl) ?_
        refine lv_iconst (v := (1 : Int32)) hx hb dX7_writeStatement_241 (by decide) ?_
        refine x_ieq hC 255 hf dX7_writeStatement_242 (by decide) (fun hf => ?_) (fun hf => ?_)
        · exact w_X7_writeStatement_255 hC hR hI (lv_sub hl [2, 3, 6, 1, 0] rfl) hf
        · refine lv_iload_n hx hb dX7_writeStatement_245 rfl (lv_at hl 3 rfl) ?_
          refine lv_iconst (v := (2 : Int32)) hx hb dX7_writeStatement_246 (by decide) ?_
          refine x_ieq hC 255 hf dX7_writeStatement_247 (by decide) (fun hf => ?_) (fun hf => ?_)
          · exact w_X7_writeStatement_255 hC hR hI (lv_sub hl [2, 3, 6, 1, 0] rfl) hf
          · refine lv_iload_n hx hb dX7_writeStatement_250 rfl (lv_at hl 3 rfl) ?_
            refine lv_iconst (v := (4 : Int32)) hx hb dX7_writeStatement_251 (by decide) ?_
            refine x_ine hC 265 hf dX7_writeStatement_252 (by decide) (fun hf => ?_) (fun hf => ?_)
            · exact w_X7_writeStatement_265 hC hR hI (lv_sub hl [2, 3, 6, 1, 0] rfl) hf
            · exact w_X7_writeStatement_255 hC hR hI (lv_sub hl [2, 3, 6, 1, 0] rfl) hf
      · exact w_X7_writeStatement_195 hC hR hI (lv_sub hl [1, 4, 5, 0] rfl) hf
  · refine lv_aload_n hx hb dX7_writeStatement_154 rfl (lv_at hl 1 rfl) ?_
    refine lv_iload_n hx hb dX7_writeStatement_155 rfl (lv_at hl 2 rfl) ?_
    refine lv_bipush (v := (6 : Int32)) hx hb dX7_writeStatement_156 (by decide) ?_
    refine x_ieq hC 167 hf dX7_writeStatement_158 (by decide) (fun hf => ?_) (fun hf => ?_)
    · exact w_X7_writeStatement_167 hC hR hI (lv_sub hl [4, 5, 0] rfl) hf
    · refine lv_iload_n hx hb dX7_writeStatement_161 rfl (lv_at hl 2 rfl) ?_
      refine lv_bipush (v := (9 : Int32)) hx hb dX7_writeStatement_162 (by decide) ?_
      refine x_ine hC 171 hf dX7_writeStatement_164 (by decide) (fun hf => ?_) (fun hf => ?_)
      · refine lv_iconst (v := (2 : Int32)) hx hb dX7_writeStatement_171 (by decide) ?_
        exact w_X7_writeStatement_172 hC hR hI (lv_sub hl [4, 5, 0] rfl) hf
      · exact w_X7_writeStatement_167 hC hR hI (lv_sub hl [4, 5, 0] rfl) hf
def f_X7_writeStatement_133 (n : Nat) (S : x_S) (a1 : Int32) (a2 : Int32) (a3 : Int32) (t0 : Int32) : Option (x_S) :=
if a3 = 0 then
f_X7_writeStatement_148 n S a1 a2 a3 t0 (0 : Int32)
else
x_b2 (f_X7_testing n S (1 : Int32)) (fun v15 S =>
f_X7_writeStatement_148 n S a1 a2 a3 t0 v15)
set_option maxHeartbeats 4000000 in
set_option maxRecDepth 100000 in
theorem w_X7_writeStatement_133 {r : x_S} {a1 : Int32} {a2 : Int32} {a3 : Int32} {t0 : Int32} (hC : x_C p s m args meth c cX7_writeStatement 7 RX7 E A) (hR : x_Rv p l e { frames := 3, cells := 0, slots := 0, locals := 68 } s m args below meth c cX7_writeStatement E A Q (mw E ad r)) (hI : x_I E A s.heap (mw E ad S) H locs) (hl : lv_has ls 7 [(0, .ref (ad 799)), (1, .int a1), (2, .int a2), (3, .int a3)]) (hf : f_X7_writeStatement_133 n S a1 a2 a3 t0 = some r) : W p l e { frames := 3, cells := 0, slots := 0, locals := 68 } s m args below meth c H locs 0 0 Q (F0 m 133 ls [.int t0]) := by
  obtain ⟨hx, hb, hml, hown, hts, hK, hN, hA⟩ := id hC
  unfold f_X7_writeStatement_133 at hf
  refine lv_istore (lv' := [(4, .int t0), (0, .ref (ad 799)), (1, .int a1), (2, .int a2), (3, .int a3)]) hx hb dX7_writeStatement_133 hl (by decide) rfl (fun ls hl => ?_)
  refine lv_iload_n hx hb dX7_writeStatement_135 rfl (lv_at hl 4 rfl) ?_
  refine x_eq0 hC 147 hf dX7_writeStatement_136 (by decide) (fun hf => ?_) (fun hf => ?_)
  · refine lv_iconst (v := (0 : Int32)) hx hb dX7_writeStatement_147 (by decide) ?_
    exact w_X7_writeStatement_148 hC hR hI (lv_sub hl [1, 2, 3, 4, 0] rfl) hf
  · refine lv_aload_n hx hb dX7_writeStatement_139 rfl (lv_at hl 1 rfl) ?_
    refine lv_iconst (v := (1 : Int32)) hx hb dX7_writeStatement_140 (by decide) ?_
    obtain ⟨v15, S, hc14, hf⟩ := x_b2_eq hf
    refine x_callV hC hI (c_X7_testing hc14) 0 7 rfl rfl kv_X7_259 rfl ⟨Nat.le_of_ble_eq_true rfl, Nat.le_of_ble_eq_true rfl⟩ ⟨Nat.le_refl _, Nat.le_refl _⟩ hl.1 rfl (Nat.le_of_ble_eq_true rfl) dX7_writeStatement_141 (fun H locs hI => ?_)
    refine lv_goto (tgt := 148) hx hb dX7_writeStatement_144 (by decide) ?_
    exact w_X7_writeStatement_148 hC hR hI (lv_sub hl [1, 2, 3, 4, 0] rfl) hf
def f_X7_writeStatement_119 (n : Nat) (S : x_S) (a1 : Int32) (a2 : Int32) (t0 : Int32) : Option (x_S) :=
if t0 = 0 then
f_X7_writeStatement_133 n S a1 a2 t0 (0 : Int32)
else
x_b2 (f_X7_testing n S (0 : Int32)) (fun v17 S =>
f_X7_writeStatement_133 n S a1 a2 t0 v17)
set_option maxHeartbeats 4000000 in
set_option maxRecDepth 100000 in
theorem w_X7_writeStatement_119 {r : x_S} {a1 : Int32} {a2 : Int32} {t0 : Int32} (hC : x_C p s m args meth c cX7_writeStatement 7 RX7 E A) (hR : x_Rv p l e { frames := 3, cells := 0, slots := 0, locals := 68 } s m args below meth c cX7_writeStatement E A Q (mw E ad r)) (hI : x_I E A s.heap (mw E ad S) H locs) (hl : lv_has ls 7 [(0, .ref (ad 799)), (1, .int a1), (2, .int a2)]) (hf : f_X7_writeStatement_119 n S a1 a2 t0 = some r) : W p l e { frames := 3, cells := 0, slots := 0, locals := 68 } s m args below meth c H locs 0 0 Q (F0 m 119 ls [.int t0]) := by
  obtain ⟨hx, hb, hml, hown, hts, hK, hN, hA⟩ := id hC
  unfold f_X7_writeStatement_119 at hf
  refine lv_istore_n (lv' := [(3, .int t0), (0, .ref (ad 799)), (1, .int a1), (2, .int a2)]) hx hb dX7_writeStatement_119 rfl hl (by decide) rfl (fun ls hl => ?_)
  refine lv_iload_n hx hb dX7_writeStatement_120 rfl (lv_at hl 0 rfl) ?_
  refine x_eq0 hC 132 hf dX7_writeStatement_121 (by decide) (fun hf => ?_) (fun hf => ?_)
  · refine lv_iconst (v := (0 : Int32)) hx hb dX7_writeStatement_132 (by decide) ?_
    exact w_X7_writeStatement_133 hC hR hI (lv_sub hl [1, 2, 3, 0] rfl) hf
  · refine lv_aload_n hx hb dX7_writeStatement_124 rfl (lv_at hl 1 rfl) ?_
    refine lv_iconst (v := (0 : Int32)) hx hb dX7_writeStatement_125 (by decide) ?_
    obtain ⟨v17, S, hc16, hf⟩ := x_b2_eq hf
    refine x_callV hC hI (c_X7_testing hc16) 0 7 rfl rfl kv_X7_259 rfl ⟨Nat.le_of_ble_eq_true rfl, Nat.le_of_ble_eq_true rfl⟩ ⟨Nat.le_refl _, Nat.le_refl _⟩ hl.1 rfl (Nat.le_of_ble_eq_true rfl) dX7_writeStatement_126 (fun H locs hI => ?_)
    refine lv_goto (tgt := 133) hx hb dX7_writeStatement_129 (by decide) ?_
    exact w_X7_writeStatement_133 hC hR hI (lv_sub hl [1, 2, 3, 0] rfl) hf
def f_X7_writeStatement_118 (n : Nat) (S : x_S) (a1 : Int32) (a2 : Int32) : Option (x_S) :=
f_X7_writeStatement_119 n S a1 a2 (0 : Int32)
set_option maxHeartbeats 4000000 in
set_option maxRecDepth 100000 in
theorem w_X7_writeStatement_118 {r : x_S} {a1 : Int32} {a2 : Int32} (hC : x_C p s m args meth c cX7_writeStatement 7 RX7 E A) (hR : x_Rv p l e { frames := 3, cells := 0, slots := 0, locals := 68 } s m args below meth c cX7_writeStatement E A Q (mw E ad r)) (hI : x_I E A s.heap (mw E ad S) H locs) (hl : lv_has ls 7 [(0, .ref (ad 799)), (1, .int a1), (2, .int a2)]) (hf : f_X7_writeStatement_118 n S a1 a2 = some r) : W p l e { frames := 3, cells := 0, slots := 0, locals := 68 } s m args below meth c H locs 0 0 Q (F0 m 118 ls []) := by
  obtain ⟨hx, hb, hml, hown, hts, hK, hN, hA⟩ := id hC
  unfold f_X7_writeStatement_118 at hf
  refine lv_iconst (v := (0 : Int32)) hx hb dX7_writeStatement_118 (by decide) ?_
  exact w_X7_writeStatement_119 hC hR hI (lv_sub hl [0, 1, 2] rfl) hf
def f_X7_writeStatement_81 (n : Nat) (S : x_S) (a1 : Int32) (a2 : Int32) : Option (x_S) :=
x_let (g_sc S 737) (fun v5 =>
if v5 = 0 then
if a1 = 0 then
x_b (f_X7_writeAct n S) (fun S =>
some S)
else
if a1 = (3 : Int32) then
f_X7_writeStatement_118 n S a1 a2
else
x_b (f_X7_in n a1 (6 : Int32) (8 : Int32)) (fun v19 =>
if v19 = 0 then
f_X7_writeStatement_119 n S a1 a2 (1 : Int32)
else
f_X7_writeStatement_118 n S a1 a2)
else
some S)
set_option maxHeartbeats 4000000 in
set_option maxRecDepth 100000 in
theorem w_X7_writeStatement_81 {r : x_S} {a1 : Int32} {a2 : Int32} (hC : x_C p s m args meth c cX7_writeStatement 7 RX7 E A) (hR : x_Rv p l e { frames := 3, cells := 0, slots := 0, locals := 68 } s m args below meth c cX7_writeStatement E A Q (mw E ad r)) (hI : x_I E A s.heap (mw E ad S) H locs) (hl : lv_has ls 7 [(0, .ref (ad 799)), (1, .int a1), (2, .int a2)]) (hf : f_X7_writeStatement_81 n S a1 a2 = some r) : W p l e { frames := 3, cells := 0, slots := 0, locals := 68 } s m args below meth c H locs 0 0 Q (F0 m 81 ls []) := by
  obtain ⟨hx, hb, hml, hown, hts, hK, hN, hA⟩ := id hC
  unfold f_X7_writeStatement_81 at hf
  refine lv_aload_n hx hb dX7_writeStatement_81 rfl (lv_at hl 0 rfl) ?_
  refine gX7_37 hC hI hf lkf_X7_230 dX7_writeStatement_82 (fun v5 hf => ?_)
  refine x_eq0 hC 89 hf dX7_writeStatement_85 (by decide) (fun hf => ?_) (fun hf => ?_)
  · refine lv_iload_n hx hb dX7_writeStatement_89 rfl (lv_at hl 1 rfl) ?_
    refine x_ne0 hC 98 hf dX7_writeStatement_90 (by decide) (fun hf => ?_) (fun hf => ?_)
    · refine lv_iload_n hx hb dX7_writeStatement_98 rfl (lv_at hl 1 rfl) ?_
      refine lv_iconst (v := (3 : Int32)) hx hb dX7_writeStatement_99 (by decide) ?_
      refine x_ieq hC 118 hf dX7_writeStatement_100 (by decide) (fun hf => ?_) (fun hf => ?_)
      · exact w_X7_writeStatement_118 hC hR hI (lv_sub hl [0, 1, 2] rfl) hf
      · refine lv_iload_n hx hb dX7_writeStatement_103 rfl (lv_at hl 1 rfl) ?_
        refine lv_bipush (v := (6 : Int32)) hx hb dX7_writeStatement_104 (by decide) ?_
        refine lv_bipush (v := (8 : Int32)) hx hb dX7_writeStatement_106 (by decide) ?_
        obtain ⟨v19, hc18, hf⟩ := x_b_eq hf
        refine x_callS hC hI (c_X7_in hc18) ks_X7_138 rfl ⟨Nat.le_of_ble_eq_true rfl, Nat.le_of_ble_eq_true rfl⟩ ⟨Nat.le_refl _, Nat.le_refl _⟩ hl.1 rfl (Nat.le_of_ble_eq_true rfl) dX7_writeStatement_108 (fun H locs hI => ?_)
        refine x_ne0 hC 118 hf dX7_writeStatement_111 (by decide) (fun hf => ?_) (fun hf => ?_)
        · exact w_X7_writeStatement_118 hC hR hI (lv_sub hl [0, 1, 2] rfl) hf
        · refine lv_iconst (v := (1 : Int32)) hx hb dX7_writeStatement_114 (by decide) ?_
          refine lv_goto (tgt := 119) hx hb dX7_writeStatement_115 (by decide) ?_
          exact w_X7_writeStatement_119 hC hR hI (lv_sub hl [0, 1, 2] rfl) hf
    · refine lv_aload_n hx hb dX7_writeStatement_93 rfl (lv_at hl 0 rfl) ?_
      obtain ⟨S, hc20, hf⟩ := x_b_eq hf
      refine x_callV hC hI (c_X7_writeAct hc20) 0 7 rfl rfl kv_X7_256 rfl ⟨Nat.le_of_ble_eq_true rfl, Nat.le_of_ble_eq_true rfl⟩ ⟨Nat.le_refl _, Nat.le_refl _⟩ hl.1 rfl (Nat.le_of_ble_eq_true rfl) dX7_writeStatement_94 (fun H locs hI => ?_)
      obtain rfl := Option.some.inj hf
      exact hR _ _ _ _ hI dX7_writeStatement_97
  · obtain rfl := Option.some.inj hf
    exact hR _ _ _ _ hI dX7_writeStatement_88
def f_X7_writeStatement_56 (n : Nat) (S : x_S) (a1 : Int32) (t0 : Int32) : Option (x_S) :=
x_let (g_sc S 737) (fun v4 =>
if v4 = 0 then
if t0 = 0 then
f_X7_writeStatement_81 n S a1 t0
else
x_b2 (f_X7_innermost n S) (fun v22 S =>
if v22 = (-1 : Int32) then
x_b (f_X7_wrong n S (5 : Int32)) (fun S =>
f_X7_writeStatement_81 n S a1 t0)
else
f_X7_writeStatement_81 n S a1 t0)
else
f_X7_writeStatement_81 n S a1 t0)
set_option maxHeartbeats 4000000 in
set_option maxRecDepth 100000 in
theorem w_X7_writeStatement_56 {r : x_S} {a1 : Int32} {t0 : Int32} (hC : x_C p s m args meth c cX7_writeStatement 7 RX7 E A) (hR : x_Rv p l e { frames := 3, cells := 0, slots := 0, locals := 68 } s m args below meth c cX7_writeStatement E A Q (mw E ad r)) (hI : x_I E A s.heap (mw E ad S) H locs) (hl : lv_has ls 7 [(0, .ref (ad 799)), (1, .int a1)]) (hf : f_X7_writeStatement_56 n S a1 t0 = some r) : W p l e { frames := 3, cells := 0, slots := 0, locals := 68 } s m args below meth c H locs 0 0 Q (F0 m 56 ls [.int t0]) := by
  obtain ⟨hx, hb, hml, hown, hts, hK, hN, hA⟩ := id hC
  unfold f_X7_writeStatement_56 at hf
  refine lv_istore_n (lv' := [(2, .int t0), (0, .ref (ad 799)), (1, .int a1)]) hx hb dX7_writeStatement_56 rfl hl (by decide) rfl (fun ls hl => ?_)
  refine lv_aload_n hx hb dX7_writeStatement_57 rfl (lv_at hl 1 rfl) ?_
  refine gX7_37 hC hI hf lkf_X7_230 dX7_writeStatement_58 (fun v4 hf => ?_)
  refine x_ne0 hC 81 hf dX7_writeStatement_61 (by decide) (fun hf => ?_) (fun hf => ?_)
  · exact w_X7_writeStatement_81 hC hR hI (lv_sub hl [1, 2, 0] rfl) hf
  · refine lv_iload_n hx hb dX7_writeStatement_64 rfl (lv_at hl 0 rfl) ?_
    refine x_eq0 hC 81 hf dX7_writeStatement_65 (by decide) (fun hf => ?_) (fun hf => ?_)
    · exact w_X7_writeStatement_81 hC hR hI (lv_sub hl [1, 2, 0] rfl) hf
    · refine lv_aload_n hx hb dX7_writeStatement_68 rfl (lv_at hl 1 rfl) ?_
      obtain ⟨v22, S, hc21, hf⟩ := x_b2_eq hf
      refine x_callV hC hI (c_X7_innermost hc21) 0 7 rfl rfl kv_X7_253 rfl ⟨Nat.le_of_ble_eq_true rfl, Nat.le_of_ble_eq_true rfl⟩ ⟨Nat.le_refl _, Nat.le_refl _⟩ hl.1 rfl (Nat.le_of_ble_eq_true rfl) dX7_writeStatement_69 (fun H locs hI => ?_)
      refine lv_iconst (v := (-1 : Int32)) hx hb dX7_writeStatement_72 (by decide) ?_
      refine x_ine hC 81 hf dX7_writeStatement_73 (by decide) (fun hf => ?_) (fun hf => ?_)
      · exact w_X7_writeStatement_81 hC hR hI (lv_sub hl [1, 2, 0] rfl) hf
      · refine lv_aload_n hx hb dX7_writeStatement_76 rfl (lv_at hl 1 rfl) ?_
        refine lv_iconst (v := (5 : Int32)) hx hb dX7_writeStatement_77 (by decide) ?_
        obtain ⟨S, hc23, hf⟩ := x_b_eq hf
        refine x_callV hC hI (c_X7_wrong hc23) 0 7 rfl rfl kv_X7_243 rfl ⟨Nat.le_of_ble_eq_true rfl, Nat.le_of_ble_eq_true rfl⟩ ⟨Nat.le_refl _, Nat.le_refl _⟩ hl.1 rfl (Nat.le_of_ble_eq_true rfl) dX7_writeStatement_78 (fun H locs hI => ?_)
        exact w_X7_writeStatement_81 hC hR hI (lv_sub hl [1, 2, 0] rfl) hf
def f_X7_writeStatement_51 (n : Nat) (S : x_S) (a1 : Int32) : Option (x_S) :=
f_X7_writeStatement_56 n S a1 (1 : Int32)
set_option maxHeartbeats 4000000 in
set_option maxRecDepth 100000 in
theorem w_X7_writeStatement_51 {r : x_S} {a1 : Int32} (hC : x_C p s m args meth c cX7_writeStatement 7 RX7 E A) (hR : x_Rv p l e { frames := 3, cells := 0, slots := 0, locals := 68 } s m args below meth c cX7_writeStatement E A Q (mw E ad r)) (hI : x_I E A s.heap (mw E ad S) H locs) (hl : lv_has ls 7 [(0, .ref (ad 799)), (1, .int a1)]) (hf : f_X7_writeStatement_51 n S a1 = some r) : W p l e { frames := 3, cells := 0, slots := 0, locals := 68 } s m args below meth c H locs 0 0 Q (F0 m 51 ls []) := by
  obtain ⟨hx, hb, hml, hown, hts, hK, hN, hA⟩ := id hC
  unfold f_X7_writeStatement_51 at hf
  refine lv_iconst (v := (1 : Int32)) hx hb dX7_writeStatement_51 (by decide) ?_
  refine lv_goto (tgt := 56) hx hb dX7_writeStatement_52 (by decide) ?_
  exact w_X7_writeStatement_56 hC hR hI (lv_sub hl [0, 1] rfl) hf
def f_X7_writeStatement_27 (n : Nat) (S : x_S) (a1 : Int32) : Option (x_S) :=
if a1 = (6 : Int32) then
f_X7_writeStatement_51 n S a1
else
if a1 = (7 : Int32) then
f_X7_writeStatement_51 n S a1
else
if a1 = (9 : Int32) then
f_X7_writeStatement_51 n S a1
else
if a1 = (10 : Int32) then
f_X7_writeStatement_51 n S a1
else
f_X7_writeStatement_56 n S a1 (0 : Int32)
set_option maxHeartbeats 4000000 in
set_option maxRecDepth 100000 in
theorem w_X7_writeStatement_27 {r : x_S} {a1 : Int32} (hC : x_C p s m args meth c cX7_writeStatement 7 RX7 E A) (hR : x_Rv p l e { frames := 3, cells := 0, slots := 0, locals := 68 } s m args below meth c cX7_writeStatement E A Q (mw E ad r)) (hI : x_I E A s.heap (mw E ad S) H locs) (hl : lv_has ls 7 [(0, .ref (ad 799)), (1, .int a1)]) (hf : f_X7_writeStatement_27 n S a1 = some r) : W p l e { frames := 3, cells := 0, slots := 0, locals := 68 } s m args below meth c H locs 0 0 Q (F0 m 27 ls []) := by
  obtain ⟨hx, hb, hml, hown, hts, hK, hN, hA⟩ := id hC
  unfold f_X7_writeStatement_27 at hf
  refine lv_iload_n hx hb dX7_writeStatement_27 rfl (lv_at hl 1 rfl) ?_
  refine lv_bipush (v := (6 : Int32)) hx hb dX7_writeStatement_28 (by decide) ?_
  refine x_ieq hC 51 hf dX7_writeStatement_30 (by decide) (fun hf => ?_) (fun hf => ?_)
  · exact w_X7_writeStatement_51 hC hR hI (lv_sub hl [0, 1] rfl) hf
  · refine lv_iload_n hx hb dX7_writeStatement_33 rfl (lv_at hl 1 rfl) ?_
    refine lv_bipush (v := (7 : Int32)) hx hb dX7_writeStatement_34 (by decide) ?_
    refine x_ieq hC 51 hf dX7_writeStatement_36 (by decide) (fun hf => ?_) (fun hf => ?_)
    · exact w_X7_writeStatement_51 hC hR hI (lv_sub hl [0, 1] rfl) hf
    · refine lv_iload_n hx hb dX7_writeStatement_39 rfl (lv_at hl 1 rfl) ?_
      refine lv_bipush (v := (9 : Int32)) hx hb dX7_writeStatement_40 (by decide) ?_
      refine x_ieq hC 51 hf dX7_writeStatement_42 (by decide) (fun hf => ?_) (fun hf => ?_)
      · exact w_X7_writeStatement_51 hC hR hI (lv_sub hl [0, 1] rfl) hf
      · refine lv_iload_n hx hb dX7_writeStatement_45 rfl (lv_at hl 1 rfl) ?_
        refine lv_bipush (v := (10 : Int32)) hx hb dX7_writeStatement_46 (by decide) ?_
        refine x_ine hC 55 hf dX7_writeStatement_48 (by decide) (fun hf => ?_) (fun hf => ?_)
        · refine lv_iconst (v := (0 : Int32)) hx hb dX7_writeStatement_55 (by decide) ?_
          exact w_X7_writeStatement_56 hC hR hI (lv_sub hl [0, 1] rfl) hf
        · exact w_X7_writeStatement_51 hC hR hI (lv_sub hl [0, 1] rfl) hf
def f_X7_writeStatement (n : Nat) (S : x_S) : Option (x_S) :=
x_b2 (f_X7_next n S) (fun v2 S =>
x_let (g_sc S 737) (fun v3 =>
if v3 = 0 then
x_b (f_X7_in n v2 (0 : Int32) (11 : Int32)) (fun v25 =>
if v25 = 0 then
x_b (f_X7_wrong n S (2 : Int32)) (fun S =>
f_X7_writeStatement_27 n S v2)
else
f_X7_writeStatement_27 n S v2)
else
f_X7_writeStatement_27 n S v2))
set_option maxHeartbeats 4000000 in
set_option maxRecDepth 100000 in
theorem w_X7_writeStatement {r : x_S} (hC : x_C p s m args meth c cX7_writeStatement 7 RX7 E A) (hR : x_Rv p l e { frames := 3, cells := 0, slots := 0, locals := 68 } s m args below meth c cX7_writeStatement E A Q (mw E ad r)) (hI : x_I E A s.heap (mw E ad S) H locs) (hl : lv_has ls 7 [(0, .ref (ad 799))]) (hf : f_X7_writeStatement n S = some r) : W p l e { frames := 3, cells := 0, slots := 0, locals := 68 } s m args below meth c H locs 0 0 Q (F0 m 0 ls []) := by
  obtain ⟨hx, hb, hml, hown, hts, hK, hN, hA⟩ := id hC
  unfold f_X7_writeStatement at hf
  refine lv_aload_n hx hb dX7_writeStatement_0 rfl (lv_at hl 0 rfl) ?_
  obtain ⟨v2, S, hc1, hf⟩ := x_b2_eq hf
  refine x_callV hC hI (c_X7_next hc1) 0 7 rfl rfl kv_X7_239 rfl ⟨Nat.le_of_ble_eq_true rfl, Nat.le_of_ble_eq_true rfl⟩ ⟨Nat.le_refl _, Nat.le_refl _⟩ hl.1 rfl (Nat.le_of_ble_eq_true rfl) dX7_writeStatement_1 (fun H locs hI => ?_)
  refine lv_istore_n (lv' := [(1, .int v2), (0, .ref (ad 799))]) hx hb dX7_writeStatement_4 rfl hl (by decide) rfl (fun ls hl => ?_)
  refine lv_aload_n hx hb dX7_writeStatement_5 rfl (lv_at hl 1 rfl) ?_
  refine gX7_37 hC hI hf lkf_X7_230 dX7_writeStatement_6 (fun v3 hf => ?_)
  refine x_ne0 hC 27 hf dX7_writeStatement_9 (by decide) (fun hf => ?_) (fun hf => ?_)
  · exact w_X7_writeStatement_27 hC hR hI (lv_sub hl [1, 0] rfl) hf
  · refine lv_iload_n hx hb dX7_writeStatement_12 rfl (lv_at hl 0 rfl) ?_
    refine lv_iconst (v := (0 : Int32)) hx hb dX7_writeStatement_13 (by decide) ?_
    refine lv_bipush (v := (11 : Int32)) hx hb dX7_writeStatement_14 (by decide) ?_
    obtain ⟨v25, hc24, hf⟩ := x_b_eq hf
    refine x_callS hC hI (c_X7_in hc24) ks_X7_138 rfl ⟨Nat.le_of_ble_eq_true rfl, Nat.le_of_ble_eq_true rfl⟩ ⟨Nat.le_refl _, Nat.le_refl _⟩ hl.1 rfl (Nat.le_of_ble_eq_true rfl) dX7_writeStatement_16 (fun H locs hI => ?_)
    refine x_ne0 hC 27 hf dX7_writeStatement_19 (by decide) (fun hf => ?_) (fun hf => ?_)
    · exact w_X7_writeStatement_27 hC hR hI (lv_sub hl [1, 0] rfl) hf
    · refine lv_aload_n hx hb dX7_writeStatement_22 rfl (lv_at hl 1 rfl) ?_
      refine lv_iconst (v := (2 : Int32)) hx hb dX7_writeStatement_23 (by decide) ?_
      obtain ⟨S, hc26, hf⟩ := x_b_eq hf
      refine x_callV hC hI (c_X7_wrong hc26) 0 7 rfl rfl kv_X7_243 rfl ⟨Nat.le_of_ble_eq_true rfl, Nat.le_of_ble_eq_true rfl⟩ ⟨Nat.le_refl _, Nat.le_refl _⟩ hl.1 rfl (Nat.le_of_ble_eq_true rfl) dX7_writeStatement_24 (fun H locs hI => ?_)
      exact w_X7_writeStatement_27 hC hR hI (lv_sub hl [1, 0] rfl) hf
theorem c_X7_writeStatement {S1 : x_S} (hf : f_X7_writeStatement n S = some S1) : x_M l yX7_writeStatement cX7_writeStatement 7 none 3 68 E [.ref (ad 799)] (mw E ad S) (mw E ad S1) none :=
  x_entV (by decide) (Nat.le_of_ble_eq_true rfl) (fun p e s m args below meth c A Q ls hC hI hR hl => w_X7_writeStatement (r := S1) hC hR hI hl hf)
end
