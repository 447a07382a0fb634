section
variable {p : Program} {l : Launch} {e : Env} {s : State} {m : MethodId} {args : Array Value} {below : List Frame} {meth : Method} {c : Code} {H : Heap} {locs : List Loc} {Q : State → Prop}
variable {E : x_E} {A : Nat → Prop} {ls : Array Slot} {ad : Nat → Nat} {ap : Nat → Nat → Nat} {S : x_S} {w : va_W} {n : Nat}
-- X4_tell
def f_X4_tell (n : Nat) (S : x_S) (a1 : Int32) (a2 : Int32) : Option (Int32 × x_S) :=
if a2 = (0 : Int32) then
x_g (¬ (a1 < 0 ∨ 60 ≤ (a1).toNatClampNeg)) (x_let (g_ar S 400 (a1).toNatClampNeg) (fun v1 =>
some (v1, S)))
else
if a2 = (1 : Int32) then
x_g (¬ (a1 < 0 ∨ 60 ≤ (a1).toNatClampNeg)) (x_let (g_ar S 401 (a1).toNatClampNeg) (fun v2 =>
some (v2, S)))
else
if a2 = (2 : Int32) then
x_g (¬ (a1 < 0 ∨ 60 ≤ (a1).toNatClampNeg)) (x_let (g_ar S 402 (a1).toNatClampNeg) (fun v3 =>
some (v3, S)))
else
if a2 = (3 : Int32) then
x_g (¬ (a1 < 0 ∨ 60 ≤ (a1).toNatClampNeg)) (x_let (g_ar S 403 (a1).toNatClampNeg) (fun v4 =>
some (v4, S)))
else
if a2 = (4 : Int32) then
x_g (¬ (a1 < 0 ∨ 60 ≤ (a1).toNatClampNeg)) (x_let (g_ar S 404 (a1).toNatClampNeg) (fun v5 =>
some (v5, S)))
else
x_g (¬ (a1 < 0 ∨ 60 ≤ (a1).toNatClampNeg)) (x_let (g_ar S 405 (a1).toNatClampNeg) (fun v6 =>
some (v6, S)))
set_option maxHeartbeats 4000000 in
set_option maxRecDepth 100000 in
theorem w_X4_tell {r : Int32 × x_S} {a1 : Int32} {a2 : Int32} (hC : x_C p s m args meth c cX4_tell 3 RX4 E A) (hR : x_Ri p l e { frames := 0, cells := 0, slots := 0, locals := 0 } s m args below meth c cX4_tell E A Q (cw E ad ap r.2) r.1) (hI : x_I E A s.heap (cw E ad ap S) H locs) (hl : lv_has ls 3 [(0, .ref (ad 499)), (1, .int a1), (2, .int a2)]) (hf : f_X4_tell n S a1 a2 = some r) : W p l e { frames := 0, cells := 0, slots := 0, locals := 0 } s m args below meth c H locs 0 0 Q (F0 m 0 ls []) := by
  obtain ⟨hx, hb, hml, hown, hts, hK, hN, hA⟩ := id hC
  unfold f_X4_tell at hf
  refine lv_iload_n hx hb dX4_tell_0 rfl (lv_at hl 2 rfl) ?_
  refine x_case hf (fun q10 hf => ?_) (fun q10 hf => ?_)
  · refine lv_tableIn (tgt := 36) hx hb dX4_tell_1 (by rw [q10]; decide) (by rw [q10]; decide) (by rw [q10]; rfl) (by decide) ?_
    refine lv_aload_n hx hb dX4_tell_36 rfl (lv_at hl 0 rfl) ?_
    refine gX4_0 hC hI lkf_X4_9 dX4_tell_37 ?_
    refine lv_iload_n hx hb dX4_tell_40 rfl (lv_at hl 1 rfl) ?_
    refine aX4_0 hC hI hf dX4_tell_41 (fun v1 hf => ?_)
    obtain rfl := Option.some.inj hf
    exact hR _ _ _ _ hI dX4_tell_42
  · refine x_case hf (fun q11 hf => ?_) (fun q11 hf => ?_)
    · refine lv_tableIn (tgt := 43) hx hb dX4_tell_1 (by rw [q11]; decide) (by rw [q11]; decide) (by rw [q11]; rfl) (by decide) ?_
      refine lv_aload_n hx hb dX4_tell_43 rfl (lv_at hl 0 rfl) ?_
      refine gX4_1 hC hI lkf_X4_15 dX4_tell_44 ?_
      refine lv_iload_n hx hb dX4_tell_47 rfl (lv_at hl 1 rfl) ?_
      refine aX4_1 hC hI hf dX4_tell_48 (fun v2 hf => ?_)
      obtain rfl := Option.some.inj hf
      exact hR _ _ _ _ hI dX4_tell_49
    · refine x_case hf (fun q12 hf => ?_) (fun q12 hf => ?_)
      · refine lv_tableIn (tgt := 50) hx hb dX4_tell_1 (by rw [q12]; decide) (by rw [q12]; decide) (by rw [q12]; rfl) (by decide) ?_
        refine lv_aload_n hx hb dX4_tell_50 rfl (lv_at hl 0 rfl) ?_
        refine gX4_2 hC hI lkf_X4_18 dX4_tell_51 ?_
        refine lv_iload_n hx hb dX4_tell_54 rfl (lv_at hl 1 rfl) ?_
        refine aX4_2 hC hI hf dX4_tell_55 (fun v3 hf => ?_)
        obtain rfl := Option.some.inj hf
        exact hR _ _ _ _ hI dX4_tell_56
      · refine x_case hf (fun q13 hf => ?_) (fun q13 hf => ?_)
        · refine lv_tableIn (tgt := 57) hx hb dX4_tell_1 (by rw [q13]; decide) (by rw [q13]; decide) (by rw [q13]; rfl) (by decide) ?_
          refine lv_aload_n hx hb dX4_tell_57 rfl (lv_at hl 0 rfl) ?_
          refine gX4_3 hC hI lkf_X4_21 dX4_tell_58 ?_
          refine lv_iload_n hx hb dX4_tell_61 rfl (lv_at hl 1 rfl) ?_
          refine aX4_3 hC hI hf dX4_tell_62 (fun v4 hf => ?_)
          obtain rfl := Option.some.inj hf
          exact hR _ _ _ _ hI dX4_tell_63
        · refine x_case hf (fun q14 hf => ?_) (fun q14 hf => ?_)
          · refine lv_tableIn (tgt := 64) hx hb dX4_tell_1 (by rw [q14]; decide) (by rw [q14]; decide) (by rw [q14]; rfl) (by decide) ?_
            refine lv_aload_n hx hb dX4_tell_64 rfl (lv_at hl 0 rfl) ?_
            refine gX4_4 hC hI lkf_X4_24 dX4_tell_65 ?_
            refine lv_iload_n hx hb dX4_tell_68 rfl (lv_at hl 1 rfl) ?_
            refine aX4_4 hC hI hf dX4_tell_69 (fun v5 hf => ?_)
            obtain rfl := Option.some.inj hf
            exact hR _ _ _ _ hI dX4_tell_70
          · refine lv_tableOut (tgt := 71) hx hb dX4_tell_1 (by have z10 := lv_neT (a := 0) q10 (by decide); have z11 := lv_neT (a := 1) q11 (by decide); have z12 := lv_neT (a := 2) q12 (by decide); have z13 := lv_neT (a := 3) q13 (by decide); have z14 := lv_neT (a := 4) q14 (by decide); omega) (by decide) ?_
            refine lv_aload_n hx hb dX4_tell_71 rfl (lv_at hl 0 rfl) ?_
            refine gX4_5 hC hI lkf_X4_27 dX4_tell_72 ?_
            refine lv_iload_n hx hb dX4_tell_75 rfl (lv_at hl 1 rfl) ?_
            refine aX4_5 hC hI hf dX4_tell_76 (fun v6 hf => ?_)
            obtain rfl := Option.some.inj hf
            exact hR _ _ _ _ hI dX4_tell_77
theorem c_X4_tell {a1 : Int32} {a2 : Int32} {v : Int32} {S1 : x_S} (hf : f_X4_tell n S a1 a2 = some (v, S1)) : x_M l yX4_tell cX4_tell 3 (some .int) 0 0 E [.ref (ad 499), .int a1, .int a2] (cw E ad ap S) (cw E ad ap S1) (some (.int v)) :=
  x_entI (by decide) (Nat.le_of_ble_eq_true rfl) (fun p e s m args below meth c A Q ls hC hI hR hl => w_X4_tell (r := (v, S1)) hC hR hI hl hf)
-- X6_statement
def f_X6_statement (n : Nat) (S : x_S) (a1 : Int32) (a2 : Int32) (a3 : Int32) : Option (Int32 × x_S) :=
x_b2 (f_X6_find n S a1) (fun o2 S => x_o o2 (
some ((-2 : Int32), S)) (fun i3 =>
if a3 < 0 then
some ((-2 : Int32), S)
else
if a3 ≤ (5 : Int32) then
x_g (i3 < g_np S) (x_let (g_ps S 5 i3) (fun v4 =>
if v4 = 0 then
some ((-3 : Int32), S)
else
x_b (f_X6_treeOf n S a1 i3) (fun S =>
x_b2 (f_X4_has n S a2) (fun v7 S =>
if v7 = 0 then
some ((-2 : Int32), S)
else
x_b2 (f_X4_tell n S a2 a3) (fun v9 S =>
some (v9, S))))))
else
some ((-2 : Int32), S)))
set_option maxHeartbeats 4000000 in
set_option maxRecDepth 100000 in
theorem w_X6_statement {r : Int32 × x_S} {a1 : Int32} {a2 : Int32} {a3 : Int32} (hC : x_C p s m args meth c cX6_statement 6 RX6 E A) (hR : x_Ri p l e { frames := 6, cells := 0, slots := 0, locals := 139 } s m args below meth c cX6_statement E A Q (cw E ad ap r.2) r.1) (hI : x_I E A s.heap (cw E ad ap S) H locs) (hl : lv_has ls 6 [(0, .ref (ad 699)), (1, .int a1), (2, .int a2), (3, .int a3)]) (hf : f_X6_statement n S a1 a2 a3 = some r) : W p l e { frames := 6, cells := 0, slots := 0, locals := 139 } s m args below meth c H locs 0 0 Q (F0 m 0 ls []) := by
  obtain ⟨hx, hb, hml, hown, hts, hK, hN, hA⟩ := id hC
  unfold f_X6_statement at hf
  refine lv_aload_n hx hb dX6_statement_0 rfl (lv_at hl 0 rfl) ?_
  refine lv_iload_n hx hb dX6_statement_1 rfl (lv_at hl 1 rfl) ?_
  obtain ⟨o2, S, hc1, hf⟩ := x_b2_eq hf
  refine x_callV hC hI (c_X6_find hc1) 0 6 rfl rfl kv_X6_68 rfl ⟨Nat.le_of_ble_eq_true rfl, Nat.le_of_ble_eq_true rfl⟩ ⟨Nat.le_refl _, Nat.le_refl _⟩ hl.1 rfl (Nat.le_of_ble_eq_true rfl) dX6_statement_2 (fun H locs hI => ?_)
  refine x_casesR hf (fun hf => ?_) (fun i3 hf => ?_)
  · refine lv_astoreN (lv' := [(4, .null), (0, .ref (ad 699)), (1, .int a1), (2, .int a2), (3, .int a3)]) hx hb dX6_statement_5 hl (by decide) rfl (fun ls hl => ?_)
    refine lv_aloadN hx hb dX6_statement_7 (lv_at hl 0 rfl) ?_
    refine lv_ifnullN (tgt := 21) hx hb dX6_statement_9 (by decide) ?_
    refine lv_bipush (v := (-2 : Int32)) hx hb dX6_statement_21 (by decide) ?_
    obtain rfl := Option.some.inj hf
    exact hR _ _ _ _ hI dX6_statement_23
  · refine lv_astore (lv' := [(4, .ref (ap i3 0)), (0, .ref (ad 699)), (1, .int a1), (2, .int a2), (3, .int a3)]) hx hb dX6_statement_5 hl (by decide) rfl (fun ls hl => ?_)
    refine lv_aload hx hb dX6_statement_7 (lv_at hl 0 rfl) ?_
    refine lv_ifnull hx hb dX6_statement_9 ?_
    refine lv_iload_n hx hb dX6_statement_12 rfl (lv_at hl 4 rfl) ?_
    refine x_lt0 hC 21 hf dX6_statement_13 (by decide) (fun hf => ?_) (fun hf => ?_)
    · refine lv_bipush (v := (-2 : Int32)) hx hb dX6_statement_21 (by decide) ?_
      obtain rfl := Option.some.inj hf
      exact hR _ _ _ _ hI dX6_statement_23
    · refine lv_iload_n hx hb dX6_statement_16 rfl (lv_at hl 4 rfl) ?_
      refine lv_iconst (v := (5 : Int32)) hx hb dX6_statement_17 (by decide) ?_
      refine x_ile hC 24 hf dX6_statement_18 (by decide) (fun hf => ?_) (fun hf => ?_)
      · refine lv_aload hx hb dX6_statement_24 (lv_at hl 0 rfl) ?_
        refine gX2_5 hC hI hf lkf_X6_99 dX6_statement_26 (fun v4 hf => ?_)
        refine x_ne0 hC 35 hf dX6_statement_29 (by decide) (fun hf => ?_) (fun hf => ?_)
        · refine lv_aload_n hx hb dX6_statement_35 rfl (lv_at hl 1 rfl) ?_
          refine lv_iload_n hx hb dX6_statement_36 rfl (lv_at hl 2 rfl) ?_
          refine lv_aload hx hb dX6_statement_37 (lv_at hl 0 rfl) ?_
          obtain ⟨S, hc5, hf⟩ := x_b_eq hf
          refine x_callV hC hI (c_X6_treeOf hc5) 0 6 rfl rfl kv_X6_103 rfl ⟨Nat.le_of_ble_eq_true rfl, Nat.le_of_ble_eq_true rfl⟩ ⟨Nat.le_refl _, Nat.le_refl _⟩ hl.1 rfl (Nat.le_of_ble_eq_true rfl) dX6_statement_39 (fun H locs hI => ?_)
          refine lv_astore (lv' := [(5, .ref (ad 499)), (4, .ref (ap i3 0)), (0, .ref (ad 699)), (1, .int a1), (2, .int a2), (3, .int a3)]) hx hb dX6_statement_42 hl (by decide) rfl (fun ls hl => ?_)
          refine lv_aload hx hb dX6_statement_44 (lv_at hl 0 rfl) ?_
          refine lv_iload_n hx hb dX6_statement_46 rfl (lv_at hl 4 rfl) ?_
          obtain ⟨v7, S, hc6, hf⟩ := x_b2_eq hf
          refine x_callV hC hI (c_X4_has hc6) 4 4 rfl rfl kv_X6_136 rfl ⟨Nat.le_of_ble_eq_true rfl, Nat.le_of_ble_eq_true rfl⟩ ⟨Nat.le_refl _, Nat.le_refl _⟩ hl.1 rfl (Nat.le_of_ble_eq_true rfl) dX6_statement_47 (fun H locs hI => ?_)
          refine x_eq0 hC 63 hf dX6_statement_50 (by decide) (fun hf => ?_) (fun hf => ?_)
          · refine lv_bipush (v := (-2 : Int32)) hx hb dX6_statement_63 (by decide) ?_
            obtain rfl := Option.some.inj hf
            exact hR _ _ _ _ hI dX6_statement_65
          · refine lv_aload hx hb dX6_statement_53 (lv_at hl 0 rfl) ?_
            refine lv_iload_n hx hb dX6_statement_55 rfl (lv_at hl 4 rfl) ?_
            refine lv_iload_n hx hb dX6_statement_56 rfl (lv_at hl 5 rfl) ?_
            obtain ⟨v9, S, hc8, hf⟩ := x_b2_eq hf
            refine x_callV hC hI (c_X4_tell hc8) 4 4 rfl rfl kv_X6_137 rfl ⟨Nat.le_of_ble_eq_true rfl, Nat.le_of_ble_eq_true rfl⟩ ⟨Nat.le_refl _, Nat.le_refl _⟩ hl.1 rfl (Nat.le_of_ble_eq_true rfl) dX6_statement_57 (fun H locs hI => ?_)
            refine lv_goto (tgt := 65) hx hb dX6_statement_60 (by decide) ?_
            obtain rfl := Option.some.inj hf
            exact hR _ _ _ _ hI dX6_statement_65
        · refine lv_bipush (v := (-3 : Int32)) hx hb dX6_statement_32 (by decide) ?_
          obtain rfl := Option.some.inj hf
          exact hR _ _ _ _ hI dX6_statement_34
      · refine lv_bipush (v := (-2 : Int32)) hx hb dX6_statement_21 (by decide) ?_
        obtain rfl := Option.some.inj hf
        exact hR _ _ _ _ hI dX6_statement_23
theorem c_X6_statement {a1 : Int32} {a2 : Int32} {a3 : Int32} {v : Int32} {S1 : x_S} (hf : f_X6_statement n S a1 a2 a3 = some (v, S1)) : x_M l yX6_statement cX6_statement 6 (some .int) 6 139 E [.ref (ad 699), .int a1, .int a2, .int a3] (cw E ad ap S) (cw E ad ap S1) (some (.int v)) :=
  x_entI (by decide) (Nat.le_of_ble_eq_true rfl) (fun p e s m args below meth c A Q ls hC hI hR hl => w_X6_statement (r := (v, S1)) hC hR hI hl hf)
-- X6_text
def f_X6_text (n : Nat) (S : x_S) (a1 : Int32) (a2 : Int32) : Option (Int32 × x_S) :=
x_b2 (f_X6_find n S a1) (fun o2 S => x_o o2 (
some ((-2 : Int32), S)) (fun i3 =>
if (-1 : Int32) ≤ a2 then
x_g (i3 < g_np S) (x_let (g_ps S 5 i3) (fun v4 =>
if v4 = 0 then
some ((-3 : Int32), S)
else
x_b (f_X6_treeOf n S a1 i3) (fun S =>
if a2 = (-1 : Int32) then
x_let (g_sc S 409) (fun v8 =>
some (v8, S))
else
x_let (g_sc S 409) (fun v6 =>
if v6 ≤ a2 then
some ((-2 : Int32), S)
else
x_g (¬ (a2 < 0 ∨ 241 ≤ (a2).toNatClampNeg)) (x_let (g_ar S 407 (a2).toNatClampNeg) (fun v7 =>
some (v7, S)))))))
else
some ((-2 : Int32), S)))
set_option maxHeartbeats 4000000 in
set_option maxRecDepth 100000 in
theorem w_X6_text {r : Int32 × x_S} {a1 : Int32} {a2 : Int32} (hC : x_C p s m args meth c cX6_text 5 RX6 E A) (hR : x_Ri p l e { frames := 6, cells := 0, slots := 0, locals := 139 } s m args below meth c cX6_text E A Q (cw E ad ap r.2) r.1) (hI : x_I E A s.heap (cw E ad ap S) H locs) (hl : lv_has ls 5 [(0, .ref (ad 699)), (1, .int a1), (2, .int a2)]) (hf : f_X6_text n S a1 a2 = some r) : W p l e { frames := 6, cells := 0, slots := 0, locals := 139 } s m args below meth c H locs 0 0 Q (F0 m 0 ls []) := by
  obtain ⟨hx, hb, hml, hown, hts, hK, hN, hA⟩ := id hC
  unfold f_X6_text at hf
  refine lv_aload_n hx hb dX6_text_0 rfl (lv_at hl 0 rfl) ?_
  refine lv_iload_n hx hb dX6_text_1 rfl (lv_at hl 1 rfl) ?_
  obtain ⟨o2, S, hc1, hf⟩ := x_b2_eq hf
  refine x_callV hC hI (c_X6_find hc1) 0 6 rfl rfl kv_X6_68 rfl ⟨Nat.le_of_ble_eq_true rfl, Nat.le_of_ble_eq_true rfl⟩ ⟨Nat.le_refl _, Nat.le_refl _⟩ hl.1 rfl (Nat.le_of_ble_eq_true rfl) dX6_text_2 (fun H locs hI => ?_)
  refine x_casesR hf (fun hf => ?_) (fun i3 hf => ?_)
  · refine lv_astore_nN (lv' := [(3, .null), (0, .ref (ad 699)), (1, .int a1), (2, .int a2)]) hx hb dX6_text_5 rfl hl (by decide) rfl (fun ls hl => ?_)
    refine lv_aload_nN hx hb dX6_text_6 rfl (lv_at hl 0 rfl) ?_
    refine lv_ifnullN (tgt := 15) hx hb dX6_text_7 (by decide) ?_
    refine lv_bipush (v := (-2 : Int32)) hx hb dX6_text_15 (by decide) ?_
    obtain rfl := Option.some.inj hf
    exact hR _ _ _ _ hI dX6_text_17
  · refine lv_astore_n (lv' := [(3, .ref (ap i3 0)), (0, .ref (ad 699)), (1, .int a1), (2, .int a2)]) hx hb dX6_text_5 rfl hl (by decide) rfl (fun ls hl => ?_)
    refine lv_aload_n hx hb dX6_text_6 rfl (lv_at hl 0 rfl) ?_
    refine lv_ifnull hx hb dX6_text_7 ?_
    refine lv_iload_n hx hb dX6_text_10 rfl (lv_at hl 3 rfl) ?_
    refine lv_iconst (v := (-1 : Int32)) hx hb dX6_text_11 (by decide) ?_
    refine x_ige hC 18 hf dX6_text_12 (by decide) (fun hf => ?_) (fun hf => ?_)
    · refine lv_aload_n hx hb dX6_text_18 rfl (lv_at hl 0 rfl) ?_
      refine gX2_5 hC hI hf lkf_X6_99 dX6_text_19 (fun v4 hf => ?_)
      refine x_ne0 hC 28 hf dX6_text_22 (by decide) (fun hf => ?_) (fun hf => ?_)
      · refine lv_aload_n hx hb dX6_text_28 rfl (lv_at hl 1 rfl) ?_
        refine lv_iload_n hx hb dX6_text_29 rfl (lv_at hl 2 rfl) ?_
        refine lv_aload_n hx hb dX6_text_30 rfl (lv_at hl 0 rfl) ?_
        obtain ⟨S, hc5, hf⟩ := x_b_eq hf
        refine x_callV hC hI (c_X6_treeOf hc5) 0 6 rfl rfl kv_X6_103 rfl ⟨Nat.le_of_ble_eq_true rfl, Nat.le_of_ble_eq_true rfl⟩ ⟨Nat.le_refl _, Nat.le_refl _⟩ hl.1 rfl (Nat.le_of_ble_eq_true rfl) dX6_text_31 (fun H locs hI => ?_)
        refine lv_astore (lv' := [(4, .ref (ad 499)), (3, .ref (ap i3 0)), (0, .ref (ad 699)), (1, .int a1), (2, .int a2)]) hx hb dX6_text_34 hl (by decide) rfl (fun ls hl => ?_)
        refine lv_iload_n hx hb dX6_text_36 rfl (lv_at hl 4 rfl) ?_
        refine lv_iconst (v := (-1 : Int32)) hx hb dX6_text_37 (by decide) ?_
        refine x_ine hC 47 hf dX6_text_38 (by decide) (fun hf => ?_) (fun hf => ?_)
        · refine lv_iload_n hx hb dX6_text_47 rfl (lv_at hl 4 rfl) ?_
          refine lv_aload hx hb dX6_text_48 (lv_at hl 0 rfl) ?_
          refine gX4_9 hC hI hf lkf_X6_141 dX6_text_50 (fun v6 hf => ?_)
          refine x_ige hC 66 hf dX6_text_53 (by decide) (fun hf => ?_) (fun hf => ?_)
          · refine lv_bipush (v := (-2 : Int32)) hx hb dX6_text_66 (by decide) ?_
            obtain rfl := Option.some.inj hf
            exact hR _ _ _ _ hI dX6_text_68
          · refine lv_aload hx hb dX6_text_56 (lv_at hl 0 rfl) ?_
            refine gX4_7 hC hI lkf_X6_144 dX6_text_58 ?_
            refine lv_iload_n hx hb dX6_text_61 rfl (lv_at hl 4 rfl) ?_
            refine aX4_7 hC hI hf dX6_text_62 (fun v7 hf => ?_)
            refine lv_goto (tgt := 68) hx hb dX6_text_63 (by decide) ?_
            obtain rfl := Option.some.inj hf
            exact hR _ _ _ _ hI dX6_text_68
        · refine lv_aload hx hb dX6_text_41 (lv_at hl 0 rfl) ?_
          refine gX4_9 hC hI hf lkf_X6_141 dX6_text_43 (fun v8 hf => ?_)
          obtain rfl := Option.some.inj hf
          exact hR _ _ _ _ hI dX6_text_46
      · refine lv_bipush (v := (-3 : Int32)) hx hb dX6_text_25 (by decide) ?_
        obtain rfl := Option.some.inj hf
        exact hR _ _ _ _ hI dX6_text_27
    · refine lv_bipush (v := (-2 : Int32)) hx hb dX6_text_15 (by decide) ?_
      obtain rfl := Option.some.inj hf
      exact hR _ _ _ _ hI dX6_text_17
theorem c_X6_text {a1 : Int32} {a2 : Int32} {v : Int32} {S1 : x_S} (hf : f_X6_text n S a1 a2 = some (v, S1)) : x_M l yX6_text cX6_text 5 (some .int) 6 139 E [.ref (ad 699), .int a1, .int a2] (cw E ad ap S) (cw E ad ap S1) (some (.int v)) :=
  x_entI (by decide) (Nat.le_of_ble_eq_true rfl) (fun p e s m args below meth c A Q ls hC hI hR hl => w_X6_text (r := (v, S1)) hC hR hI hl hf)
-- X6_feed
def f_X6_feed (n : Nat) (S : x_S) (a1 : Int32) : Option (Int32 × x_S) :=
x_let (g_sc S 606) (fun v1 =>
if v1 < (300 : Int32) then
x_let (g_sc S 606) (fun v2 =>
x_g (¬ (v2 < 0 ∨ 300 ≤ (v2).toNatClampNeg)) (x_let (s_ar S 605 (v2).toNatClampNeg a1) (fun S =>
x_let (g_sc S 606) (fun v3 =>
x_let (s_sc S 606 (v3 + (1 : Int32))) (fun S =>
x_let (g_sc S 606) (fun v4 =>
some (v4, S)))))))
else
some ((-4 : Int32), S))
set_option maxHeartbeats 4000000 in
set_option maxRecDepth 100000 in
theorem w_X6_feed {r : Int32 × x_S} {a1 : Int32} (hC : x_C p s m args meth c cX6_feed 2 RX6 E A) (hR : x_Ri p l e { frames := 0, cells := 0, slots := 0, locals := 0 } s m args below meth c cX6_feed E A Q (cw E ad ap r.2) r.1) (hI : x_I E A s.heap (cw E ad ap S) H locs) (hl : lv_has ls 2 [(0, .ref (ad 699)), (1, .int a1)]) (hf : f_X6_feed n S a1 = some r) : W p l e { frames := 0, cells := 0, slots := 0, locals := 0 } s m args below meth c H locs 0 0 Q (F0 m 0 ls []) := by
  obtain ⟨hx, hb, hml, hown, hts, hK, hN, hA⟩ := id hC
  unfold f_X6_feed at hf
  refine lv_aload_n hx hb dX6_feed_0 rfl (lv_at hl 0 rfl) ?_
  refine gX6_6 hC hI hf lkf_X6_40 dX6_feed_1 (fun v1 hf => ?_)
  refine lv_sipush (v := (300 : Int32)) hx hb dX6_feed_4 (by decide) ?_
  refine x_ilt hC 13 hf dX6_feed_7 (by decide) (fun hf => ?_) (fun hf => ?_)
  · refine lv_aload_n hx hb dX6_feed_13 rfl (lv_at hl 0 rfl) ?_
    refine gX6_5 hC hI lkf_X6_36 dX6_feed_14 ?_
    refine lv_aload_n hx hb dX6_feed_17 rfl (lv_at hl 0 rfl) ?_
    refine gX6_6 hC hI hf lkf_X6_40 dX6_feed_18 (fun v2 hf => ?_)
    refine lv_iload_n hx hb dX6_feed_21 rfl (lv_at hl 1 rfl) ?_
    refine tX6_5 hC hI hf dX6_feed_22 (fun S H locs hI hf => ?_)
    refine lv_aload_n hx hb dX6_feed_23 rfl (lv_at hl 0 rfl) ?_
    refine lv_dup hx hb dX6_feed_24 rfl ?_
    refine gX6_6 hC hI hf lkf_X6_40 dX6_feed_25 (fun v3 hf => ?_)
    refine lv_iconst (v := (1 : Int32)) hx hb dX6_feed_28 (by decide) ?_
    refine lv_iadd hx hb dX6_feed_29 ?_
    refine pX6_6 hC hI hf lkf_X6_40 dX6_feed_30 (fun S H locs hI hf => ?_)
    refine lv_aload_n hx hb dX6_feed_33 rfl (lv_at hl 0 rfl) ?_
    refine gX6_6 hC hI hf lkf_X6_40 dX6_feed_34 (fun v4 hf => ?_)
    obtain rfl := Option.some.inj hf
    exact hR _ _ _ _ hI dX6_feed_37
  · refine lv_bipush (v := (-4 : Int32)) hx hb dX6_feed_10 (by decide) ?_
    obtain rfl := Option.some.inj hf
    exact hR _ _ _ _ hI dX6_feed_12
theorem c_X6_feed {a1 : Int32} {v : Int32} {S1 : x_S} (hf : f_X6_feed n S a1 = some (v, S1)) : x_M l yX6_feed cX6_feed 2 (some .int) 0 0 E [.ref (ad 699), .int a1] (cw E ad ap S) (cw E ad ap S1) (some (.int v)) :=
  x_entI (by decide) (Nat.le_of_ble_eq_true rfl) (fun p e s m args below meth c A Q ls hC hI hR hl => w_X6_feed (r := (v, S1)) hC hR hI hl hf)
-- X6_copy
def f_X6_copy (n : Nat) (S : x_S) (a1 : Int32) : Option (Int32 × x_S) :=
x_b2 (f_X6_find n S a1) (fun o2 S => x_o o2 (
some ((-2 : Int32), S)) (fun i3 =>
x_g (i3 < g_np S) (x_let (g_ps S 5 i3) (fun v4 =>
if v4 = 0 then
some ((-3 : Int32), S)
else
x_b (f_X6_treeOf n S a1 i3) (fun S =>
x_let (g_sc S 409) (fun v6 =>
x_let (g_sc S 606) (fun v7 =>
if v6 ≤ ((300 : Int32) - v7) then
x_let (g_sc S 606) (fun v8 =>
x_let (g_sc S 409) (fun v9 =>
x_g (¬ (0 : Int32) < 0 ∧ ¬ v8 < 0 ∧ ¬ v9 < 0 ∧ ((0 : Int32)).toNatClampNeg + (v9).toNatClampNeg ≤ 241 ∧ (v8).toNatClampNeg + (v9).toNatClampNeg ≤ 300) (x_let (s_cp S 407 605 (0 : Int32) v8 v9) (fun S =>
x_let (g_sc S 606) (fun v10 =>
x_let (g_sc S 409) (fun v11 =>
x_let (s_sc S 606 (v10 + v11)) (fun S =>
x_let (g_sc S 606) (fun v12 =>
some (v12, S)))))))))
else
some ((-4 : Int32), S))))))))
set_option maxHeartbeats 4000000 in
set_option maxRecDepth 100000 in
theorem w_X6_copy {r : Int32 × x_S} {a1 : Int32} (hC : x_C p s m args meth c cX6_copy 4 RX6 E A) (hR : x_Ri p l e { frames := 6, cells := 0, slots := 0, locals := 139 } s m args below meth c cX6_copy E A Q (cw E ad ap r.2) r.1) (hI : x_I E A s.heap (cw E ad ap S) H locs) (hl : lv_has ls 4 [(0, .ref (ad 699)), (1, .int a1)]) (hf : f_X6_copy n S a1 = some r) : W p l e { frames := 6, cells := 0, slots := 0, locals := 139 } s m args below meth c H locs 0 0 Q (F0 m 0 ls []) := by
  obtain ⟨hx, hb, hml, hown, hts, hK, hN, hA⟩ := id hC
  unfold f_X6_copy at hf
  refine lv_aload_n hx hb dX6_copy_0 rfl (lv_at hl 0 rfl) ?_
  refine lv_iload_n hx hb dX6_copy_1 rfl (lv_at hl 1 rfl) ?_
  obtain ⟨o2, S, hc1, hf⟩ := x_b2_eq hf
  refine x_callV hC hI (c_X6_find hc1) 0 6 rfl rfl kv_X6_68 rfl ⟨Nat.le_of_ble_eq_true rfl, Nat.le_of_ble_eq_true rfl⟩ ⟨Nat.le_refl _, Nat.le_refl _⟩ hl.1 rfl (Nat.le_of_ble_eq_true rfl) dX6_copy_2 (fun H locs hI => ?_)
  refine x_casesR hf (fun hf => ?_) (fun i3 hf => ?_)
  · refine lv_astore_nN (lv' := [(2, .null), (0, .ref (ad 699)), (1, .int a1)]) hx hb dX6_copy_5 rfl hl (by decide) rfl (fun ls hl => ?_)
    refine lv_aload_nN hx hb dX6_copy_6 rfl (lv_at hl 0 rfl) ?_
    refine lv_ifnonnullN hx hb dX6_copy_7 ?_
    refine lv_bipush (v := (-2 : Int32)) hx hb dX6_copy_10 (by decide) ?_
    obtain rfl := Option.some.inj hf
    exact hR _ _ _ _ hI dX6_copy_12
  · refine lv_astore_n (lv' := [(2, .ref (ap i3 0)), (0, .ref (ad 699)), (1, .int a1)]) hx hb dX6_copy_5 rfl hl (by decide) rfl (fun ls hl => ?_)
    refine lv_aload_n hx hb dX6_copy_6 rfl (lv_at hl 0 rfl) ?_
    refine lv_ifnonnull (tgt := 13) hx hb dX6_copy_7 (by decide) ?_
    refine lv_aload_n hx hb dX6_copy_13 rfl (lv_at hl 0 rfl) ?_
    refine gX2_5 hC hI hf lkf_X6_99 dX6_copy_14 (fun v4 hf => ?_)
    refine x_ne0 hC 23 hf dX6_copy_17 (by decide) (fun hf => ?_) (fun hf => ?_)
    · refine lv_aload_n hx hb dX6_copy_23 rfl (lv_at hl 1 rfl) ?_
      refine lv_iload_n hx hb dX6_copy_24 rfl (lv_at hl 2 rfl) ?_
      refine lv_aload_n hx hb dX6_copy_25 rfl (lv_at hl 0 rfl) ?_
      obtain ⟨S, hc5, hf⟩ := x_b_eq hf
      refine x_callV hC hI (c_X6_treeOf hc5) 0 6 rfl rfl kv_X6_103 rfl ⟨Nat.le_of_ble_eq_true rfl, Nat.le_of_ble_eq_true rfl⟩ ⟨Nat.le_refl _, Nat.le_refl _⟩ hl.1 rfl (Nat.le_of_ble_eq_true rfl) dX6_copy_26 (fun H locs hI => ?_)
      refine lv_astore_n (lv' := [(3, .ref (ad 499)), (2, .ref (ap i3 0)), (0, .ref (ad 699)), (1, .int a1)]) hx hb dX6_copy_29 rfl hl (by decide) rfl (fun ls hl => ?_)
      refine lv_aload_n hx hb dX6_copy_30 rfl (lv_at hl 0 rfl) ?_
      refine gX4_9 hC hI hf lkf_X6_141 dX6_copy_31 (fun v6 hf => ?_)
      refine lv_sipush (v := (300 : Int32)) hx hb dX6_copy_34 (by decide) ?_
      refine lv_aload_n hx hb dX6_copy_37 rfl (lv_at hl 2 rfl) ?_
      refine gX6_6 hC hI hf lkf_X6_40 dX6_copy_38 (fun v7 hf => ?_)
      refine lv_isub hx hb dX6_copy_41 ?_
      refine x_ile hC 48 hf dX6_copy_42 (by decide) (fun hf => ?_) (fun hf => ?_)
      · refine lv_aload_n hx hb dX6_copy_48 rfl (lv_at hl 0 rfl) ?_
        refine gX4_7 hC hI lkf_X6_144 dX6_copy_49 ?_
        refine lv_iconst (v := (0 : Int32)) hx hb dX6_copy_52 (by decide) ?_
        refine lv_aload_n hx hb dX6_copy_53 rfl (lv_at hl 2 rfl) ?_
        refine gX6_5 hC hI lkf_X6_36 dX6_copy_54 ?_
        refine lv_aload_n hx hb dX6_copy_57 rfl (lv_at hl 2 rfl) ?_
        refine gX6_6 hC hI hf lkf_X6_40 dX6_copy_58 (fun v8 hf => ?_)
        refine lv_aload_n hx hb dX6_copy_61 rfl (lv_at hl 0 rfl) ?_
        refine gX4_9 hC hI hf lkf_X6_141 dX6_copy_62 (fun v9 hf => ?_)
        refine x_cp_407_605 hC hl.1 hI hf lkj_X6_147 lkj_cp_na lkj_cp_st lkj_cp_in ⟨Nat.le_of_ble_eq_true rfl, Nat.le_of_ble_eq_true rfl⟩ dX6_copy_65 (fun S H locs hI hf => ?_)
        refine lv_aload_n hx hb dX6_copy_68 rfl (lv_at hl 2 rfl) ?_
        refine lv_dup hx hb dX6_copy_69 rfl ?_
        refine gX6_6 hC hI hf lkf_X6_40 dX6_copy_70 (fun v10 hf => ?_)
        refine lv_aload_n hx hb dX6_copy_73 rfl (lv_at hl 0 rfl) ?_
        refine gX4_9 hC hI hf lkf_X6_141 dX6_copy_74 (fun v11 hf => ?_)
        refine lv_iadd hx hb dX6_copy_77 ?_
        refine pX6_6 hC hI hf lkf_X6_40 dX6_copy_78 (fun S H locs hI hf => ?_)
        refine lv_aload_n hx hb dX6_copy_81 rfl (lv_at hl 2 rfl) ?_
        refine gX6_6 hC hI hf lkf_X6_40 dX6_copy_82 (fun v12 hf => ?_)
        obtain rfl := Option.some.inj hf
        exact hR _ _ _ _ hI dX6_copy_85
      · refine lv_bipush (v := (-4 : Int32)) hx hb dX6_copy_45 (by decide) ?_
        obtain rfl := Option.some.inj hf
        exact hR _ _ _ _ hI dX6_copy_47
    · refine lv_bipush (v := (-3 : Int32)) hx hb dX6_copy_20 (by decide) ?_
      obtain rfl := Option.some.inj hf
      exact hR _ _ _ _ hI dX6_copy_22
theorem c_X6_copy {a1 : Int32} {v : Int32} {S1 : x_S} (hf : f_X6_copy n S a1 = some (v, S1)) : x_M l yX6_copy cX6_copy 4 (some .int) 6 139 E [.ref (ad 699), .int a1] (cw E ad ap S) (cw E ad ap S1) (some (.int v)) :=
  x_entI (by decide) (Nat.le_of_ble_eq_true rfl) (fun p e s m args below meth c A Q ls hC hI hR hl => w_X6_copy (r := (v, S1)) hC hR hI hl hf)
-- X6_fault
def f_X6_fault (n : Nat) (S : x_S) : Option (Int32 × x_S) :=
x_let (g_sc S 608) (fun v1 =>
some (v1, S))
set_option maxHeartbeats 4000000 in
set_option maxRecDepth 100000 in
theorem w_X6_fault {r : Int32 × x_S} (hC : x_C p s m args meth c cX6_fault 1 RX6 E A) (hR : x_Ri p l e { frames := 0, cells := 0, slots := 0, locals := 0 } s m args below meth c cX6_fault E A Q (cw E ad ap r.2) r.1) (hI : x_I E A s.heap (cw E ad ap S) H locs) (hl : lv_has ls 1 [(0, .ref (ad 699))]) (hf : f_X6_fault n S = some r) : W p l e { frames := 0, cells := 0, slots := 0, locals := 0 } s m args below meth c H locs 0 0 Q (F0 m 0 ls []) := by
  obtain ⟨hx, hb, hml, hown, hts, hK, hN, hA⟩ := id hC
  unfold f_X6_fault at hf
  refine lv_aload_n hx hb dX6_fault_0 rfl (lv_at hl 0 rfl) ?_
  refine gX6_8 hC hI hf lkf_X6_50 dX6_fault_1 (fun v1 hf => ?_)
  obtain rfl := Option.some.inj hf
  exact hR _ _ _ _ hI dX6_fault_4
theorem c_X6_fault {v : Int32} {S1 : x_S} (hf : f_X6_fault n S = some (v, S1)) : x_M l yX6_fault cX6_fault 1 (some .int) 0 0 E [.ref (ad 699)] (cw E ad ap S) (cw E ad ap S1) (some (.int v)) :=
  x_entI (by decide) (Nat.le_of_ble_eq_true rfl) (fun p e s m args below meth c A Q ls hC hI hR hl => w_X6_fault (r := (v, S1)) hC hR hI hl hf)
-- X6_clear
def f_X6_clear (n : Nat) (S : x_S) : Option (Int32 × x_S) :=
x_let (g_sc S 606) (fun v1 =>
x_let (s_sc S 606 (0 : Int32)) (fun S =>
some (v1, S)))
set_option maxHeartbeats 4000000 in
set_option maxRecDepth 100000 in
theorem w_X6_clear {r : Int32 × x_S} (hC : x_C p s m args meth c cX6_clear 2 RX6 E A) (hR : x_Ri p l e { frames := 0, cells := 0, slots := 0, locals := 0 } s m args below meth c cX6_clear E A Q (cw E ad ap r.2) r.1) (hI : x_I E A s.heap (cw E ad ap S) H locs) (hl : lv_has ls 2 [(0, .ref (ad 699))]) (hf : f_X6_clear n S = some r) : W p l e { frames := 0, cells := 0, slots := 0, locals := 0 } s m args below meth c H locs 0 0 Q (F0 m 0 ls []) := by
  obtain ⟨hx, hb, hml, hown, hts, hK, hN, hA⟩ := id hC
  unfold f_X6_clear at hf
  refine lv_aload_n hx hb dX6_clear_0 rfl (lv_at hl 0 rfl) ?_
  refine gX6_6 hC hI hf lkf_X6_40 dX6_clear_1 (fun v1 hf => ?_)
  refine lv_istore_n (lv' := [(1, .int v1), (0, .ref (ad 699))]) hx hb dX6_clear_4 rfl hl (by decide) rfl (fun ls hl => ?_)
  refine lv_aload_n hx hb dX6_clear_5 rfl (lv_at hl 1 rfl) ?_
  refine lv_iconst (v := (0 : Int32)) hx hb dX6_clear_6 (by decide) ?_
  refine pX6_6 hC hI hf lkf_X6_40 dX6_clear_7 (fun S H locs hI hf => ?_)
  refine lv_iload_n hx hb dX6_clear_10 rfl (lv_at hl 0 rfl) ?_
  obtain rfl := Option.some.inj hf
  exact hR _ _ _ _ hI dX6_clear_11
theorem c_X6_clear {v : Int32} {S1 : x_S} (hf : f_X6_clear n S = some (v, S1)) : x_M l yX6_clear cX6_clear 2 (some .int) 0 0 E [.ref (ad 699)] (cw E ad ap S) (cw E ad ap S1) (some (.int v)) :=
  x_entI (by decide) (Nat.le_of_ble_eq_true rfl) (fun p e s m args below meth c A Q ls hC hI hR hl => w_X6_clear (r := (v, S1)) hC hR hI hl hf)
-- X6_like
def f_X6_like (n : Nat) (S : x_S) (a1 : Int32) (a2 : Int32) : Option (Int32 × x_S) :=
x_b2 (f_X6_find n S a1) (fun o2 S => x_o o2 (
x_b2 (f_X6_find n S a2) (fun o5 S => x_o o5 (
some ((-2 : Int32), S)) (fun i6 =>
some ((-2 : Int32), S)))) (fun i3 =>
x_b2 (f_X6_find n S a2) (fun o8 S => x_o o8 (
some ((-2 : Int32), S)) (fun i9 =>
x_g (i3 < g_np S) (x_b2 (f_X2_isAlike n S i3 i9) (fun v11 S =>
if v11 = 0 then
some ((0 : Int32), S)
else
some ((1 : Int32), S)))))))
set_option maxHeartbeats 4000000 in
set_option maxRecDepth 100000 in
theorem w_X6_like {r : Int32 × x_S} {a1 : Int32} {a2 : Int32} (hC : x_C p s m args meth c cX6_like 5 RX6 E A) (hR : x_Ri p l e { frames := 1, cells := 0, slots := 0, locals := 22 } s m args below meth c cX6_like E A Q (cw E ad ap r.2) r.1) (hI : x_I E A s.heap (cw E ad ap S) H locs) (hl : lv_has ls 5 [(0, .ref (ad 699)), (1, .int a1), (2, .int a2)]) (hf : f_X6_like n S a1 a2 = some r) : W p l e { frames := 1, cells := 0, slots := 0, locals := 22 } s m args below meth c H locs 0 0 Q (F0 m 0 ls []) := by
  obtain ⟨hx, hb, hml, hown, hts, hK, hN, hA⟩ := id hC
  unfold f_X6_like at hf
  refine lv_aload_n hx hb dX6_like_0 rfl (lv_at hl 0 rfl) ?_
  refine lv_iload_n hx hb dX6_like_1 rfl (lv_at hl 1 rfl) ?_
  obtain ⟨o2, S, hc1, hf⟩ := x_b2_eq hf
  refine x_callV hC hI (c_X6_find hc1) 0 6 rfl rfl kv_X6_68 rfl ⟨Nat.le_of_ble_eq_true rfl, Nat.le_of_ble_eq_true rfl⟩ ⟨Nat.le_refl _, Nat.le_refl _⟩ hl.1 rfl (Nat.le_of_ble_eq_true rfl) dX6_like_2 (fun H locs hI => ?_)
  refine x_casesR hf (fun hf => ?_) (fun i3 hf => ?_)
  · refine lv_astore_nN (lv' := [(3, .null), (0, .ref (ad 699)), (1, .int a1), (2, .int a2)]) hx hb dX6_like_5 rfl hl (by decide) rfl (fun ls hl => ?_)
    refine lv_aload_n hx hb dX6_like_6 rfl (lv_at hl 1 rfl) ?_
    refine lv_iload_n hx hb dX6_like_7 rfl (lv_at hl 3 rfl) ?_
    obtain ⟨o5, S, hc4, hf⟩ := x_b2_eq hf
    refine x_callV hC hI (c_X6_find hc4) 0 6 rfl rfl kv_X6_68 rfl ⟨Nat.le_of_ble_eq_true rfl, Nat.le_of_ble_eq_true rfl⟩ ⟨Nat.le_refl _, Nat.le_refl _⟩ hl.1 rfl (Nat.le_of_ble_eq_true rfl) dX6_like_8 (fun H locs hI => ?_)
    refine x_casesR hf (fun hf => ?_) (fun i6 hf => ?_)
    · refine lv_astoreN (lv' := [(4, .null), (3, .null), (0, .ref (ad 699)), (1, .int a1), (2, .int a2)]) hx hb dX6_like_11 hl (by decide) rfl (fun ls hl => ?_)
      refine lv_aload_nN hx hb dX6_like_13 rfl (lv_at hl 1 rfl) ?_
      refine lv_ifnullN (tgt := 22) hx hb dX6_like_14 (by decide) ?_
      refine lv_bipush (v := (-2 : Int32)) hx hb dX6_like_22 (by decide) ?_
      obtain rfl := Option.some.inj hf
      exact hR _ _ _ _ hI dX6_like_24
    · refine lv_astore (lv' := [(4, .ref (ap i6 0)), (3, .null), (0, .ref (ad 699)), (1, .int a1), (2, .int a2)]) hx hb dX6_like_11 hl (by decide) rfl (fun ls hl => ?_)
      refine lv_aload_nN hx hb dX6_like_13 rfl (lv_at hl 1 rfl) ?_
      refine lv_ifnullN (tgt := 22) hx hb dX6_like_14 (by decide) ?_
      refine lv_bipush (v := (-2 : Int32)) hx hb dX6_like_22 (by decide) ?_
      obtain rfl := Option.some.inj hf
      exact hR _ _ _ _ hI dX6_like_24
  · refine lv_astore_n (lv' := [(3, .ref (ap i3 0)), (0, .ref (ad 699)), (1, .int a1), (2, .int a2)]) hx hb dX6_like_5 rfl hl (by decide) rfl (fun ls hl => ?_)
    refine lv_aload_n hx hb dX6_like_6 rfl (lv_at hl 1 rfl) ?_
    refine lv_iload_n hx hb dX6_like_7 rfl (lv_at hl 3 rfl) ?_
    obtain ⟨o8, S, hc7, hf⟩ := x_b2_eq hf
    refine x_callV hC hI (c_X6_find hc7) 0 6 rfl rfl kv_X6_68 rfl ⟨Nat.le_of_ble_eq_true rfl, Nat.le_of_ble_eq_true rfl⟩ ⟨Nat.le_refl _, Nat.le_refl _⟩ hl.1 rfl (Nat.le_of_ble_eq_true rfl) dX6_like_8 (fun H locs hI => ?_)
    refine x_casesR hf (fun hf => ?_) (fun i9 hf => ?_)
    · refine lv_astoreN (lv' := [(4, .null), (3, .ref (ap i3 0)), (0, .ref (ad 699)), (1, .int a1), (2, .int a2)]) hx hb dX6_like_11 hl (by decide) rfl (fun ls hl => ?_)
      refine lv_aload_n hx hb dX6_like_13 rfl (lv_at hl 1 rfl) ?_
      refine lv_ifnull hx hb dX6_like_14 ?_
      refine lv_aloadN hx hb dX6_like_17 (lv_at hl 0 rfl) ?_
      refine lv_ifnonnullN hx hb dX6_like_19 ?_
      refine lv_bipush (v := (-2 : Int32)) hx hb dX6_like_22 (by decide) ?_
      obtain rfl := Option.some.inj hf
      exact hR _ _ _ _ hI dX6_like_24
    · refine lv_astore (lv' := [(4, .ref (ap i9 0)), (3, .ref (ap i3 0)), (0, .ref (ad 699)), (1, .int a1), (2, .int a2)]) hx hb dX6_like_11 hl (by decide) rfl (fun ls hl => ?_)
      refine lv_aload_n hx hb dX6_like_13 rfl (lv_at hl 1 rfl) ?_
      refine lv_ifnull hx hb dX6_like_14 ?_
      refine lv_aload hx hb dX6_like_17 (lv_at hl 0 rfl) ?_
      refine lv_ifnonnull (tgt := 25) hx hb dX6_like_19 (by decide) ?_
      refine lv_aload_n hx hb dX6_like_25 rfl (lv_at hl 1 rfl) ?_
      refine lv_aload hx hb dX6_like_26 (lv_at hl 0 rfl) ?_
      obtain ⟨h9, hf⟩ := x_g_eq hf
      obtain ⟨v11, S, hc10, hf⟩ := x_b2_eq hf
      refine x_callV hC hI (c_X2_isAlike hc10) (36 + (5 * i3 + 0)) 2 (x_cw_get E ad ap _ i3 0 (by decide) h9) rfl kv_X6_168 rfl ⟨Nat.le_of_ble_eq_true rfl, Nat.le_of_ble_eq_true rfl⟩ ⟨Nat.le_refl _, Nat.le_refl _⟩ hl.1 rfl (Nat.le_of_ble_eq_true rfl) dX6_like_28 (fun H locs hI => ?_)
      refine x_eq0 hC 38 hf dX6_like_31 (by decide) (fun hf => ?_) (fun hf => ?_)
      · refine lv_iconst (v := (0 : Int32)) hx hb dX6_like_38 (by decide) ?_
        obtain rfl := Option.some.inj hf
        exact hR _ _ _ _ hI dX6_like_39
      · refine lv_iconst (v := (1 : Int32)) hx hb dX6_like_34 (by decide) ?_
        refine lv_goto (tgt := 39) hx hb dX6_like_35 (by decide) ?_
        obtain rfl := Option.some.inj hf
        exact hR _ _ _ _ hI dX6_like_39
theorem c_X6_like {a1 : Int32} {a2 : Int32} {v : Int32} {S1 : x_S} (hf : f_X6_like n S a1 a2 = some (v, S1)) : x_M l yX6_like cX6_like 5 (some .int) 1 22 E [.ref (ad 699), .int a1, .int a2] (cw E ad ap S) (cw E ad ap S1) (some (.int v)) :=
  x_entI (by decide) (Nat.le_of_ble_eq_true rfl) (fun p e s m args below meth c A Q ls hC hI hR hl => w_X6_like (r := (v, S1)) hC hR hI hl hf)
-- X6_set
def f_X6_set (n : Nat) (S : x_S) (a1 : Int32) (a2 : Int32) : Option (Int32 × x_S) :=
if a1 < 0 then
some ((-2 : Int32), S)
else
if a1 < (4 : Int32) then
x_g (¬ (a1 < 0 ∨ 4 ≤ (a1).toNatClampNeg)) (x_let (g_ar S 609 (a1).toNatClampNeg) (fun v1 =>
x_g (¬ (a1 < 0 ∨ 4 ≤ (a1).toNatClampNeg)) (x_let (s_ar S 609 (a1).toNatClampNeg a2) (fun S =>
some (v1, S)))))
else
some ((-2 : Int32), S)
set_option maxHeartbeats 4000000 in
set_option maxRecDepth 100000 in
theorem w_X6_set {r : Int32 × x_S} {a1 : Int32} {a2 : Int32} (hC : x_C p s m args meth c cX6_set 4 RX6 E A) (hR : x_Ri p l e { frames := 0, cells := 0, slots := 0, locals := 0 } s m args below meth c cX6_set E A Q (cw E ad ap r.2) r.1) (hI : x_I E A s.heap (cw E ad ap S) H locs) (hl : lv_has ls 4 [(0, .ref (ad 699)), (1, .int a1), (2, .int a2)]) (hf : f_X6_set n S a1 a2 = some r) : W p l e { frames := 0, cells := 0, slots := 0, locals := 0 } s m args below meth c H locs 0 0 Q (F0 m 0 ls []) := by
  obtain ⟨hx, hb, hml, hown, hts, hK, hN, hA⟩ := id hC
  unfold f_X6_set at hf
  refine lv_iload_n hx hb dX6_set_0 rfl (lv_at hl 1 rfl) ?_
  refine x_lt0 hC 9 hf dX6_set_1 (by decide) (fun hf => ?_) (fun hf => ?_)
  · refine lv_bipush (v := (-2 : Int32)) hx hb dX6_set_9 (by decide) ?_
    obtain rfl := Option.some.inj hf
    exact hR _ _ _ _ hI dX6_set_11
  · refine lv_iload_n hx hb dX6_set_4 rfl (lv_at hl 1 rfl) ?_
    refine lv_iconst (v := (4 : Int32)) hx hb dX6_set_5 (by decide) ?_
    refine x_ilt hC 12 hf dX6_set_6 (by decide) (fun hf => ?_) (fun hf => ?_)
    · refine lv_aload_n hx hb dX6_set_12 rfl (lv_at hl 0 rfl) ?_
      refine gX6_9 hC hI lkf_X6_53 dX6_set_13 ?_
      refine lv_iload_n hx hb dX6_set_16 rfl (lv_at hl 1 rfl) ?_
      refine aX6_9 hC hI hf dX6_set_17 (fun v1 hf => ?_)
      refine lv_istore_n (lv' := [(3, .int v1), (0, .ref (ad 699)), (1, .int a1), (2, .int a2)]) hx hb dX6_set_18 rfl hl (by decide) rfl (fun ls hl => ?_)
      refine lv_aload_n hx hb dX6_set_19 rfl (lv_at hl 1 rfl) ?_
      refine gX6_9 hC hI lkf_X6_53 dX6_set_20 ?_
      refine lv_iload_n hx hb dX6_set_23 rfl (lv_at hl 2 rfl) ?_
      refine lv_iload_n hx hb dX6_set_24 rfl (lv_at hl 3 rfl) ?_
      refine tX6_9 hC hI hf dX6_set_25 (fun S H locs hI hf => ?_)
      refine lv_iload_n hx hb dX6_set_26 rfl (lv_at hl 0 rfl) ?_
      obtain rfl := Option.some.inj hf
      exact hR _ _ _ _ hI dX6_set_27
    · refine lv_bipush (v := (-2 : Int32)) hx hb dX6_set_9 (by decide) ?_
      obtain rfl := Option.some.inj hf
      exact hR _ _ _ _ hI dX6_set_11
theorem c_X6_set {a1 : Int32} {a2 : Int32} {v : Int32} {S1 : x_S} (hf : f_X6_set n S a1 a2 = some (v, S1)) : x_M l yX6_set cX6_set 4 (some .int) 0 0 E [.ref (ad 699), .int a1, .int a2] (cw E ad ap S) (cw E ad ap S1) (some (.int v)) :=
  x_entI (by decide) (Nat.le_of_ble_eq_true rfl) (fun p e s m args below meth c A Q ls hC hI hR hl => w_X6_set (r := (v, S1)) hC hR hI hl hf)
-- X3_enter
def f_X3_enter (n : Nat) (S : x_S) (a1 : Nat) : Option (x_S) :=
x_let (g_sc S 305) (fun v1 =>
x_g (a1 < g_np S) (x_g (¬ (v1 < 0 ∨ 8 ≤ (v1).toNatClampNeg)) (x_let (s_ra S 306 (v1).toNatClampNeg (some a1)) (fun S =>
x_let (g_sc S 305) (fun v2 =>
x_g (¬ (v2 < 0 ∨ 8 ≤ (v2).toNatClampNeg)) (x_let (s_ar S 307 (v2).toNatClampNeg (0 : Int32)) (fun S =>
x_let (g_sc S 305) (fun v3 =>
x_let (s_sc S 305 (v3 + (1 : Int32))) (fun S =>
x_let (g_sc S 301) (fun v4 =>
x_let (s_sc S 301 (v4 + (1 : Int32))) (fun S =>
some S)))))))))))
set_option maxHeartbeats 4000000 in
set_option maxRecDepth 100000 in
theorem w_X3_enter {r : x_S} {a1 : Nat} (hC : x_C p s m args meth c cX3_enter 2 RX3 E A) (hR : x_Rv p l e { frames := 0, cells := 0, slots := 0, locals := 0 } s m args below meth c cX3_enter E A Q (cw E ad ap r)) (hI : x_I E A s.heap (cw E ad ap S) H locs) (hl : lv_has ls 2 [(0, .ref (ad 399)), (1, .ref (ap a1 0))]) (hf : f_X3_enter n S a1 = some r) : W p l e { frames := 0, cells := 0, slots := 0, locals := 0 } s m args below meth c H locs 0 0 Q (F0 m 0 ls []) := by
  obtain ⟨hx, hb, hml, hown, hts, hK, hN, hA⟩ := id hC
  unfold f_X3_enter at hf
  refine lv_aload_n hx hb dX3_enter_0 rfl (lv_at hl 0 rfl) ?_
  refine gX3_6 hC hI lkf_X3_33 dX3_enter_1 ?_
  refine lv_aload_n hx hb dX3_enter_4 rfl (lv_at hl 0 rfl) ?_
  refine gX3_5 hC hI hf lkf_X3_28 dX3_enter_5 (fun v1 hf => ?_)
  refine lv_aload_n hx hb dX3_enter_8 rfl (lv_at hl 1 rfl) ?_
  refine tX3_6 hC hI hf dX3_enter_9 (fun S H locs hI hf => ?_)
  refine lv_aload_n hx hb dX3_enter_10 rfl (lv_at hl 0 rfl) ?_
  refine gX3_7 hC hI lkf_X3_37 dX3_enter_11 ?_
  refine lv_aload_n hx hb dX3_enter_14 rfl (lv_at hl 0 rfl) ?_
  refine gX3_5 hC hI hf lkf_X3_28 dX3_enter_15 (fun v2 hf => ?_)
  refine lv_iconst (v := (0 : Int32)) hx hb dX3_enter_18 (by decide) ?_
  refine tX3_7 hC hI hf dX3_enter_19 (fun S H locs hI hf => ?_)
  refine lv_aload_n hx hb dX3_enter_20 rfl (lv_at hl 0 rfl) ?_
  refine lv_dup hx hb dX3_enter_21 rfl ?_
  refine gX3_5 hC hI hf lkf_X3_28 dX3_enter_22 (fun v3 hf => ?_)
  refine lv_iconst (v := (1 : Int32)) hx hb dX3_enter_25 (by decide) ?_
  refine lv_iadd hx hb dX3_enter_26 ?_
  refine pX3_5 hC hI hf lkf_X3_28 dX3_enter_27 (fun S H locs hI hf => ?_)
  refine lv_aload_n hx hb dX3_enter_30 rfl (lv_at hl 0 rfl) ?_
  refine lv_dup hx hb dX3_enter_31 rfl ?_
  refine gX3_1 hC hI hf lkf_X3_15 dX3_enter_32 (fun v4 hf => ?_)
  refine lv_iconst (v := (1 : Int32)) hx hb dX3_enter_35 (by decide) ?_
  refine lv_iadd hx hb dX3_enter_36 ?_
  refine pX3_1 hC hI hf lkf_X3_15 dX3_enter_37 (fun S H locs hI hf => ?_)
  obtain rfl := Option.some.inj hf
  exact hR _ _ _ _ hI dX3_enter_40
theorem c_X3_enter {a1 : Nat} {S1 : x_S} (hf : f_X3_enter n S a1 = some S1) : x_M l yX3_enter cX3_enter 2 none 0 0 E [.ref (ad 399), .ref (ap a1 0)] (cw E ad ap S) (cw E ad ap S1) none :=
  x_entV (by decide) (Nat.le_of_ble_eq_true rfl) (fun p e s m args below meth c A Q ls hC hI hR hl => w_X3_enter (r := S1) hC hR hI hl hf)
-- X3_say
def f_X3_say (n : Nat) (S : x_S) (a1 : Int32) : Option (Int32 × x_S) :=
x_let (g_sc S 302) (fun v1 =>
if v1 < (200 : Int32) then
x_let (g_sc S 302) (fun v2 =>
x_g (¬ (v2 < 0 ∨ 200 ≤ (v2).toNatClampNeg)) (x_let (s_ar S 303 (v2).toNatClampNeg a1) (fun S =>
x_let (g_sc S 302) (fun v3 =>
x_let (s_sc S 302 (v3 + (1 : Int32))) (fun S =>
some ((-1 : Int32), S))))))
else
some ((4 : Int32), S))
set_option maxHeartbeats 4000000 in
set_option maxRecDepth 100000 in
theorem w_X3_say {r : Int32 × x_S} {a1 : Int32} (hC : x_C p s m args meth c cX3_say 2 RX3 E A) (hR : x_Ri p l e { frames := 0, cells := 0, slots := 0, locals := 0 } s m args below meth c cX3_say E A Q (cw E ad ap r.2) r.1) (hI : x_I E A s.heap (cw E ad ap S) H locs) (hl : lv_has ls 2 [(0, .ref (ad 399)), (1, .int a1)]) (hf : f_X3_say n S a1 = some r) : W p l e { frames := 0, cells := 0, slots := 0, locals := 0 } s m args below meth c H locs 0 0 Q (F0 m 0 ls []) := by
  obtain ⟨hx, hb, hml, hown, hts, hK, hN, hA⟩ := id hC
  unfold f_X3_say at hf
  refine lv_aload_n hx hb dX3_say_0 rfl (lv_at hl 0 rfl) ?_
  refine gX3_2 hC hI hf lkf_X3_18 dX3_say_1 (fun v1 hf => ?_)
  refine lv_sipush (v := (200 : Int32)) hx hb dX3_say_4 (by decide) ?_
  refine x_ilt hC 12 hf dX3_say_7 (by decide) (fun hf => ?_) (fun hf => ?_)
  · refine lv_aload_n hx hb dX3_say_12 rfl (lv_at hl 0 rfl) ?_
    refine gX3_3 hC hI lkf_X3_21 dX3_say_13 ?_
    refine lv_aload_n hx hb dX3_say_16 rfl (lv_at hl 0 rfl) ?_
    refine gX3_2 hC hI hf lkf_X3_18 dX3_say_17 (fun v2 hf => ?_)
    refine lv_iload_n hx hb dX3_say_20 rfl (lv_at hl 1 rfl) ?_
    refine tX3_3 hC hI hf dX3_say_21 (fun S H locs hI hf => ?_)
    refine lv_aload_n hx hb dX3_say_22 rfl (lv_at hl 0 rfl) ?_
    refine lv_dup hx hb dX3_say_23 rfl ?_
    refine gX3_2 hC hI hf lkf_X3_18 dX3_say_24 (fun v3 hf => ?_)
    refine lv_iconst (v := (1 : Int32)) hx hb dX3_say_27 (by decide) ?_
    refine lv_iadd hx hb dX3_say_28 ?_
    refine pX3_2 hC hI hf lkf_X3_18 dX3_say_29 (fun S H locs hI hf => ?_)
    refine lv_iconst (v := (-1 : Int32)) hx hb dX3_say_32 (by decide) ?_
    obtain rfl := Option.some.inj hf
    exact hR _ _ _ _ hI dX3_say_33
  · refine lv_iconst (v := (4 : Int32)) hx hb dX3_say_10 (by decide) ?_
    obtain rfl := Option.some.inj hf
    exact hR _ _ _ _ hI dX3_say_11
theorem c_X3_say {a1 : Int32} {v : Int32} {S1 : x_S} (hf : f_X3_say n S a1 = some (v, S1)) : x_M l yX3_say cX3_say 2 (some .int) 0 0 E [.ref (ad 399), .int a1] (cw E ad ap S) (cw E ad ap S1) (some (.int v)) :=
  x_entI (by decide) (Nat.le_of_ble_eq_true rfl) (fun p e s m args below meth c A Q ls hC hI hR hl => w_X3_say (r := (v, S1)) hC hR hI hl hf)
-- X3_holds
def f_X3_holds (n : Nat) (a0 : Int32) (a1 : Int32) : Option (Int32) :=
if a1 = (0 : Int32) then
if a0 = 0 then
x_g ((1 : Int32) = 0 ∨ (1 : Int32) = 1) (some (1 : Int32))
else
x_g ((0 : Int32) = 0 ∨ (0 : Int32) = 1) (some (0 : Int32))
else
if a1 = (1 : Int32) then
if a0 = 0 then
x_g ((0 : Int32) = 0 ∨ (0 : Int32) = 1) (some (0 : Int32))
else
x_g ((1 : Int32) = 0 ∨ (1 : Int32) = 1) (some (1 : Int32))
else
if a1 = (2 : Int32) then
if 0 ≤ a0 then
x_g ((0 : Int32) = 0 ∨ (0 : Int32) = 1) (some (0 : Int32))
else
x_g ((1 : Int32) = 0 ∨ (1 : Int32) = 1) (some (1 : Int32))
else
if a1 = (3 : Int32) then
if a0 < 0 then
x_g ((0 : Int32) = 0 ∨ (0 : Int32) = 1) (some (0 : Int32))
else
x_g ((1 : Int32) = 0 ∨ (1 : Int32) = 1) (some (1 : Int32))
else
if a1 = (4 : Int32) then
if a0 ≤ 0 then
x_g ((0 : Int32) = 0 ∨ (0 : Int32) = 1) (some (0 : Int32))
else
x_g ((1 : Int32) = 0 ∨ (1 : Int32) = 1) (some (1 : Int32))
else
if 0 < a0 then
x_g ((0 : Int32) = 0 ∨ (0 : Int32) = 1) (some (0 : Int32))
else
x_g ((1 : Int32) = 0 ∨ (1 : Int32) = 1) (some (1 : Int32))
set_option maxHeartbeats 4000000 in
set_option maxRecDepth 100000 in
theorem w_X3_holds {r : Int32} {a0 : Int32} {a1 : Int32} (hC : x_C p s m args meth c cX3_holds 2 RX3 E A) (hR : x_Rz p l e { frames := 0, cells := 0, slots := 0, locals := 0 } s m args below meth c cX3_holds E A Q w r) (hI : x_I E A s.heap w H locs) (hl : lv_has ls 2 [(0, .int a0), (1, .int a1)]) (hf : f_X3_holds n a0 a1 = some r) : W p l e { frames := 0, cells := 0, slots := 0, locals := 0 } s m args below meth c H locs 0 0 Q (F0 m 0 ls []) := by
  obtain ⟨hx, hb, hml, hown, hts, hK, hN, hA⟩ := id hC
  unfold f_X3_holds at hf
  refine lv_iload_n hx hb dX3_holds_0 rfl (lv_at hl 1 rfl) ?_
  refine x_case hf (fun q10 hf => ?_) (fun q10 hf => ?_)
  · refine lv_tableIn (tgt := 36) hx hb dX3_holds_1 (by rw [q10]; decide) (by rw [q10]; decide) (by rw [q10]; rfl) (by decide) ?_
    refine lv_iload_n hx hb dX3_holds_36 rfl (lv_at hl 0 rfl) ?_
    refine x_ne0 hC 44 hf dX3_holds_37 (by decide) (fun hf => ?_) (fun hf => ?_)
    · refine lv_iconst (v := (0 : Int32)) hx hb dX3_holds_44 (by decide) ?_
      obtain ⟨h9, hf⟩ := x_g_eq hf
      obtain rfl := Option.some.inj hf
      exact hR _ _ _ _ h9 hI dX3_holds_45
    · refine lv_iconst (v := (1 : Int32)) hx hb dX3_holds_40 (by decide) ?_
      refine lv_goto (tgt := 45) hx hb dX3_holds_41 (by decide) ?_
      obtain ⟨h9, hf⟩ := x_g_eq hf
      obtain rfl := Option.some.inj hf
      exact hR _ _ _ _ h9 hI dX3_holds_45
  · refine x_case hf (fun q11 hf => ?_) (fun q11 hf => ?_)
    · refine lv_tableIn (tgt := 46) hx hb dX3_holds_1 (by rw [q11]; decide) (by rw [q11]; decide) (by rw [q11]; rfl) (by decide) ?_
      refine lv_iload_n hx hb dX3_holds_46 rfl (lv_at hl 0 rfl) ?_
      refine x_eq0 hC 54 hf dX3_holds_47 (by decide) (fun hf => ?_) (fun hf => ?_)
      · refine lv_iconst (v := (0 : Int32)) hx hb dX3_holds_54 (by decide) ?_
        obtain ⟨h9, hf⟩ := x_g_eq hf
        obtain rfl := Option.some.inj hf
        exact hR _ _ _ _ h9 hI dX3_holds_55
      · refine lv_iconst (v := (1 : Int32)) hx hb dX3_holds_50 (by decide) ?_
        refine lv_goto (tgt := 55) hx hb dX3_holds_51 (by decide) ?_
        obtain ⟨h9, hf⟩ := x_g_eq hf
        obtain rfl := Option.some.inj hf
        exact hR _ _ _ _ h9 hI dX3_holds_55
    · refine x_case hf (fun q12 hf => ?_) (fun q12 hf => ?_)
      · refine lv_tableIn (tgt := 56) hx hb dX3_holds_1 (by rw [q12]; decide) (by rw [q12]; decide) (by rw [q12]; rfl) (by decide) ?_
        refine lv_iload_n hx hb dX3_holds_56 rfl (lv_at hl 0 rfl) ?_
        refine x_ge0 hC 64 hf dX3_holds_57 (by decide) (fun hf => ?_) (fun hf => ?_)
        · refine lv_iconst (v := (0 : Int32)) hx hb dX3_holds_64 (by decide) ?_
          obtain ⟨h9, hf⟩ := x_g_eq hf
          obtain rfl := Option.some.inj hf
          exact hR _ _ _ _ h9 hI dX3_holds_65
        · refine lv_iconst (v := (1 : Int32)) hx hb dX3_holds_60 (by decide) ?_
          refine lv_goto (tgt := 65) hx hb dX3_holds_61 (by decide) ?_
          obtain ⟨h9, hf⟩ := x_g_eq hf
          obtain rfl := Option.some.inj hf
          exact hR _ _ _ _ h9 hI dX3_holds_65
      · refine x_case hf (fun q13 hf => ?_) (fun q13 hf => ?_)
        · refine lv_tableIn (tgt := 66) hx hb dX3_holds_1 (by rw [q13]; decide) (by rw [q13]; decide) (by rw [q13]; rfl) (by decide) ?_
          refine lv_iload_n hx hb dX3_holds_66 rfl (lv_at hl 0 rfl) ?_
          refine x_lt0 hC 74 hf dX3_holds_67 (by decide) (fun hf => ?_) (fun hf => ?_)
          · refine lv_iconst (v := (0 : Int32)) hx hb dX3_holds_74 (by decide) ?_
            obtain ⟨h9, hf⟩ := x_g_eq hf
            obtain rfl := Option.some.inj hf
            exact hR _ _ _ _ h9 hI dX3_holds_75
          · refine lv_iconst (v := (1 : Int32)) hx hb dX3_holds_70 (by decide) ?_
            refine lv_goto (tgt := 75) hx hb dX3_holds_71 (by decide) ?_
            obtain ⟨h9, hf⟩ := x_g_eq hf
            obtain rfl := Option.some.inj hf
            exact hR _ _ _ _ h9 hI dX3_holds_75
        · refine x_case hf (fun q14 hf => ?_) (fun q14 hf => ?_)
          · refine lv_tableIn (tgt := 76) hx hb dX3_holds_1 (by rw [q14]; decide) (by rw [q14]; decide) (by rw [q14]; rfl) (by decide) ?_
            refine lv_iload_n hx hb dX3_holds_76 rfl (lv_at hl 0 rfl) ?_
            refine x_le0 hC 84 hf dX3_holds_77 (by decide) (fun hf => ?_) (fun hf => ?_)
            · refine lv_iconst (v := (0 : Int32)) hx hb dX3_holds_84 (by decide) ?_
              obtain ⟨h9, hf⟩ := x_g_eq hf
              obtain rfl := Option.some.inj hf
              exact hR _ _ _ _ h9 hI dX3_holds_85
            · refine lv_iconst (v := (1 : Int32)) hx hb dX3_holds_80 (by decide) ?_
              refine lv_goto (tgt := 85) hx hb dX3_holds_81 (by decide) ?_
              obtain ⟨h9, hf⟩ := x_g_eq hf
              obtain rfl := Option.some.inj hf
              exact hR _ _ _ _ h9 hI dX3_holds_85
          · refine lv_tableOut (tgt := 86) hx hb dX3_holds_1 (by have z10 := lv_neT (a := 0) q10 (by decide); have z11 := lv_neT (a := 1) q11 (by decide); have z12 := lv_neT (a := 2) q12 (by decide); have z13 := lv_neT (a := 3) q13 (by decide); have z14 := lv_neT (a := 4) q14 (by decide); omega) (by decide) ?_
            refine lv_iload_n hx hb dX3_holds_86 rfl (lv_at hl 0 rfl) ?_
            refine x_gt0 hC 94 hf dX3_holds_87 (by decide) (fun hf => ?_) (fun hf => ?_)
            · refine lv_iconst (v := (0 : Int32)) hx hb dX3_holds_94 (by decide) ?_
              obtain ⟨h9, hf⟩ := x_g_eq hf
              obtain rfl := Option.some.inj hf
              exact hR _ _ _ _ h9 hI dX3_holds_95
            · refine lv_iconst (v := (1 : Int32)) hx hb dX3_holds_90 (by decide) ?_
              refine lv_goto (tgt := 95) hx hb dX3_holds_91 (by decide) ?_
              obtain ⟨h9, hf⟩ := x_g_eq hf
              obtain rfl := Option.some.inj hf
              exact hR _ _ _ _ h9 hI dX3_holds_95
theorem c_X3_holds {a0 : Int32} {a1 : Int32} {v : Int32} (hf : f_X3_holds n a0 a1 = some v) : x_M l yX3_holds cX3_holds 2 (some .boolean) 0 0 E [.int a0, .int a1] w w (some (.int v)) :=
  x_entZ (by decide) (Nat.le_of_ble_eq_true rfl) (fun p e s m args below meth c A Q ls hC hI hR hl => w_X3_holds (r := v) hC hR hI hl hf)
-- X3_callOfN
def f_X3_callOfN (n : Nat) (S : x_S) : Option (Int32 × x_S) :=
some ((2 : Int32), S)
set_option maxHeartbeats 4000000 in
set_option maxRecDepth 100000 in
theorem w_X3_callOfN {r : Int32 × x_S} (hC : x_C p s m args meth c cX3_callOf 2 RX3 E A) (hR : x_Ri p l e { frames := 1, cells := 0, slots := 0, locals := 21 } s m args below meth c cX3_callOf E A Q (cw E ad ap r.2) r.1) (hI : x_I E A s.heap (cw E ad ap S) H locs) (hl : lv_has ls 2 [(0, .ref (ad 399)), (1, .null)]) (hf : f_X3_callOfN n S = some r) : W p l e { frames := 1, cells := 0, slots := 0, locals := 21 } s m args below meth c H locs 0 0 Q (F0 m 0 ls []) := by
  obtain ⟨hx, hb, hml, hown, hts, hK, hN, hA⟩ := id hC
  unfold f_X3_callOfN at hf
  refine lv_aload_nN hx hb dX3_callOf_0 rfl (lv_at hl 1 rfl) ?_
  refine lv_ifnullN (tgt := 11) hx hb dX3_callOf_1 (by decide) ?_
  refine lv_iconst (v := (2 : Int32)) hx hb dX3_callOf_11 (by decide) ?_
  obtain rfl := Option.some.inj hf
  exact hR _ _ _ _ hI dX3_callOf_12
theorem c_X3_callOfN {v : Int32} {S1 : x_S} (hf : f_X3_callOfN n S = some (v, S1)) : x_M l yX3_callOf cX3_callOf 2 (some .int) 1 21 E [.ref (ad 399), .null] (cw E ad ap S) (cw E ad ap S1) (some (.int v)) :=
  x_entI (by decide) (Nat.le_of_ble_eq_true rfl) (fun p e s m args below meth c A Q ls hC hI hR hl => w_X3_callOfN (r := (v, S1)) hC hR hI hl hf)
-- X3_callOf
def f_X3_callOf (n : Nat) (S : x_S) (a1 : Nat) : Option (Int32 × x_S) :=
x_g (a1 < g_np S) (x_let (g_ps S 5 a1) (fun v1 =>
if v1 = 0 then
some ((2 : Int32), S)
else
x_let (g_sc S 305) (fun v2 =>
if v2 < (8 : Int32) then
x_b (f_X3_enter n S a1) (fun S =>
some ((-1 : Int32), S))
else
some ((3 : Int32), S))))
set_option maxHeartbeats 4000000 in
set_option maxRecDepth 100000 in
theorem w_X3_callOf {r : Int32 × x_S} {a1 : Nat} (hC : x_C p s m args meth c cX3_callOf 2 RX3 E A) (hR : x_Ri p l e { frames := 1, cells := 0, slots := 0, locals := 21 } s m args below meth c cX3_callOf E A Q (cw E ad ap r.2) r.1) (hI : x_I E A s.heap (cw E ad ap S) H locs) (hl : lv_has ls 2 [(0, .ref (ad 399)), (1, .ref (ap a1 0))]) (hf : f_X3_callOf n S a1 = some r) : W p l e { frames := 1, cells := 0, slots := 0, locals := 21 } s m args below meth c H locs 0 0 Q (F0 m 0 ls []) := by
  obtain ⟨hx, hb, hml, hown, hts, hK, hN, hA⟩ := id hC
  unfold f_X3_callOf at hf
  refine lv_aload_n hx hb dX3_callOf_0 rfl (lv_at hl 1 rfl) ?_
  refine lv_ifnull hx hb dX3_callOf_1 ?_
  refine lv_aload_n hx hb dX3_callOf_4 rfl (lv_at hl 1 rfl) ?_
  refine gX2_5 hC hI hf lkf_X3_85 dX3_callOf_5 (fun v1 hf => ?_)
  refine x_ne0 hC 13 hf dX3_callOf_8 (by decide) (fun hf => ?_) (fun hf => ?_)
  · refine lv_aload_n hx hb dX3_callOf_13 rfl (lv_at hl 0 rfl) ?_
    refine gX3_5 hC hI hf lkf_X3_28 dX3_callOf_14 (fun v2 hf => ?_)
    refine lv_bipush (v := (8 : Int32)) hx hb dX3_callOf_17 (by decide) ?_
    refine x_ilt hC 24 hf dX3_callOf_19 (by decide) (fun hf => ?_) (fun hf => ?_)
    · refine lv_aload_n hx hb dX3_callOf_24 rfl (lv_at hl 0 rfl) ?_
      refine lv_aload_n hx hb dX3_callOf_25 rfl (lv_at hl 1 rfl) ?_
      obtain ⟨S, hc3, hf⟩ := x_b_eq hf
      refine x_callV hC hI (c_X3_enter hc3) 3 3 rfl rfl kv_X3_46 rfl ⟨Nat.le_of_ble_eq_true rfl, Nat.le_of_ble_eq_true rfl⟩ ⟨Nat.le_refl _, Nat.le_refl _⟩ hl.1 rfl (Nat.le_of_ble_eq_true rfl) dX3_callOf_26 (fun H locs hI => ?_)
      refine lv_iconst (v := (-1 : Int32)) hx hb dX3_callOf_29 (by decide) ?_
      obtain rfl := Option.some.inj hf
      exact hR _ _ _ _ hI dX3_callOf_30
    · refine lv_iconst (v := (3 : Int32)) hx hb dX3_callOf_22 (by decide) ?_
      obtain rfl := Option.some.inj hf
      exact hR _ _ _ _ hI dX3_callOf_23
  · refine lv_iconst (v := (2 : Int32)) hx hb dX3_callOf_11 (by decide) ?_
    obtain rfl := Option.some.inj hf
    exact hR _ _ _ _ hI dX3_callOf_12
theorem c_X3_callOf {a1 : Nat} {v : Int32} {S1 : x_S} (hf : f_X3_callOf n S a1 = some (v, S1)) : x_M l yX3_callOf cX3_callOf 2 (some .int) 1 21 E [.ref (ad 399), .ref (ap a1 0)] (cw E ad ap S) (cw E ad ap S1) (some (.int v)) :=
  x_entI (by decide) (Nat.le_of_ble_eq_true rfl) (fun p e s m args below meth c A Q ls hC hI hR hl => w_X3_callOf (r := (v, S1)) hC hR hI hl hf)
end
