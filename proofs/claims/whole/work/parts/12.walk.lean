section
variable {p : Program} {l : Launch} {e : Env} {s : State} {m : MethodId} {args : Array Value} {below : List Frame} {meth : Method} {c : Code} {H : Heap} {locs : List Loc} {Q : State → Prop}
variable {E : x_E} {A : Nat → Prop} {ls : Array Slot} {ad : Nat → Nat} {ap : Nat → Nat → Nat} {S : x_S} {w : va_W} {n : Nat}
-- X1_elseEnd
def f_X1_elseEnd (n : Nat) (S : x_S) (a1 : Int32) (a2 : Int32) : Option (Int32 × x_S) :=
if (a2 - (1 : Int32)) ≤ a1 then
some ((-1 : Int32), S)
else
x_o (g_rf S 101) (
none) (fun i1 =>
x_g (i1 < g_np S) (
x_g (i1 < g_np S) (x_g (¬ ((a2 - (1 : Int32)) < 0 ∨ 60 ≤ ((a2 - (1 : Int32))).toNatClampNeg)) (x_let (g_pa S 0 i1 ((a2 - (1 : Int32))).toNatClampNeg) (fun v2 =>
if v2 = (2 : Int32) then
x_o (g_rf S 101) (
none) (fun i3 =>
x_g (i3 < g_np S) (
x_g (i3 < g_np S) (x_g (¬ ((a2 - (1 : Int32)) < 0 ∨ 60 ≤ ((a2 - (1 : Int32))).toNatClampNeg)) (x_let (g_pa S 3 i3 ((a2 - (1 : Int32))).toNatClampNeg) (fun v4 =>
if v4 ≤ a2 then
some ((-1 : Int32), S)
else
x_let (g_sc S 102) (fun v5 =>
x_g (¬ ((v5 - (1 : Int32)) < 0 ∨ 61 ≤ ((v5 - (1 : Int32))).toNatClampNeg)) (x_let (g_ar S 103 ((v5 - (1 : Int32))).toNatClampNeg) (fun v6 =>
if v6 < v4 then
some ((-1 : Int32), S)
else
x_b2 (f_X1_isNeither n S v4) (fun v8 S =>
if v8 = 0 then
some ((-1 : Int32), S)
else
some (v4, S))))))))))
else
some ((-1 : Int32), S))))))
set_option maxHeartbeats 4000000 in
set_option maxRecDepth 100000 in
theorem w_X1_elseEnd {r : Int32 × x_S} {a1 : Int32} {a2 : Int32} (hC : x_C p s m args meth c cX1_elseEnd 5 RX1 E A) (hR : x_Ri p l e { frames := 1, cells := 0, slots := 0, locals := 21 } s m args below meth c cX1_elseEnd E A Q (cw E ad ap r.2) r.1) (hI : x_I E A s.heap (cw E ad ap S) H locs) (hl : lv_has ls 5 [(0, .ref (ad 199)), (1, .int a1), (2, .int a2)]) (hf : f_X1_elseEnd n S a1 a2 = some r) : W p l e { frames := 1, cells := 0, slots := 0, locals := 21 } s m args below meth c H locs 0 0 Q (F0 m 0 ls []) := by
  obtain ⟨hx, hb, hml, hown, hts, hK, hN, hA⟩ := id hC
  unfold f_X1_elseEnd at hf
  refine lv_iload_n hx hb dX1_elseEnd_0 rfl (lv_at hl 2 rfl) ?_
  refine lv_iconst (v := (1 : Int32)) hx hb dX1_elseEnd_1 (by decide) ?_
  refine lv_isub hx hb dX1_elseEnd_2 ?_
  refine lv_istore_n (lv' := [(3, .int (a2 - (1 : Int32))), (0, .ref (ad 199)), (1, .int a1), (2, .int a2)]) hx hb dX1_elseEnd_3 rfl hl (by decide) rfl (fun ls hl => ?_)
  refine lv_iload_n hx hb dX1_elseEnd_4 rfl (lv_at hl 0 rfl) ?_
  refine lv_iload_n hx hb dX1_elseEnd_5 rfl (lv_at hl 2 rfl) ?_
  refine x_ile hC 22 hf dX1_elseEnd_6 (by decide) (fun hf => ?_) (fun hf => ?_)
  · refine lv_iconst (v := (-1 : Int32)) hx hb dX1_elseEnd_22 (by decide) ?_
    obtain rfl := Option.some.inj hf
    exact hR _ _ _ _ hI dX1_elseEnd_23
  · refine lv_aload_n hx hb dX1_elseEnd_9 rfl (lv_at hl 1 rfl) ?_
    refine gX1_1 hC hI lkf_X1_18 dX1_elseEnd_10 ?_
    refine x_casesR hf (fun hf => ?_) (fun i1 hf => ?_)
    · cases hf
    · refine gX2_0 hC hI hf lkf_X1_102 dX1_elseEnd_13 (fun hf => ?_)
      refine lv_iload_n hx hb dX1_elseEnd_16 rfl (lv_at hl 0 rfl) ?_
      refine aX2_0 hC hI hf dX1_elseEnd_17 (fun v2 hf => ?_)
      refine lv_iconst (v := (2 : Int32)) hx hb dX1_elseEnd_18 (by decide) ?_
      refine x_ieq hC 24 hf dX1_elseEnd_19 (by decide) (fun hf => ?_) (fun hf => ?_)
      · refine lv_aload_n hx hb dX1_elseEnd_24 rfl (lv_at hl 1 rfl) ?_
        refine gX1_1 hC hI lkf_X1_18 dX1_elseEnd_25 ?_
        refine x_casesR hf (fun hf => ?_) (fun i3 hf => ?_)
        · cases hf
        · refine gX2_3 hC hI hf lkf_X1_128 dX1_elseEnd_28 (fun hf => ?_)
          refine lv_iload_n hx hb dX1_elseEnd_31 rfl (lv_at hl 0 rfl) ?_
          refine aX2_3 hC hI hf dX1_elseEnd_32 (fun v4 hf => ?_)
          refine lv_istore (lv' := [(4, .int v4), (3, .int (a2 - (1 : Int32))), (0, .ref (ad 199)), (1, .int a1), (2, .int a2)]) hx hb dX1_elseEnd_33 hl (by decide) rfl (fun ls hl => ?_)
          refine lv_iload hx hb dX1_elseEnd_35 (lv_at hl 0 rfl) ?_
          refine lv_iload_n hx hb dX1_elseEnd_37 rfl (lv_at hl 4 rfl) ?_
          refine x_ile hC 71 hf dX1_elseEnd_38 (by decide) (fun hf => ?_) (fun hf => ?_)
          · refine lv_iconst (v := (-1 : Int32)) hx hb dX1_elseEnd_71 (by decide) ?_
            obtain rfl := Option.some.inj hf
            exact hR _ _ _ _ hI dX1_elseEnd_72
          · refine lv_iload hx hb dX1_elseEnd_41 (lv_at hl 0 rfl) ?_
            refine lv_aload_n hx hb dX1_elseEnd_43 rfl (lv_at hl 2 rfl) ?_
            refine gX1_3 hC hI lkf_X1_26 dX1_elseEnd_44 ?_
            refine lv_aload_n hx hb dX1_elseEnd_47 rfl (lv_at hl 2 rfl) ?_
            refine gX1_2 hC hI hf lkf_X1_22 dX1_elseEnd_48 (fun v5 hf => ?_)
            refine lv_iconst (v := (1 : Int32)) hx hb dX1_elseEnd_51 (by decide) ?_
            refine lv_isub hx hb dX1_elseEnd_52 ?_
            refine aX1_3 hC hI hf dX1_elseEnd_53 (fun v6 hf => ?_)
            refine x_igt hC 71 hf dX1_elseEnd_54 (by decide) (fun hf => ?_) (fun hf => ?_)
            · refine lv_iconst (v := (-1 : Int32)) hx hb dX1_elseEnd_71 (by decide) ?_
              obtain rfl := Option.some.inj hf
              exact hR _ _ _ _ hI dX1_elseEnd_72
            · refine lv_aload_n hx hb dX1_elseEnd_57 rfl (lv_at hl 2 rfl) ?_
              refine lv_iload hx hb dX1_elseEnd_58 (lv_at hl 0 rfl) ?_
              obtain ⟨v8, S, hc7, hf⟩ := x_b2_eq hf
              refine x_callV hC hI (c_X1_isNeither hc7) 2 1 rfl rfl kv_X1_134 rfl ⟨Nat.le_of_ble_eq_true rfl, Nat.le_of_ble_eq_true rfl⟩ ⟨Nat.le_refl _, Nat.le_refl _⟩ hl.1 rfl (Nat.le_of_ble_eq_true rfl) dX1_elseEnd_60 (fun H locs hI => ?_)
              refine x_eq0 hC 71 hf dX1_elseEnd_63 (by decide) (fun hf => ?_) (fun hf => ?_)
              · refine lv_iconst (v := (-1 : Int32)) hx hb dX1_elseEnd_71 (by decide) ?_
                obtain rfl := Option.some.inj hf
                exact hR _ _ _ _ hI dX1_elseEnd_72
              · refine lv_iload hx hb dX1_elseEnd_66 (lv_at hl 0 rfl) ?_
                refine lv_goto (tgt := 72) hx hb dX1_elseEnd_68 (by decide) ?_
                obtain rfl := Option.some.inj hf
                exact hR _ _ _ _ hI dX1_elseEnd_72
      · refine lv_iconst (v := (-1 : Int32)) hx hb dX1_elseEnd_22 (by decide) ?_
        obtain rfl := Option.some.inj hf
        exact hR _ _ _ _ hI dX1_elseEnd_23
theorem c_X1_elseEnd {a1 : Int32} {a2 : Int32} {v : Int32} {S1 : x_S} (hf : f_X1_elseEnd n S a1 a2 = some (v, S1)) : x_M l yX1_elseEnd cX1_elseEnd 5 (some .int) 1 21 E [.ref (ad 199), .int a1, .int a2] (cw E ad ap S) (cw E ad ap S1) (some (.int v)) :=
  x_entI (by decide) (Nat.le_of_ble_eq_true rfl) (fun p e s m args below meth c A Q ls hC hI hR hl => w_X1_elseEnd (r := (v, S1)) hC hR hI hl hf)
-- X1_readIf
def f_X1_readIf (n : Nat) (S : x_S) (a1 : Int32) : Option (Int32 × x_S) :=
x_o (g_rf S 101) (
none) (fun i1 =>
x_g (i1 < g_np S) (
x_g (i1 < g_np S) (x_g (¬ (a1 < 0 ∨ 60 ≤ (a1).toNatClampNeg)) (x_let (g_pa S 3 i1 (a1).toNatClampNeg) (fun v2 =>
x_let (g_sc S 102) (fun v3 =>
x_g (¬ ((v3 - (1 : Int32)) < 0 ∨ 61 ≤ ((v3 - (1 : Int32))).toNatClampNeg)) (x_let (g_ar S 104 ((v3 - (1 : Int32))).toNatClampNeg) (fun v4 =>
x_let (g_sc S 102) (fun v5 =>
x_g (¬ ((v5 - (1 : Int32)) < 0 ∨ 61 ≤ ((v5 - (1 : Int32))).toNatClampNeg)) (x_let (g_ar S 105 ((v5 - (1 : Int32))).toNatClampNeg) (fun v6 =>
x_b2 (f_X1_elseEnd n S a1 v2) (fun v8 S =>
if v8 = (-1 : Int32) then
x_b2 (f_X1_begin n S (1 : Int32) a1 v2 a1) (fun v14 S =>
x_b (f_X1_wordTest n S a1) (fun S =>
x_b (f_X1_openBody n S v14 (0 : Int32) v2 v4 v6) (fun S =>
some ((a1 + (1 : Int32)), S))))
else
x_b2 (f_X1_begin n S (2 : Int32) a1 v8 a1) (fun v10 S =>
x_g (¬ ((v2 - (1 : Int32)) < 0 ∨ 60 ≤ ((v2 - (1 : Int32))).toNatClampNeg)) (x_let (s_ar S 406 ((v2 - (1 : Int32))).toNatClampNeg v10) (fun S =>
x_b (f_X1_wordTest n S a1) (fun S =>
x_b (f_X1_openBody n S v10 (0 : Int32) (v2 - (1 : Int32)) v4 v6) (fun S =>
some ((a1 + (1 : Int32)), S))))))))))))))))))
set_option maxHeartbeats 4000000 in
set_option maxRecDepth 100000 in
theorem w_X1_readIf {r : Int32 × x_S} {a1 : Int32} (hC : x_C p s m args meth c cX1_readIf 7 RX1 E A) (hR : x_Ri p l e { frames := 2, cells := 0, slots := 0, locals := 46 } s m args below meth c cX1_readIf E A Q (cw E ad ap r.2) r.1) (hI : x_I E A s.heap (cw E ad ap S) H locs) (hl : lv_has ls 7 [(0, .ref (ad 199)), (1, .int a1)]) (hf : f_X1_readIf n S a1 = some r) : W p l e { frames := 2, cells := 0, slots := 0, locals := 46 } s m args below meth c H locs 0 0 Q (F0 m 0 ls []) := by
  obtain ⟨hx, hb, hml, hown, hts, hK, hN, hA⟩ := id hC
  unfold f_X1_readIf at hf
  refine lv_aload_n hx hb dX1_readIf_0 rfl (lv_at hl 0 rfl) ?_
  refine gX1_1 hC hI lkf_X1_18 dX1_readIf_1 ?_
  refine x_casesR hf (fun hf => ?_) (fun i1 hf => ?_)
  · cases hf
  · refine gX2_3 hC hI hf lkf_X1_128 dX1_readIf_4 (fun hf => ?_)
    refine lv_iload_n hx hb dX1_readIf_7 rfl (lv_at hl 1 rfl) ?_
    refine aX2_3 hC hI hf dX1_readIf_8 (fun v2 hf => ?_)
    refine lv_istore_n (lv' := [(2, .int v2), (0, .ref (ad 199)), (1, .int a1)]) hx hb dX1_readIf_9 rfl hl (by decide) rfl (fun ls hl => ?_)
    refine lv_aload_n hx hb dX1_readIf_10 rfl (lv_at hl 1 rfl) ?_
    refine gX1_4 hC hI lkf_X1_30 dX1_readIf_11 ?_
    refine lv_aload_n hx hb dX1_readIf_14 rfl (lv_at hl 1 rfl) ?_
    refine gX1_2 hC hI hf lkf_X1_22 dX1_readIf_15 (fun v3 hf => ?_)
    refine lv_iconst (v := (1 : Int32)) hx hb dX1_readIf_18 (by decide) ?_
    refine lv_isub hx hb dX1_readIf_19 ?_
    refine aX1_4 hC hI hf dX1_readIf_20 (fun v4 hf => ?_)
    refine lv_istore_n (lv' := [(3, .int v4), (2, .int v2), (0, .ref (ad 199)), (1, .int a1)]) hx hb dX1_readIf_21 rfl hl (by decide) rfl (fun ls hl => ?_)
    refine lv_aload_n hx hb dX1_readIf_22 rfl (lv_at hl 2 rfl) ?_
    refine gX1_5 hC hI lkf_X1_33 dX1_readIf_23 ?_
    refine lv_aload_n hx hb dX1_readIf_26 rfl (lv_at hl 2 rfl) ?_
    refine gX1_2 hC hI hf lkf_X1_22 dX1_readIf_27 (fun v5 hf => ?_)
    refine lv_iconst (v := (1 : Int32)) hx hb dX1_readIf_30 (by decide) ?_
    refine lv_isub hx hb dX1_readIf_31 ?_
    refine aX1_5 hC hI hf dX1_readIf_32 (fun v6 hf => ?_)
    refine lv_istore (lv' := [(4, .int v6), (3, .int v4), (2, .int v2), (0, .ref (ad 199)), (1, .int a1)]) hx hb dX1_readIf_33 hl (by decide) rfl (fun ls hl => ?_)
    refine lv_aload_n hx hb dX1_readIf_35 rfl (lv_at hl 3 rfl) ?_
    refine lv_iload_n hx hb dX1_readIf_36 rfl (lv_at hl 4 rfl) ?_
    refine lv_iload_n hx hb dX1_readIf_37 rfl (lv_at hl 2 rfl) ?_
    obtain ⟨v8, S, hc7, hf⟩ := x_b2_eq hf
    refine x_callV hC hI (c_X1_elseEnd hc7) 2 1 rfl rfl kv_X1_137 rfl ⟨Nat.le_of_ble_eq_true rfl, Nat.le_of_ble_eq_true rfl⟩ ⟨Nat.le_refl _, Nat.le_refl _⟩ hl.1 rfl (Nat.le_of_ble_eq_true rfl) dX1_readIf_38 (fun H locs hI => ?_)
    refine lv_istore (lv' := [(5, .int v8), (4, .int v6), (3, .int v4), (2, .int v2), (0, .ref (ad 199)), (1, .int a1)]) hx hb dX1_readIf_41 hl (by decide) rfl (fun ls hl => ?_)
    refine lv_iload hx hb dX1_readIf_43 (lv_at hl 0 rfl) ?_
    refine lv_iconst (v := (-1 : Int32)) hx hb dX1_readIf_45 (by decide) ?_
    refine x_ine hC 79 hf dX1_readIf_46 (by decide) (fun hf => ?_) (fun hf => ?_)
    · refine lv_aload_n hx hb dX1_readIf_79 rfl (lv_at hl 4 rfl) ?_
      refine lv_iconst (v := (2 : Int32)) hx hb dX1_readIf_80 (by decide) ?_
      refine lv_iload_n hx hb dX1_readIf_81 rfl (lv_at hl 5 rfl) ?_
      refine lv_iload hx hb dX1_readIf_82 (lv_at hl 0 rfl) ?_
      refine lv_iload_n hx hb dX1_readIf_84 rfl (lv_at hl 5 rfl) ?_
      obtain ⟨v10, S, hc9, hf⟩ := x_b2_eq hf
      refine x_callV hC hI (c_X1_begin hc9) 2 1 rfl rfl kv_X1_121 rfl ⟨Nat.le_of_ble_eq_true rfl, Nat.le_of_ble_eq_true rfl⟩ ⟨Nat.le_refl _, Nat.le_refl _⟩ hl.1 rfl (Nat.le_of_ble_eq_true rfl) dX1_readIf_85 (fun H locs hI => ?_)
      refine lv_istore (lv' := [(6, .int v10), (5, .int v8), (4, .int v6), (3, .int v4), (2, .int v2), (0, .ref (ad 199)), (1, .int a1)]) hx hb dX1_readIf_88 hl (by decide) rfl (fun ls hl => ?_)
      refine lv_aload_n hx hb dX1_readIf_90 rfl (lv_at hl 5 rfl) ?_
      refine gX1_0 hC hI lkf_X1_12 dX1_readIf_91 ?_
      refine gX4_6 hC hI lkf_X1_131 dX1_readIf_94 ?_
      refine lv_iload_n hx hb dX1_readIf_97 rfl (lv_at hl 4 rfl) ?_
      refine lv_iconst (v := (1 : Int32)) hx hb dX1_readIf_98 (by decide) ?_
      refine lv_isub hx hb dX1_readIf_99 ?_
      refine lv_iload hx hb dX1_readIf_100 (lv_at hl 0 rfl) ?_
      refine tX4_6 hC hI hf dX1_readIf_102 (fun S H locs hI hf => ?_)
      refine lv_aload_n hx hb dX1_readIf_103 rfl (lv_at hl 5 rfl) ?_
      refine lv_iload_n hx hb dX1_readIf_104 rfl (lv_at hl 6 rfl) ?_
      obtain ⟨S, hc11, hf⟩ := x_b_eq hf
      refine x_callV hC hI (c_X1_wordTest hc11) 2 1 rfl rfl kv_X1_125 rfl ⟨Nat.le_of_ble_eq_true rfl, Nat.le_of_ble_eq_true rfl⟩ ⟨Nat.le_refl _, Nat.le_refl _⟩ hl.1 rfl (Nat.le_of_ble_eq_true rfl) dX1_readIf_105 (fun H locs hI => ?_)
      refine lv_aload_n hx hb dX1_readIf_108 rfl (lv_at hl 5 rfl) ?_
      refine lv_iload hx hb dX1_readIf_109 (lv_at hl 0 rfl) ?_
      refine lv_iconst (v := (0 : Int32)) hx hb dX1_readIf_111 (by decide) ?_
      refine lv_iload_n hx hb dX1_readIf_112 rfl (lv_at hl 4 rfl) ?_
      refine lv_iconst (v := (1 : Int32)) hx hb dX1_readIf_113 (by decide) ?_
      refine lv_isub hx hb dX1_readIf_114 ?_
      refine lv_iload_n hx hb dX1_readIf_115 rfl (lv_at hl 3 rfl) ?_
      refine lv_iload hx hb dX1_readIf_116 (lv_at hl 2 rfl) ?_
      obtain ⟨S, hc12, hf⟩ := x_b_eq hf
      refine x_callV hC hI (c_X1_openBody hc12) 2 1 rfl rfl kv_X1_53 rfl ⟨Nat.le_of_ble_eq_true rfl, Nat.le_of_ble_eq_true rfl⟩ ⟨Nat.le_refl _, Nat.le_refl _⟩ hl.1 rfl (Nat.le_of_ble_eq_true rfl) dX1_readIf_118 (fun H locs hI => ?_)
      refine lv_iload_n hx hb dX1_readIf_121 rfl (lv_at hl 6 rfl) ?_
      refine lv_iconst (v := (1 : Int32)) hx hb dX1_readIf_122 (by decide) ?_
      refine lv_iadd hx hb dX1_readIf_123 ?_
      obtain rfl := Option.some.inj hf
      exact hR _ _ _ _ hI dX1_readIf_124
    · refine lv_aload_n hx hb dX1_readIf_49 rfl (lv_at hl 4 rfl) ?_
      refine lv_iconst (v := (1 : Int32)) hx hb dX1_readIf_50 (by decide) ?_
      refine lv_iload_n hx hb dX1_readIf_51 rfl (lv_at hl 5 rfl) ?_
      refine lv_iload_n hx hb dX1_readIf_52 rfl (lv_at hl 3 rfl) ?_
      refine lv_iload_n hx hb dX1_readIf_53 rfl (lv_at hl 5 rfl) ?_
      obtain ⟨v14, S, hc13, hf⟩ := x_b2_eq hf
      refine x_callV hC hI (c_X1_begin hc13) 2 1 rfl rfl kv_X1_121 rfl ⟨Nat.le_of_ble_eq_true rfl, Nat.le_of_ble_eq_true rfl⟩ ⟨Nat.le_refl _, Nat.le_refl _⟩ hl.1 rfl (Nat.le_of_ble_eq_true rfl) dX1_readIf_54 (fun H locs hI => ?_)
      refine lv_istore (lv' := [(6, .int v14), (5, .int v8), (4, .int v6), (3, .int v4), (2, .int v2), (0, .ref (ad 199)), (1, .int a1)]) hx hb dX1_readIf_57 hl (by decide) rfl (fun ls hl => ?_)
      refine lv_aload_n hx hb dX1_readIf_59 rfl (lv_at hl 5 rfl) ?_
      refine lv_iload_n hx hb dX1_readIf_60 rfl (lv_at hl 6 rfl) ?_
      obtain ⟨S, hc15, hf⟩ := x_b_eq hf
      refine x_callV hC hI (c_X1_wordTest hc15) 2 1 rfl rfl kv_X1_125 rfl ⟨Nat.le_of_ble_eq_true rfl, Nat.le_of_ble_eq_true rfl⟩ ⟨Nat.le_refl _, Nat.le_refl _⟩ hl.1 rfl (Nat.le_of_ble_eq_true rfl) dX1_readIf_61 (fun H locs hI => ?_)
      refine lv_aload_n hx hb dX1_readIf_64 rfl (lv_at hl 5 rfl) ?_
      refine lv_iload hx hb dX1_readIf_65 (lv_at hl 0 rfl) ?_
      refine lv_iconst (v := (0 : Int32)) hx hb dX1_readIf_67 (by decide) ?_
      refine lv_iload_n hx hb dX1_readIf_68 rfl (lv_at hl 4 rfl) ?_
      refine lv_iload_n hx hb dX1_readIf_69 rfl (lv_at hl 3 rfl) ?_
      refine lv_iload hx hb dX1_readIf_70 (lv_at hl 2 rfl) ?_
      obtain ⟨S, hc16, hf⟩ := x_b_eq hf
      refine x_callV hC hI (c_X1_openBody hc16) 2 1 rfl rfl kv_X1_53 rfl ⟨Nat.le_of_ble_eq_true rfl, Nat.le_of_ble_eq_true rfl⟩ ⟨Nat.le_refl _, Nat.le_refl _⟩ hl.1 rfl (Nat.le_of_ble_eq_true rfl) dX1_readIf_72 (fun H locs hI => ?_)
      refine lv_iload_n hx hb dX1_readIf_75 rfl (lv_at hl 6 rfl) ?_
      refine lv_iconst (v := (1 : Int32)) hx hb dX1_readIf_76 (by decide) ?_
      refine lv_iadd hx hb dX1_readIf_77 ?_
      obtain rfl := Option.some.inj hf
      exact hR _ _ _ _ hI dX1_readIf_78
theorem c_X1_readIf {a1 : Int32} {v : Int32} {S1 : x_S} (hf : f_X1_readIf n S a1 = some (v, S1)) : x_M l yX1_readIf cX1_readIf 7 (some .int) 2 46 E [.ref (ad 199), .int a1] (cw E ad ap S) (cw E ad ap S1) (some (.int v)) :=
  x_entI (by decide) (Nat.le_of_ble_eq_true rfl) (fun p e s m args below meth c A Q ls hC hI hR hl => w_X1_readIf (r := (v, S1)) hC hR hI hl hf)
-- X1_readAct
def f_X1_readAct (n : Nat) (S : x_S) (a1 : Int32) : Option (Int32 × x_S) :=
x_b2 (f_X1_begin n S (0 : Int32) a1 (a1 + (1 : Int32)) a1) (fun v2 S =>
x_o (g_rf S 101) (
none) (fun i3 =>
x_g (i3 < g_np S) (
x_g (i3 < g_np S) (x_g (¬ (a1 < 0 ∨ 60 ≤ (a1).toNatClampNeg)) (x_let (g_pa S 0 i3 (a1).toNatClampNeg) (fun v4 =>
x_b (f_X4_word n S v4) (fun S =>
x_b (f_X1_wordTest n S a1) (fun S =>
some ((a1 + (1 : Int32)), S)))))))))
set_option maxHeartbeats 4000000 in
set_option maxRecDepth 100000 in
theorem w_X1_readAct {r : Int32 × x_S} {a1 : Int32} (hC : x_C p s m args meth c cX1_readAct 2 RX1 E A) (hR : x_Ri p l e { frames := 2, cells := 0, slots := 0, locals := 46 } s m args below meth c cX1_readAct E A Q (cw E ad ap r.2) r.1) (hI : x_I E A s.heap (cw E ad ap S) H locs) (hl : lv_has ls 2 [(0, .ref (ad 199)), (1, .int a1)]) (hf : f_X1_readAct n S a1 = some r) : W p l e { frames := 2, cells := 0, slots := 0, locals := 46 } s m args below meth c H locs 0 0 Q (F0 m 0 ls []) := by
  obtain ⟨hx, hb, hml, hown, hts, hK, hN, hA⟩ := id hC
  unfold f_X1_readAct at hf
  refine lv_aload_n hx hb dX1_readAct_0 rfl (lv_at hl 0 rfl) ?_
  refine lv_iconst (v := (0 : Int32)) hx hb dX1_readAct_1 (by decide) ?_
  refine lv_iload_n hx hb dX1_readAct_2 rfl (lv_at hl 1 rfl) ?_
  refine lv_iload_n hx hb dX1_readAct_3 rfl (lv_at hl 1 rfl) ?_
  refine lv_iconst (v := (1 : Int32)) hx hb dX1_readAct_4 (by decide) ?_
  refine lv_iadd hx hb dX1_readAct_5 ?_
  refine lv_iload_n hx hb dX1_readAct_6 rfl (lv_at hl 1 rfl) ?_
  obtain ⟨v2, S, hc1, hf⟩ := x_b2_eq hf
  refine x_callV hC hI (c_X1_begin hc1) 2 1 rfl rfl kv_X1_121 rfl ⟨Nat.le_of_ble_eq_true rfl, Nat.le_of_ble_eq_true rfl⟩ ⟨Nat.le_refl _, Nat.le_refl _⟩ hl.1 rfl (Nat.le_of_ble_eq_true rfl) dX1_readAct_7 (fun H locs hI => ?_)
  refine lv_pop hx hb dX1_readAct_10 rfl ?_
  refine lv_aload_n hx hb dX1_readAct_11 rfl (lv_at hl 0 rfl) ?_
  refine gX1_0 hC hI lkf_X1_12 dX1_readAct_12 ?_
  refine lv_aload_n hx hb dX1_readAct_15 rfl (lv_at hl 0 rfl) ?_
  refine gX1_1 hC hI lkf_X1_18 dX1_readAct_16 ?_
  refine x_casesR hf (fun hf => ?_) (fun i3 hf => ?_)
  · cases hf
  · refine gX2_0 hC hI hf lkf_X1_102 dX1_readAct_19 (fun hf => ?_)
    refine lv_iload_n hx hb dX1_readAct_22 rfl (lv_at hl 1 rfl) ?_
    refine aX2_0 hC hI hf dX1_readAct_23 (fun v4 hf => ?_)
    obtain ⟨S, hc5, hf⟩ := x_b_eq hf
    refine x_callV hC hI (c_X4_word hc5) 4 4 rfl rfl kv_X1_67 rfl ⟨Nat.le_of_ble_eq_true rfl, Nat.le_of_ble_eq_true rfl⟩ ⟨Nat.le_refl _, Nat.le_refl _⟩ hl.1 rfl (Nat.le_of_ble_eq_true rfl) dX1_readAct_24 (fun H locs hI => ?_)
    refine lv_aload_n hx hb dX1_readAct_27 rfl (lv_at hl 0 rfl) ?_
    refine lv_iload_n hx hb dX1_readAct_28 rfl (lv_at hl 1 rfl) ?_
    obtain ⟨S, hc6, hf⟩ := x_b_eq hf
    refine x_callV hC hI (c_X1_wordTest hc6) 2 1 rfl rfl kv_X1_125 rfl ⟨Nat.le_of_ble_eq_true rfl, Nat.le_of_ble_eq_true rfl⟩ ⟨Nat.le_refl _, Nat.le_refl _⟩ hl.1 rfl (Nat.le_of_ble_eq_true rfl) dX1_readAct_29 (fun H locs hI => ?_)
    refine lv_iload_n hx hb dX1_readAct_32 rfl (lv_at hl 1 rfl) ?_
    refine lv_iconst (v := (1 : Int32)) hx hb dX1_readAct_33 (by decide) ?_
    refine lv_iadd hx hb dX1_readAct_34 ?_
    obtain rfl := Option.some.inj hf
    exact hR _ _ _ _ hI dX1_readAct_35
theorem c_X1_readAct {a1 : Int32} {v : Int32} {S1 : x_S} (hf : f_X1_readAct n S a1 = some (v, S1)) : x_M l yX1_readAct cX1_readAct 2 (some .int) 2 46 E [.ref (ad 199), .int a1] (cw E ad ap S) (cw E ad ap S1) (some (.int v)) :=
  x_entI (by decide) (Nat.le_of_ble_eq_true rfl) (fun p e s m args below meth c A Q ls hC hI hR hl => w_X1_readAct (r := (v, S1)) hC hR hI hl hf)
-- X1_readLoop
def f_X1_readLoop_111 (n : Nat) (S : x_S) (a1 : Int32) (a2 : Int32) : Option (Int32 × x_S) :=
x_b2 (f_X1_begin n S (3 : Int32) a1 (a2 + (1 : Int32)) a2) (fun v6 S =>
x_b (f_X1_openBody n S v6 (0 : Int32) a2 (a2 + (1 : Int32)) a1) (fun S =>
some (a1, S)))
set_option maxHeartbeats 4000000 in
set_option maxRecDepth 100000 in
theorem w_X1_readLoop_111 {r : Int32 × x_S} {a1 : Int32} {a2 : Int32} (hC : x_C p s m args meth c cX1_readLoop 4 RX1 E A) (hR : x_Ri p l e { frames := 2, cells := 0, slots := 0, locals := 46 } s m args below meth c cX1_readLoop E A Q (cw E ad ap r.2) r.1) (hI : x_I E A s.heap (cw E ad ap S) H locs) (hl : lv_has ls 4 [(0, .ref (ad 199)), (1, .int a1), (2, .int a2)]) (hf : f_X1_readLoop_111 n S a1 a2 = some r) : W p l e { frames := 2, cells := 0, slots := 0, locals := 46 } s m args below meth c H locs 0 0 Q (F0 m 111 ls []) := by
  obtain ⟨hx, hb, hml, hown, hts, hK, hN, hA⟩ := id hC
  unfold f_X1_readLoop_111 at hf
  refine lv_aload_n hx hb dX1_readLoop_111 rfl (lv_at hl 0 rfl) ?_
  refine lv_iconst (v := (3 : Int32)) hx hb dX1_readLoop_112 (by decide) ?_
  refine lv_iload_n hx hb dX1_readLoop_113 rfl (lv_at hl 1 rfl) ?_
  refine lv_iload_n hx hb dX1_readLoop_114 rfl (lv_at hl 2 rfl) ?_
  refine lv_iconst (v := (1 : Int32)) hx hb dX1_readLoop_115 (by decide) ?_
  refine lv_iadd hx hb dX1_readLoop_116 ?_
  refine lv_iload_n hx hb dX1_readLoop_117 rfl (lv_at hl 2 rfl) ?_
  obtain ⟨v6, S, hc5, hf⟩ := x_b2_eq hf
  refine x_callV hC hI (c_X1_begin hc5) 2 1 rfl rfl kv_X1_121 rfl ⟨Nat.le_of_ble_eq_true rfl, Nat.le_of_ble_eq_true rfl⟩ ⟨Nat.le_refl _, Nat.le_refl _⟩ hl.1 rfl (Nat.le_of_ble_eq_true rfl) dX1_readLoop_118 (fun H locs hI => ?_)
  refine lv_istore_n (lv' := [(3, .int v6), (0, .ref (ad 199)), (1, .int a1), (2, .int a2)]) hx hb dX1_readLoop_121 rfl hl (by decide) rfl (fun ls hl => ?_)
  refine lv_aload_n hx hb dX1_readLoop_122 rfl (lv_at hl 1 rfl) ?_
  refine lv_iload_n hx hb dX1_readLoop_123 rfl (lv_at hl 0 rfl) ?_
  refine lv_iconst (v := (0 : Int32)) hx hb dX1_readLoop_124 (by decide) ?_
  refine lv_iload_n hx hb dX1_readLoop_125 rfl (lv_at hl 3 rfl) ?_
  refine lv_iload_n hx hb dX1_readLoop_126 rfl (lv_at hl 3 rfl) ?_
  refine lv_iconst (v := (1 : Int32)) hx hb dX1_readLoop_127 (by decide) ?_
  refine lv_iadd hx hb dX1_readLoop_128 ?_
  refine lv_iload_n hx hb dX1_readLoop_129 rfl (lv_at hl 2 rfl) ?_
  obtain ⟨S, hc7, hf⟩ := x_b_eq hf
  refine x_callV hC hI (c_X1_openBody hc7) 2 1 rfl rfl kv_X1_53 rfl ⟨Nat.le_of_ble_eq_true rfl, Nat.le_of_ble_eq_true rfl⟩ ⟨Nat.le_refl _, Nat.le_refl _⟩ hl.1 rfl (Nat.le_of_ble_eq_true rfl) dX1_readLoop_130 (fun H locs hI => ?_)
  refine lv_iload_n hx hb dX1_readLoop_133 rfl (lv_at hl 2 rfl) ?_
  obtain rfl := Option.some.inj hf
  exact hR _ _ _ _ hI dX1_readLoop_134
def f_X1_readLoop (n : Nat) (S : x_S) (a1 : Int32) (a2 : Int32) : Option (Int32 × x_S) :=
x_o (g_rf S 101) (
none) (fun i1 =>
x_g (i1 < g_np S) (
x_g (i1 < g_np S) (x_g (¬ (a2 < 0 ∨ 60 ≤ (a2).toNatClampNeg)) (x_let (g_pa S 0 i1 (a2).toNatClampNeg) (fun v2 =>
if v2 = (3 : Int32) then
x_b2 (f_X1_begin n S (5 : Int32) a1 (a2 + (1 : Int32)) a2) (fun v15 S =>
x_b (f_X1_wordTest n S a2) (fun S =>
x_b (f_X1_openBody n S v15 (0 : Int32) a2 (a2 + (1 : Int32)) a2) (fun S =>
some (a1, S))))
else
x_o (g_rf S 101) (
none) (fun i3 =>
x_g (i3 < g_np S) (
x_g (i3 < g_np S) (x_g (¬ (a1 < 0 ∨ 60 ≤ (a1).toNatClampNeg)) (x_let (g_pa S 0 i3 (a1).toNatClampNeg) (fun v4 =>
if v4 = (3 : Int32) then
x_o (g_rf S 101) (
none) (fun i8 =>
x_g (i8 < g_np S) (
x_g (i8 < g_np S) (x_g (¬ (a1 < 0 ∨ 60 ≤ (a1).toNatClampNeg)) (x_let (g_pa S 3 i8 (a1).toNatClampNeg) (fun v9 =>
if v9 = (a2 + (1 : Int32)) then
x_b2 (f_X1_begin n S (4 : Int32) a1 (a2 + (1 : Int32)) a2) (fun v11 S =>
x_g (¬ (a1 < 0 ∨ 60 ≤ (a1).toNatClampNeg)) (x_let (s_ar S 406 (a1).toNatClampNeg v11) (fun S =>
x_b (f_X1_wordTest n S a1) (fun S =>
x_b (f_X1_openBody n S v11 (0 : Int32) a2 (a2 + (1 : Int32)) a1) (fun S =>
some ((a1 + (1 : Int32)), S))))))
else
f_X1_readLoop_111 n S a1 a2)))))
else
f_X1_readLoop_111 n S a1 a2))))))))))
set_option maxHeartbeats 4000000 in
set_option maxRecDepth 100000 in
theorem w_X1_readLoop {r : Int32 × x_S} {a1 : Int32} {a2 : Int32} (hC : x_C p s m args meth c cX1_readLoop 4 RX1 E A) (hR : x_Ri p l e { frames := 2, cells := 0, slots := 0, locals := 46 } s m args below meth c cX1_readLoop E A Q (cw E ad ap r.2) r.1) (hI : x_I E A s.heap (cw E ad ap S) H locs) (hl : lv_has ls 4 [(0, .ref (ad 199)), (1, .int a1), (2, .int a2)]) (hf : f_X1_readLoop n S a1 a2 = some r) : W p l e { frames := 2, cells := 0, slots := 0, locals := 46 } s m args below meth c H locs 0 0 Q (F0 m 0 ls []) := by
  obtain ⟨hx, hb, hml, hown, hts, hK, hN, hA⟩ := id hC
  unfold f_X1_readLoop at hf
  refine lv_aload_n hx hb dX1_readLoop_0 rfl (lv_at hl 0 rfl) ?_
  refine gX1_1 hC hI lkf_X1_18 dX1_readLoop_1 ?_
  refine x_casesR hf (fun hf => ?_) (fun i1 hf => ?_)
  · cases hf
  · refine gX2_0 hC hI hf lkf_X1_102 dX1_readLoop_4 (fun hf => ?_)
    refine lv_iload_n hx hb dX1_readLoop_7 rfl (lv_at hl 2 rfl) ?_
    refine aX2_0 hC hI hf dX1_readLoop_8 (fun v2 hf => ?_)
    refine lv_iconst (v := (3 : Int32)) hx hb dX1_readLoop_9 (by decide) ?_
    refine x_ine hC 42 hf dX1_readLoop_10 (by decide) (fun hf => ?_) (fun hf => ?_)
    · refine lv_aload_n hx hb dX1_readLoop_42 rfl (lv_at hl 0 rfl) ?_
      refine gX1_1 hC hI lkf_X1_18 dX1_readLoop_43 ?_
      refine x_casesR hf (fun hf => ?_) (fun i3 hf => ?_)
      · cases hf
      · refine gX2_0 hC hI hf lkf_X1_102 dX1_readLoop_46 (fun hf => ?_)
        refine lv_iload_n hx hb dX1_readLoop_49 rfl (lv_at hl 1 rfl) ?_
        refine aX2_0 hC hI hf dX1_readLoop_50 (fun v4 hf => ?_)
        refine lv_iconst (v := (3 : Int32)) hx hb dX1_readLoop_51 (by decide) ?_
        refine x_ine hC 111 hf dX1_readLoop_52 (by decide) (fun hf => ?_) (fun hf => ?_)
        · exact w_X1_readLoop_111 hC hR hI (lv_sub hl [0, 1, 2] rfl) hf
        · refine lv_aload_n hx hb dX1_readLoop_55 rfl (lv_at hl 0 rfl) ?_
          refine gX1_1 hC hI lkf_X1_18 dX1_readLoop_56 ?_
          refine x_casesR hf (fun hf => ?_) (fun i8 hf => ?_)
          · cases hf
          · refine gX2_3 hC hI hf lkf_X1_128 dX1_readLoop_59 (fun hf => ?_)
            refine lv_iload_n hx hb dX1_readLoop_62 rfl (lv_at hl 1 rfl) ?_
            refine aX2_3 hC hI hf dX1_readLoop_63 (fun v9 hf => ?_)
            refine lv_iload_n hx hb dX1_readLoop_64 rfl (lv_at hl 2 rfl) ?_
            refine lv_iconst (v := (1 : Int32)) hx hb dX1_readLoop_65 (by decide) ?_
            refine lv_iadd hx hb dX1_readLoop_66 ?_
            refine x_ine hC 111 hf dX1_readLoop_67 (by decide) (fun hf => ?_) (fun hf => ?_)
            · exact w_X1_readLoop_111 hC hR hI (lv_sub hl [0, 1, 2] rfl) hf
            · refine lv_aload_n hx hb dX1_readLoop_70 rfl (lv_at hl 0 rfl) ?_
              refine lv_iconst (v := (4 : Int32)) hx hb dX1_readLoop_71 (by decide) ?_
              refine lv_iload_n hx hb dX1_readLoop_72 rfl (lv_at hl 1 rfl) ?_
              refine lv_iload_n hx hb dX1_readLoop_73 rfl (lv_at hl 2 rfl) ?_
              refine lv_iconst (v := (1 : Int32)) hx hb dX1_readLoop_74 (by decide) ?_
              refine lv_iadd hx hb dX1_readLoop_75 ?_
              refine lv_iload_n hx hb dX1_readLoop_76 rfl (lv_at hl 2 rfl) ?_
              obtain ⟨v11, S, hc10, hf⟩ := x_b2_eq hf
              refine x_callV hC hI (c_X1_begin hc10) 2 1 rfl rfl kv_X1_121 rfl ⟨Nat.le_of_ble_eq_true rfl, Nat.le_of_ble_eq_true rfl⟩ ⟨Nat.le_refl _, Nat.le_refl _⟩ hl.1 rfl (Nat.le_of_ble_eq_true rfl) dX1_readLoop_77 (fun H locs hI => ?_)
              refine lv_istore_n (lv' := [(3, .int v11), (0, .ref (ad 199)), (1, .int a1), (2, .int a2)]) hx hb dX1_readLoop_80 rfl hl (by decide) rfl (fun ls hl => ?_)
              refine lv_aload_n hx hb dX1_readLoop_81 rfl (lv_at hl 1 rfl) ?_
              refine gX1_0 hC hI lkf_X1_12 dX1_readLoop_82 ?_
              refine gX4_6 hC hI lkf_X1_131 dX1_readLoop_85 ?_
              refine lv_iload_n hx hb dX1_readLoop_88 rfl (lv_at hl 2 rfl) ?_
              refine lv_iload_n hx hb dX1_readLoop_89 rfl (lv_at hl 0 rfl) ?_
              refine tX4_6 hC hI hf dX1_readLoop_90 (fun S H locs hI hf => ?_)
              refine lv_aload_n hx hb dX1_readLoop_91 rfl (lv_at hl 1 rfl) ?_
              refine lv_iload_n hx hb dX1_readLoop_92 rfl (lv_at hl 2 rfl) ?_
              obtain ⟨S, hc12, hf⟩ := x_b_eq hf
              refine x_callV hC hI (c_X1_wordTest hc12) 2 1 rfl rfl kv_X1_125 rfl ⟨Nat.le_of_ble_eq_true rfl, Nat.le_of_ble_eq_true rfl⟩ ⟨Nat.le_refl _, Nat.le_refl _⟩ hl.1 rfl (Nat.le_of_ble_eq_true rfl) dX1_readLoop_93 (fun H locs hI => ?_)
              refine lv_aload_n hx hb dX1_readLoop_96 rfl (lv_at hl 1 rfl) ?_
              refine lv_iload_n hx hb dX1_readLoop_97 rfl (lv_at hl 0 rfl) ?_
              refine lv_iconst (v := (0 : Int32)) hx hb dX1_readLoop_98 (by decide) ?_
              refine lv_iload_n hx hb dX1_readLoop_99 rfl (lv_at hl 3 rfl) ?_
              refine lv_iload_n hx hb dX1_readLoop_100 rfl (lv_at hl 3 rfl) ?_
              refine lv_iconst (v := (1 : Int32)) hx hb dX1_readLoop_101 (by decide) ?_
              refine lv_iadd hx hb dX1_readLoop_102 ?_
              refine lv_iload_n hx hb dX1_readLoop_103 rfl (lv_at hl 2 rfl) ?_
              obtain ⟨S, hc13, hf⟩ := x_b_eq hf
              refine x_callV hC hI (c_X1_openBody hc13) 2 1 rfl rfl kv_X1_53 rfl ⟨Nat.le_of_ble_eq_true rfl, Nat.le_of_ble_eq_true rfl⟩ ⟨Nat.le_refl _, Nat.le_refl _⟩ hl.1 rfl (Nat.le_of_ble_eq_true rfl) dX1_readLoop_104 (fun H locs hI => ?_)
              refine lv_iload_n hx hb dX1_readLoop_107 rfl (lv_at hl 2 rfl) ?_
              refine lv_iconst (v := (1 : Int32)) hx hb dX1_readLoop_108 (by decide) ?_
              refine lv_iadd hx hb dX1_readLoop_109 ?_
              obtain rfl := Option.some.inj hf
              exact hR _ _ _ _ hI dX1_readLoop_110
    · refine lv_aload_n hx hb dX1_readLoop_13 rfl (lv_at hl 0 rfl) ?_
      refine lv_iconst (v := (5 : Int32)) hx hb dX1_readLoop_14 (by decide) ?_
      refine lv_iload_n hx hb dX1_readLoop_15 rfl (lv_at hl 1 rfl) ?_
      refine lv_iload_n hx hb dX1_readLoop_16 rfl (lv_at hl 2 rfl) ?_
      refine lv_iconst (v := (1 : Int32)) hx hb dX1_readLoop_17 (by decide) ?_
      refine lv_iadd hx hb dX1_readLoop_18 ?_
      refine lv_iload_n hx hb dX1_readLoop_19 rfl (lv_at hl 2 rfl) ?_
      obtain ⟨v15, S, hc14, hf⟩ := x_b2_eq hf
      refine x_callV hC hI (c_X1_begin hc14) 2 1 rfl rfl kv_X1_121 rfl ⟨Nat.le_of_ble_eq_true rfl, Nat.le_of_ble_eq_true rfl⟩ ⟨Nat.le_refl _, Nat.le_refl _⟩ hl.1 rfl (Nat.le_of_ble_eq_true rfl) dX1_readLoop_20 (fun H locs hI => ?_)
      refine lv_istore_n (lv' := [(3, .int v15), (0, .ref (ad 199)), (1, .int a1), (2, .int a2)]) hx hb dX1_readLoop_23 rfl hl (by decide) rfl (fun ls hl => ?_)
      refine lv_aload_n hx hb dX1_readLoop_24 rfl (lv_at hl 1 rfl) ?_
      refine lv_iload_n hx hb dX1_readLoop_25 rfl (lv_at hl 3 rfl) ?_
      obtain ⟨S, hc16, hf⟩ := x_b_eq hf
      refine x_callV hC hI (c_X1_wordTest hc16) 2 1 rfl rfl kv_X1_125 rfl ⟨Nat.le_of_ble_eq_true rfl, Nat.le_of_ble_eq_true rfl⟩ ⟨Nat.le_refl _, Nat.le_refl _⟩ hl.1 rfl (Nat.le_of_ble_eq_true rfl) dX1_readLoop_26 (fun H locs hI => ?_)
      refine lv_aload_n hx hb dX1_readLoop_29 rfl (lv_at hl 1 rfl) ?_
      refine lv_iload_n hx hb dX1_readLoop_30 rfl (lv_at hl 0 rfl) ?_
      refine lv_iconst (v := (0 : Int32)) hx hb dX1_readLoop_31 (by decide) ?_
      refine lv_iload_n hx hb dX1_readLoop_32 rfl (lv_at hl 3 rfl) ?_
      refine lv_iload_n hx hb dX1_readLoop_33 rfl (lv_at hl 3 rfl) ?_
      refine lv_iconst (v := (1 : Int32)) hx hb dX1_readLoop_34 (by decide) ?_
      refine lv_iadd hx hb dX1_readLoop_35 ?_
      refine lv_iload_n hx hb dX1_readLoop_36 rfl (lv_at hl 3 rfl) ?_
      obtain ⟨S, hc17, hf⟩ := x_b_eq hf
      refine x_callV hC hI (c_X1_openBody hc17) 2 1 rfl rfl kv_X1_53 rfl ⟨Nat.le_of_ble_eq_true rfl, Nat.le_of_ble_eq_true rfl⟩ ⟨Nat.le_refl _, Nat.le_refl _⟩ hl.1 rfl (Nat.le_of_ble_eq_true rfl) dX1_readLoop_37 (fun H locs hI => ?_)
      refine lv_iload_n hx hb dX1_readLoop_40 rfl (lv_at hl 2 rfl) ?_
      obtain rfl := Option.some.inj hf
      exact hR _ _ _ _ hI dX1_readLoop_41
theorem c_X1_readLoop {a1 : Int32} {a2 : Int32} {v : Int32} {S1 : x_S} (hf : f_X1_readLoop n S a1 a2 = some (v, S1)) : x_M l yX1_readLoop cX1_readLoop 4 (some .int) 2 46 E [.ref (ad 199), .int a1, .int a2] (cw E ad ap S) (cw E ad ap S1) (some (.int v)) :=
  x_entI (by decide) (Nat.le_of_ble_eq_true rfl) (fun p e s m args below meth c A Q ls hC hI hR hl => w_X1_readLoop (r := (v, S1)) hC hR hI hl hf)
-- X1_readStatement
def f_X1_readStatement_31 (n : Nat) (S : x_S) (a1 : Int32) (t0 : Int32) : Option (Int32 × x_S) :=
if t0 = (-1 : Int32) then
x_o (g_rf S 101) (
none) (fun i10 =>
x_g (i10 < g_np S) (
x_g (i10 < g_np S) (x_g (¬ (a1 < 0 ∨ 60 ≤ (a1).toNatClampNeg)) (x_let (g_pa S 0 i10 (a1).toNatClampNeg) (fun v11 =>
x_b (f_X6_isJump n v11) (fun v13 =>
if v13 = 0 then
x_b2 (f_X1_readAct n S a1) (fun v21 S =>
some (v21, S))
else
x_b2 (f_X1_isIf n S a1) (fun v15 S =>
if v15 = 0 then
x_b2 (f_X1_readLeap n S a1) (fun v17 S =>
some (v17, S))
else
x_b2 (f_X1_readIf n S a1) (fun v19 S =>
some (v19, S)))))))))
else
x_b2 (f_X1_readLoop n S a1 t0) (fun v23 S =>
some (v23, S))
set_option maxHeartbeats 4000000 in
set_option maxRecDepth 100000 in
theorem w_X1_readStatement_31 {r : Int32 × x_S} {a1 : Int32} {t0 : Int32} (hC : x_C p s m args meth c cX1_readStatement 3 RX1 E A) (hR : x_Ri p l e { frames := 3, cells := 0, slots := 0, locals := 72 } s m args below meth c cX1_readStatement E A Q (cw E ad ap r.2) r.1) (hI : x_I E A s.heap (cw E ad ap S) H locs) (hl : lv_has ls 3 [(0, .ref (ad 199)), (1, .int a1)]) (hf : f_X1_readStatement_31 n S a1 t0 = some r) : W p l e { frames := 3, cells := 0, slots := 0, locals := 72 } s m args below meth c H locs 0 0 Q (F0 m 31 ls [.int t0]) := by
  obtain ⟨hx, hb, hml, hown, hts, hK, hN, hA⟩ := id hC
  unfold f_X1_readStatement_31 at hf
  refine lv_istore_n (lv' := [(2, .int t0), (0, .ref (ad 199)), (1, .int a1)]) hx hb dX1_readStatement_31 rfl hl (by decide) rfl (fun ls hl => ?_)
  refine lv_iload_n hx hb dX1_readStatement_32 rfl (lv_at hl 0 rfl) ?_
  refine lv_iconst (v := (-1 : Int32)) hx hb dX1_readStatement_33 (by decide) ?_
  refine x_ieq hC 44 hf dX1_readStatement_34 (by decide) (fun hf => ?_) (fun hf => ?_)
  · refine lv_aload_n hx hb dX1_readStatement_44 rfl (lv_at hl 1 rfl) ?_
    refine gX1_1 hC hI lkf_X1_18 dX1_readStatement_45 ?_
    refine x_casesR hf (fun hf => ?_) (fun i10 hf => ?_)
    · cases hf
    · refine gX2_0 hC hI hf lkf_X1_102 dX1_readStatement_48 (fun hf => ?_)
      refine lv_iload_n hx hb dX1_readStatement_51 rfl (lv_at hl 2 rfl) ?_
      refine aX2_0 hC hI hf dX1_readStatement_52 (fun v11 hf => ?_)
      obtain ⟨v13, hc12, hf⟩ := x_b_eq hf
      refine x_callN hC hI (c_X6_isJump hc12) ks_X1_103 rfl ⟨Nat.le_of_ble_eq_true rfl, Nat.le_of_ble_eq_true rfl⟩ ⟨Nat.le_refl _, Nat.le_refl _⟩ hl.1 rfl (Nat.le_of_ble_eq_true rfl) dX1_readStatement_53 (fun H locs hI => ?_)
      refine x_ne0 hC 65 hf dX1_readStatement_56 (by decide) (fun hf => ?_) (fun hf => ?_)
      · refine lv_aload_n hx hb dX1_readStatement_65 rfl (lv_at hl 1 rfl) ?_
        refine lv_iload_n hx hb dX1_readStatement_66 rfl (lv_at hl 2 rfl) ?_
        obtain ⟨v15, S, hc14, hf⟩ := x_b2_eq hf
        refine x_callV hC hI (c_X1_isIf hc14) 2 1 rfl rfl kv_X1_109 rfl ⟨Nat.le_of_ble_eq_true rfl, Nat.le_of_ble_eq_true rfl⟩ ⟨Nat.le_refl _, Nat.le_refl _⟩ hl.1 rfl (Nat.le_of_ble_eq_true rfl) dX1_readStatement_67 (fun H locs hI => ?_)
        refine x_eq0 hC 81 hf dX1_readStatement_70 (by decide) (fun hf => ?_) (fun hf => ?_)
        · refine lv_aload_n hx hb dX1_readStatement_81 rfl (lv_at hl 1 rfl) ?_
          refine lv_iload_n hx hb dX1_readStatement_82 rfl (lv_at hl 2 rfl) ?_
          obtain ⟨v17, S, hc16, hf⟩ := x_b2_eq hf
          refine x_callV hC hI (c_X1_readLeap hc16) 2 1 rfl rfl kv_X1_115 rfl ⟨Nat.le_of_ble_eq_true rfl, Nat.le_of_ble_eq_true rfl⟩ ⟨Nat.le_refl _, Nat.le_refl _⟩ hl.1 rfl (Nat.le_of_ble_eq_true rfl) dX1_readStatement_83 (fun H locs hI => ?_)
          obtain rfl := Option.some.inj hf
          exact hR _ _ _ _ hI dX1_readStatement_86
        · refine lv_aload_n hx hb dX1_readStatement_73 rfl (lv_at hl 1 rfl) ?_
          refine lv_iload_n hx hb dX1_readStatement_74 rfl (lv_at hl 2 rfl) ?_
          obtain ⟨v19, S, hc18, hf⟩ := x_b2_eq hf
          refine x_callV hC hI (c_X1_readIf hc18) 2 1 rfl rfl kv_X1_112 rfl ⟨Nat.le_of_ble_eq_true rfl, Nat.le_of_ble_eq_true rfl⟩ ⟨Nat.le_refl _, Nat.le_refl _⟩ hl.1 rfl (Nat.le_of_ble_eq_true rfl) dX1_readStatement_75 (fun H locs hI => ?_)
          refine lv_goto (tgt := 86) hx hb dX1_readStatement_78 (by decide) ?_
          obtain rfl := Option.some.inj hf
          exact hR _ _ _ _ hI dX1_readStatement_86
      · refine lv_aload_n hx hb dX1_readStatement_59 rfl (lv_at hl 1 rfl) ?_
        refine lv_iload_n hx hb dX1_readStatement_60 rfl (lv_at hl 2 rfl) ?_
        obtain ⟨v21, S, hc20, hf⟩ := x_b2_eq hf
        refine x_callV hC hI (c_X1_readAct hc20) 2 1 rfl rfl kv_X1_106 rfl ⟨Nat.le_of_ble_eq_true rfl, Nat.le_of_ble_eq_true rfl⟩ ⟨Nat.le_refl _, Nat.le_refl _⟩ hl.1 rfl (Nat.le_of_ble_eq_true rfl) dX1_readStatement_61 (fun H locs hI => ?_)
        obtain rfl := Option.some.inj hf
        exact hR _ _ _ _ hI dX1_readStatement_64
  · refine lv_aload_n hx hb dX1_readStatement_37 rfl (lv_at hl 1 rfl) ?_
    refine lv_iload_n hx hb dX1_readStatement_38 rfl (lv_at hl 2 rfl) ?_
    refine lv_iload_n hx hb dX1_readStatement_39 rfl (lv_at hl 0 rfl) ?_
    obtain ⟨v23, S, hc22, hf⟩ := x_b2_eq hf
    refine x_callV hC hI (c_X1_readLoop hc22) 2 1 rfl rfl kv_X1_99 rfl ⟨Nat.le_of_ble_eq_true rfl, Nat.le_of_ble_eq_true rfl⟩ ⟨Nat.le_refl _, Nat.le_refl _⟩ hl.1 rfl (Nat.le_of_ble_eq_true rfl) dX1_readStatement_40 (fun H locs hI => ?_)
    obtain rfl := Option.some.inj hf
    exact hR _ _ _ _ hI dX1_readStatement_43
def f_X1_readStatement (n : Nat) (S : x_S) (a1 : Int32) : Option (Int32 × x_S) :=
x_b2 (f_X1_isLoopBegun n S a1) (fun v2 S =>
if v2 = 0 then
x_o (g_rf S 101) (
x_let (g_sc S 102) (fun v4 =>
x_g (¬ ((v4 - (1 : Int32)) < 0 ∨ 61 ≤ ((v4 - (1 : Int32))).toNatClampNeg)) (x_let (g_ar S 103 ((v4 - (1 : Int32))).toNatClampNeg) (fun v5 =>
none)))) (fun i3 =>
x_let (g_sc S 102) (fun v6 =>
x_g (¬ ((v6 - (1 : Int32)) < 0 ∨ 61 ≤ ((v6 - (1 : Int32))).toNatClampNeg)) (x_let (g_ar S 103 ((v6 - (1 : Int32))).toNatClampNeg) (fun v7 =>
x_g (i3 < g_np S) (x_b2 (f_X2_lastJumpTo n S i3 a1 v7) (fun v9 S =>
f_X1_readStatement_31 n S a1 v9))))))
else
f_X1_readStatement_31 n S a1 (-1 : Int32))
set_option maxHeartbeats 4000000 in
set_option maxRecDepth 100000 in
theorem w_X1_readStatement {r : Int32 × x_S} {a1 : Int32} (hC : x_C p s m args meth c cX1_readStatement 3 RX1 E A) (hR : x_Ri p l e { frames := 3, cells := 0, slots := 0, locals := 72 } s m args below meth c cX1_readStatement E A Q (cw E ad ap r.2) r.1) (hI : x_I E A s.heap (cw E ad ap S) H locs) (hl : lv_has ls 3 [(0, .ref (ad 199)), (1, .int a1)]) (hf : f_X1_readStatement n S a1 = some r) : W p l e { frames := 3, cells := 0, slots := 0, locals := 72 } s m args below meth c H locs 0 0 Q (F0 m 0 ls []) := by
  obtain ⟨hx, hb, hml, hown, hts, hK, hN, hA⟩ := id hC
  unfold f_X1_readStatement at hf
  refine lv_aload_n hx hb dX1_readStatement_0 rfl (lv_at hl 0 rfl) ?_
  refine lv_iload_n hx hb dX1_readStatement_1 rfl (lv_at hl 1 rfl) ?_
  obtain ⟨v2, S, hc1, hf⟩ := x_b2_eq hf
  refine x_callV hC hI (c_X1_isLoopBegun hc1) 2 1 rfl rfl kv_X1_92 rfl ⟨Nat.le_of_ble_eq_true rfl, Nat.le_of_ble_eq_true rfl⟩ ⟨Nat.le_refl _, Nat.le_refl _⟩ hl.1 rfl (Nat.le_of_ble_eq_true rfl) dX1_readStatement_2 (fun H locs hI => ?_)
  refine x_eq0 hC 12 hf dX1_readStatement_5 (by decide) (fun hf => ?_) (fun hf => ?_)
  · refine lv_aload_n hx hb dX1_readStatement_12 rfl (lv_at hl 0 rfl) ?_
    refine gX1_1 hC hI lkf_X1_18 dX1_readStatement_13 ?_
    refine x_casesR hf (fun hf => ?_) (fun i3 hf => ?_)
    · refine lv_iload_n hx hb dX1_readStatement_16 rfl (lv_at hl 1 rfl) ?_
      refine lv_aload_n hx hb dX1_readStatement_17 rfl (lv_at hl 0 rfl) ?_
      refine gX1_3 hC hI lkf_X1_26 dX1_readStatement_18 ?_
      refine lv_aload_n hx hb dX1_readStatement_21 rfl (lv_at hl 0 rfl) ?_
      refine gX1_2 hC hI hf lkf_X1_22 dX1_readStatement_22 (fun v4 hf => ?_)
      refine lv_iconst (v := (1 : Int32)) hx hb dX1_readStatement_25 (by decide) ?_
      refine lv_isub hx hb dX1_readStatement_26 ?_
      refine aX1_3 hC hI hf dX1_readStatement_27 (fun v5 hf => ?_)
      cases hf
    · refine lv_iload_n hx hb dX1_readStatement_16 rfl (lv_at hl 1 rfl) ?_
      refine lv_aload_n hx hb dX1_readStatement_17 rfl (lv_at hl 0 rfl) ?_
      refine gX1_3 hC hI lkf_X1_26 dX1_readStatement_18 ?_
      refine lv_aload_n hx hb dX1_readStatement_21 rfl (lv_at hl 0 rfl) ?_
      refine gX1_2 hC hI hf lkf_X1_22 dX1_readStatement_22 (fun v6 hf => ?_)
      refine lv_iconst (v := (1 : Int32)) hx hb dX1_readStatement_25 (by decide) ?_
      refine lv_isub hx hb dX1_readStatement_26 ?_
      refine aX1_3 hC hI hf dX1_readStatement_27 (fun v7 hf => ?_)
      obtain ⟨h9, hf⟩ := x_g_eq hf
      obtain ⟨v9, S, hc8, hf⟩ := x_b2_eq hf
      refine x_callV hC hI (c_X2_lastJumpTo hc8) (36 + (5 * i3 + 0)) 2 (x_cw_get E ad ap _ i3 0 (by decide) h9) rfl kv_X1_96 rfl ⟨Nat.le_of_ble_eq_true rfl, Nat.le_of_ble_eq_true rfl⟩ ⟨Nat.le_refl _, Nat.le_refl _⟩ hl.1 rfl (Nat.le_of_ble_eq_true rfl) dX1_readStatement_28 (fun H locs hI => ?_)
      exact w_X1_readStatement_31 hC hR hI (lv_sub hl [0, 1] rfl) hf
  · refine lv_iconst (v := (-1 : Int32)) hx hb dX1_readStatement_8 (by decide) ?_
    refine lv_goto (tgt := 31) hx hb dX1_readStatement_9 (by decide) ?_
    exact w_X1_readStatement_31 hC hR hI (lv_sub hl [0, 1] rfl) hf
theorem c_X1_readStatement {a1 : Int32} {v : Int32} {S1 : x_S} (hf : f_X1_readStatement n S a1 = some (v, S1)) : x_M l yX1_readStatement cX1_readStatement 3 (some .int) 3 72 E [.ref (ad 199), .int a1] (cw E ad ap S) (cw E ad ap S1) (some (.int v)) :=
  x_entI (by decide) (Nat.le_of_ble_eq_true rfl) (fun p e s m args below meth c A Q ls hC hI hR hl => w_X1_readStatement (r := (v, S1)) hC hR hI hl hf)
-- X1_readWhole
def f_X1_readWhole_75 (n : Nat) (rec33 : x_S × Int32 × Int32 → Option (x_S)) (S : x_S) (a3 : Int32) (t0 : Int32) : Option (x_S) :=
rec33 (S, t0, (a3 + (1 : Int32)))
set_option maxHeartbeats 4000000 in
set_option maxRecDepth 100000 in
theorem w_X1_readWhole_75 {r : x_S} {a3 : Int32} {t0 : Int32} {rec33 : x_S × Int32 × Int32 → Option (x_S)} (hC : x_C p s m args meth c cX1_readWhole 4 RX1 E A) (hR : x_Rv p l e { frames := 4, cells := 0, slots := 0, locals := 94 } s m args below meth c cX1_readWhole E A Q (cw E ad ap r)) (hrec33 : ∀ z : x_S × Int32 × Int32, rec33 z = some r → ∀ (H : Heap) (locs : List Loc) (ls : Array Slot), x_I E A s.heap (cw E ad ap z.1) H locs → lv_has ls 4 [(0, .ref (ad 199)), (2, .int z.2.1), (3, .int z.2.2)] → W p l e { frames := 4, cells := 0, slots := 0, locals := 94 } s m args below meth c H locs 0 0 Q (F0 m 33 ls [])) (hI : x_I E A s.heap (cw E ad ap S) H locs) (hl : lv_has ls 4 [(0, .ref (ad 199)), (3, .int a3)]) (hf : f_X1_readWhole_75 n rec33 S a3 t0 = some r) : W p l e { frames := 4, cells := 0, slots := 0, locals := 94 } s m args below meth c H locs 0 0 Q (F0 m 75 ls [.int t0]) := by
  obtain ⟨hx, hb, hml, hown, hts, hK, hN, hA⟩ := id hC
  unfold f_X1_readWhole_75 at hf
  refine lv_istore_n (lv' := [(2, .int t0), (0, .ref (ad 199)), (3, .int a3)]) hx hb dX1_readWhole_75 rfl hl (by decide) rfl (fun ls hl => ?_)
  refine lv_iinc (v := (a3 + (1 : Int32))) (lv' := [(3, .int (a3 + (1 : Int32))), (2, .int t0), (0, .ref (ad 199))]) hx hb dX1_readWhole_76 hl (k := 2) rfl rfl (by decide) rfl (fun ls hl => ?_)
  refine lv_goto (tgt := 33) hx hb dX1_readWhole_79 (by decide) ?_
  exact hrec33 _ hf _ _ _ hI (lv_sub hl [2, 1, 0] rfl)
def f_X1_readWhole_33 (n : Nat) (rec33 : x_S × Int32 × Int32 → Option (x_S)) (S : x_S) (a2 : Int32) (a3 : Int32) : Option (x_S) :=
if (181 : Int32) ≤ a3 then
some S
else
x_let (g_sc S 102) (fun v4 =>
if v4 ≤ 0 then
some S
else
x_let (g_sc S 102) (fun v5 =>
x_g (¬ ((v5 - (1 : Int32)) < 0 ∨ 61 ≤ ((v5 - (1 : Int32))).toNatClampNeg)) (x_let (g_ar S 103 ((v5 - (1 : Int32))).toNatClampNeg) (fun v6 =>
if v6 ≤ a2 then
x_b2 (f_X1_closeBody n S a2) (fun v8 S =>
f_X1_readWhole_75 n rec33 S a3 v8)
else
x_b2 (f_X1_readStatement n S a2) (fun v10 S =>
f_X1_readWhole_75 n rec33 S a3 v10)))))
set_option maxHeartbeats 4000000 in
set_option maxRecDepth 100000 in
theorem w_X1_readWhole_33 {r : x_S} {a2 : Int32} {a3 : Int32} {rec33 : x_S × Int32 × Int32 → Option (x_S)} (hC : x_C p s m args meth c cX1_readWhole 4 RX1 E A) (hR : x_Rv p l e { frames := 4, cells := 0, slots := 0, locals := 94 } s m args below meth c cX1_readWhole E A Q (cw E ad ap r)) (hrec33 : ∀ z : x_S × Int32 × Int32, rec33 z = some r → ∀ (H : Heap) (locs : List Loc) (ls : Array Slot), x_I E A s.heap (cw E ad ap z.1) H locs → lv_has ls 4 [(0, .ref (ad 199)), (2, .int z.2.1), (3, .int z.2.2)] → W p l e { frames := 4, cells := 0, slots := 0, locals := 94 } s m args below meth c H locs 0 0 Q (F0 m 33 ls [])) (hI : x_I E A s.heap (cw E ad ap S) H locs) (hl : lv_has ls 4 [(0, .ref (ad 199)), (2, .int a2), (3, .int a3)]) (hf : f_X1_readWhole_33 n rec33 S a2 a3 = some r) : W p l e { frames := 4, cells := 0, slots := 0, locals := 94 } s m args below meth c H locs 0 0 Q (F0 m 33 ls []) := by
  obtain ⟨hx, hb, hml, hown, hts, hK, hN, hA⟩ := id hC
  unfold f_X1_readWhole_33 at hf
  refine lv_iload_n hx hb dX1_readWhole_33 rfl (lv_at hl 2 rfl) ?_
  refine lv_sipush (v := (181 : Int32)) hx hb dX1_readWhole_34 (by decide) ?_
  refine x_ige hC 82 hf dX1_readWhole_37 (by decide) (fun hf => ?_) (fun hf => ?_)
  · obtain rfl := Option.some.inj hf
    exact hR _ _ _ _ hI dX1_readWhole_82
  · refine lv_aload_n hx hb dX1_readWhole_40 rfl (lv_at hl 0 rfl) ?_
    refine gX1_2 hC hI hf lkf_X1_22 dX1_readWhole_41 (fun v4 hf => ?_)
    refine x_le0 hC 82 hf dX1_readWhole_44 (by decide) (fun hf => ?_) (fun hf => ?_)
    · obtain rfl := Option.some.inj hf
      exact hR _ _ _ _ hI dX1_readWhole_82
    · refine lv_iload_n hx hb dX1_readWhole_47 rfl (lv_at hl 1 rfl) ?_
      refine lv_aload_n hx hb dX1_readWhole_48 rfl (lv_at hl 0 rfl) ?_
      refine gX1_3 hC hI lkf_X1_26 dX1_readWhole_49 ?_
      refine lv_aload_n hx hb dX1_readWhole_52 rfl (lv_at hl 0 rfl) ?_
      refine gX1_2 hC hI hf lkf_X1_22 dX1_readWhole_53 (fun v5 hf => ?_)
      refine lv_iconst (v := (1 : Int32)) hx hb dX1_readWhole_56 (by decide) ?_
      refine lv_isub hx hb dX1_readWhole_57 ?_
      refine aX1_3 hC hI hf dX1_readWhole_58 (fun v6 hf => ?_)
      refine x_ige hC 70 hf dX1_readWhole_59 (by decide) (fun hf => ?_) (fun hf => ?_)
      · refine lv_aload_n hx hb dX1_readWhole_70 rfl (lv_at hl 0 rfl) ?_
        refine lv_iload_n hx hb dX1_readWhole_71 rfl (lv_at hl 1 rfl) ?_
        obtain ⟨v8, S, hc7, hf⟩ := x_b2_eq hf
        refine x_callV hC hI (c_X1_closeBody hc7) 2 1 rfl rfl kv_X1_61 rfl ⟨Nat.le_of_ble_eq_true rfl, Nat.le_of_ble_eq_true rfl⟩ ⟨Nat.le_refl _, Nat.le_refl _⟩ hl.1 rfl (Nat.le_of_ble_eq_true rfl) dX1_readWhole_72 (fun H locs hI => ?_)
        exact w_X1_readWhole_75 hC hR hrec33 hI (lv_sub hl [0, 2] rfl) hf
      · refine lv_aload_n hx hb dX1_readWhole_62 rfl (lv_at hl 0 rfl) ?_
        refine lv_iload_n hx hb dX1_readWhole_63 rfl (lv_at hl 1 rfl) ?_
        obtain ⟨v10, S, hc9, hf⟩ := x_b2_eq hf
        refine x_callV hC hI (c_X1_readStatement hc9) 2 1 rfl rfl kv_X1_57 rfl ⟨Nat.le_of_ble_eq_true rfl, Nat.le_of_ble_eq_true rfl⟩ ⟨Nat.le_refl _, Nat.le_refl _⟩ hl.1 rfl (Nat.le_of_ble_eq_true rfl) dX1_readWhole_64 (fun H locs hI => ?_)
        refine lv_goto (tgt := 75) hx hb dX1_readWhole_67 (by decide) ?_
        exact w_X1_readWhole_75 hC hR hrec33 hI (lv_sub hl [0, 2] rfl) hf
theorem w_X1_readWhole_33_loop {r : x_S} (hC : x_C p s m args meth c cX1_readWhole 4 RX1 E A) (hR : x_Rv p l e { frames := 4, cells := 0, slots := 0, locals := 94 } s m args below meth c cX1_readWhole E A Q (cw E ad ap r)) : ∀ (k : Nat) (z : x_S × Int32 × Int32), x_loop (fun rec z => f_X1_readWhole_33 n rec z.1 z.2.1 z.2.2) k z = some r → ∀ (H : Heap) (locs : List Loc) (ls : Array Slot), x_I E A s.heap (cw E ad ap z.1) H locs → lv_has ls 4 [(0, .ref (ad 199)), (2, .int z.2.1), (3, .int z.2.2)] → W p l e { frames := 4, cells := 0, slots := 0, locals := 94 } s m args below meth c H locs 0 0 Q (F0 m 33 ls []) :=
  x_loop_ind (P := fun (z : x_S × Int32 × Int32) => ∀ (H : Heap) (locs : List Loc) (ls : Array Slot), x_I E A s.heap (cw E ad ap z.1) H locs → lv_has ls 4 [(0, .ref (ad 199)), (2, .int z.2.1), (3, .int z.2.2)] → W p l e { frames := 4, cells := 0, slots := 0, locals := 94 } s m args below meth c H locs 0 0 Q (F0 m 33 ls [])) (fun rec hrec z hf H locs ls hI hl => w_X1_readWhole_33 hC hR hrec hI hl hf)
def f_X1_readWhole (n : Nat) (S : x_S) (a1 : Nat) : Option (x_S) :=
x_let (s_rf S 101 (some a1)) (fun S =>
x_b (f_X4_empty n S) (fun S =>
x_let (s_sc S 102 (0 : Int32)) (fun S =>
x_g (a1 < g_np S) (x_let (g_ps S 4 a1) (fun v2 =>
x_b (f_X1_openBody n S (-1 : Int32) (-1 : Int32) v2 (-1 : Int32) (-1 : Int32)) (fun S =>
x_loop (fun rec z => f_X1_readWhole_33 n rec z.1 z.2.1 z.2.2) n (S, (0 : Int32), (0 : Int32))))))))
set_option maxHeartbeats 4000000 in
set_option maxRecDepth 100000 in
theorem w_X1_readWhole {r : x_S} {a1 : Nat} (hC : x_C p s m args meth c cX1_readWhole 4 RX1 E A) (hR : x_Rv p l e { frames := 4, cells := 0, slots := 0, locals := 94 } s m args below meth c cX1_readWhole E A Q (cw E ad ap r)) (hI : x_I E A s.heap (cw E ad ap S) H locs) (hl : lv_has ls 4 [(0, .ref (ad 199)), (1, .ref (ap a1 0))]) (hf : f_X1_readWhole n S a1 = some r) : W p l e { frames := 4, cells := 0, slots := 0, locals := 94 } s m args below meth c H locs 0 0 Q (F0 m 0 ls []) := by
  obtain ⟨hx, hb, hml, hown, hts, hK, hN, hA⟩ := id hC
  unfold f_X1_readWhole at hf
  refine lv_aload_n hx hb dX1_readWhole_0 rfl (lv_at hl 0 rfl) ?_
  refine lv_aload_n hx hb dX1_readWhole_1 rfl (lv_at hl 1 rfl) ?_
  refine pX1_1 hC hI hf lkf_X1_18 dX1_readWhole_2 (fun S H locs hI hf => ?_)
  refine lv_aload_n hx hb dX1_readWhole_5 rfl (lv_at hl 0 rfl) ?_
  refine gX1_0 hC hI lkf_X1_12 dX1_readWhole_6 ?_
  obtain ⟨S, hc1, hf⟩ := x_b_eq hf
  refine x_callV hC hI (c_X4_empty hc1) 4 4 rfl rfl kv_X1_45 rfl ⟨Nat.le_of_ble_eq_true rfl, Nat.le_of_ble_eq_true rfl⟩ ⟨Nat.le_refl _, Nat.le_refl _⟩ hl.1 rfl (Nat.le_of_ble_eq_true rfl) dX1_readWhole_9 (fun H locs hI => ?_)
  refine lv_aload_n hx hb dX1_readWhole_12 rfl (lv_at hl 0 rfl) ?_
  refine lv_iconst (v := (0 : Int32)) hx hb dX1_readWhole_13 (by decide) ?_
  refine pX1_2 hC hI hf lkf_X1_22 dX1_readWhole_14 (fun S H locs hI hf => ?_)
  refine lv_aload_n hx hb dX1_readWhole_17 rfl (lv_at hl 0 rfl) ?_
  refine lv_iconst (v := (-1 : Int32)) hx hb dX1_readWhole_18 (by decide) ?_
  refine lv_iconst (v := (-1 : Int32)) hx hb dX1_readWhole_19 (by decide) ?_
  refine lv_aload_n hx hb dX1_readWhole_20 rfl (lv_at hl 1 rfl) ?_
  refine gX2_4 hC hI hf lkf_X1_48 dX1_readWhole_21 (fun v2 hf => ?_)
  refine lv_iconst (v := (-1 : Int32)) hx hb dX1_readWhole_24 (by decide) ?_
  refine lv_iconst (v := (-1 : Int32)) hx hb dX1_readWhole_25 (by decide) ?_
  obtain ⟨S, hc3, hf⟩ := x_b_eq hf
  refine x_callV hC hI (c_X1_openBody hc3) 2 1 rfl rfl kv_X1_53 rfl ⟨Nat.le_of_ble_eq_true rfl, Nat.le_of_ble_eq_true rfl⟩ ⟨Nat.le_refl _, Nat.le_refl _⟩ hl.1 rfl (Nat.le_of_ble_eq_true rfl) dX1_readWhole_26 (fun H locs hI => ?_)
  refine lv_iconst (v := (0 : Int32)) hx hb dX1_readWhole_29 (by decide) ?_
  refine lv_istore_n (lv' := [(2, .int (0 : Int32)), (0, .ref (ad 199)), (1, .ref (ap a1 0))]) hx hb dX1_readWhole_30 rfl hl (by decide) rfl (fun ls hl => ?_)
  refine lv_iconst (v := (0 : Int32)) hx hb dX1_readWhole_31 (by decide) ?_
  refine lv_istore_n (lv' := [(3, .int (0 : Int32)), (2, .int (0 : Int32)), (0, .ref (ad 199)), (1, .ref (ap a1 0))]) hx hb dX1_readWhole_32 rfl hl (by decide) rfl (fun ls hl => ?_)
  exact w_X1_readWhole_33_loop hC hR _ _ hf _ _ _ hI (lv_sub hl [2, 1, 0] rfl)
theorem c_X1_readWhole {a1 : Nat} {S1 : x_S} (hf : f_X1_readWhole n S a1 = some S1) : x_M l yX1_readWhole cX1_readWhole 4 none 4 94 E [.ref (ad 199), .ref (ap a1 0)] (cw E ad ap S) (cw E ad ap S1) none :=
  x_entV (by decide) (Nat.le_of_ble_eq_true rfl) (fun p e s m args below meth c A Q ls hC hI hR hl => w_X1_readWhole (r := S1) hC hR hI hl hf)
-- X6_treeOf
def f_X6_treeOf (n : Nat) (S : x_S) (a1 : Int32) (a2 : Nat) : Option (x_S) :=
x_let (g_sc S 603) (fun v1 =>
if v1 = a1 then
some S
else
x_b (f_X1_readWhole n S a2) (fun S =>
x_let (s_sc S 603 a1) (fun S =>
some S)))
set_option maxHeartbeats 4000000 in
set_option maxRecDepth 100000 in
theorem w_X6_treeOf {r : x_S} {a1 : Int32} {a2 : Nat} (hC : x_C p s m args meth c cX6_treeOf 3 RX6 E A) (hR : x_Ra p l e { frames := 5, cells := 0, slots := 0, locals := 117 } s m args below meth c cX6_treeOf E A Q (cw E ad ap r) (some (ad 499))) (hI : x_I E A s.heap (cw E ad ap S) H locs) (hl : lv_has ls 3 [(0, .ref (ad 699)), (1, .int a1), (2, .ref (ap a2 0))]) (hf : f_X6_treeOf n S a1 a2 = some r) : W p l e { frames := 5, cells := 0, slots := 0, locals := 117 } s m args below meth c H locs 0 0 Q (F0 m 0 ls []) := by
  obtain ⟨hx, hb, hml, hown, hts, hK, hN, hA⟩ := id hC
  unfold f_X6_treeOf at hf
  refine lv_aload_n hx hb dX6_treeOf_0 rfl (lv_at hl 0 rfl) ?_
  refine gX6_3 hC hI hf lkf_X6_26 dX6_treeOf_1 (fun v1 hf => ?_)
  refine lv_iload_n hx hb dX6_treeOf_4 rfl (lv_at hl 1 rfl) ?_
  refine x_ieq hC 21 hf dX6_treeOf_5 (by decide) (fun hf => ?_) (fun hf => ?_)
  · refine lv_aload_n hx hb dX6_treeOf_21 rfl (lv_at hl 0 rfl) ?_
    refine gX6_2 hC hI lkf_X6_22 dX6_treeOf_22 ?_
    refine gX1_0 hC hI lkf_X6_201 dX6_treeOf_25 ?_
    obtain rfl := Option.some.inj hf
    exact hR _ _ _ _ hI dX6_treeOf_28
  · refine lv_aload_n hx hb dX6_treeOf_8 rfl (lv_at hl 0 rfl) ?_
    refine gX6_2 hC hI lkf_X6_22 dX6_treeOf_9 ?_
    refine lv_aload_n hx hb dX6_treeOf_12 rfl (lv_at hl 2 rfl) ?_
    obtain ⟨S, hc2, hf⟩ := x_b_eq hf
    refine x_callV hC hI (c_X1_readWhole hc2) 2 1 rfl rfl kv_X6_198 rfl ⟨Nat.le_of_ble_eq_true rfl, Nat.le_of_ble_eq_true rfl⟩ ⟨Nat.le_refl _, Nat.le_refl _⟩ hl.1 rfl (Nat.le_of_ble_eq_true rfl) dX6_treeOf_13 (fun H locs hI => ?_)
    refine lv_aload_n hx hb dX6_treeOf_16 rfl (lv_at hl 0 rfl) ?_
    refine lv_iload_n hx hb dX6_treeOf_17 rfl (lv_at hl 1 rfl) ?_
    refine pX6_3 hC hI hf lkf_X6_26 dX6_treeOf_18 (fun S H locs hI hf => ?_)
    refine lv_aload_n hx hb dX6_treeOf_21 rfl (lv_at hl 0 rfl) ?_
    refine gX6_2 hC hI lkf_X6_22 dX6_treeOf_22 ?_
    refine gX1_0 hC hI lkf_X6_201 dX6_treeOf_25 ?_
    obtain rfl := Option.some.inj hf
    exact hR _ _ _ _ hI dX6_treeOf_28
theorem c_X6_treeOf {a1 : Int32} {a2 : Nat} {S1 : x_S} (hf : f_X6_treeOf n S a1 a2 = some S1) : x_M l yX6_treeOf cX6_treeOf 3 (some (.object "StoryDecompile$Tree")) 5 117 E [.ref (ad 699), .int a1, .ref (ap a2 0)] (cw E ad ap S) (cw E ad ap S1) (some (.ref (ad 499))) :=
  x_entA (o := some (ad 499)) (by decide) (Nat.le_of_ble_eq_true rfl) (fun p e s m args below meth c A Q ls hC hI hR hl => w_X6_treeOf (r := S1) hC hR hI hl hf)
-- X0_meet
def f_X0_meet (n : Nat) (S : x_S) (a1 : Nat) (a2 : Int32) : Option (x_S) :=
x_g (a1 < g_np S) (x_b2 (f_X2_has n S a1 a2) (fun v2 S =>
if v2 = 0 then
some S
else
x_g (¬ (a2 < 0 ∨ 60 ≤ (a2).toNatClampNeg)) (x_let (g_ar S 0 (a2).toNatClampNeg) (fun v3 =>
if v3 = 0 then
x_g (¬ (a2 < 0 ∨ 60 ≤ (a2).toNatClampNeg)) (x_let (s_ar S 0 (a2).toNatClampNeg (1 : Int32)) (fun S =>
x_let (g_sc S 3) (fun v4 =>
x_let (s_sc S 3 (v4 + (1 : Int32))) (fun S =>
x_let (g_sc S 2) (fun v5 =>
x_g (¬ (v5 < 0 ∨ 60 ≤ (v5).toNatClampNeg)) (x_let (s_ar S 1 (v5).toNatClampNeg a2) (fun S =>
x_let (g_sc S 2) (fun v6 =>
x_let (s_sc S 2 (v6 + (1 : Int32))) (fun S =>
some S)))))))))
else
some S))))
set_option maxHeartbeats 4000000 in
set_option maxRecDepth 100000 in
theorem w_X0_meet {r : x_S} {a1 : Nat} {a2 : Int32} (hC : x_C p s m args meth c cX0_meet 3 RX0 E A) (hR : x_Rv p l e { frames := 1, cells := 0, slots := 0, locals := 21 } s m args below meth c cX0_meet E A Q (cw E ad ap r)) (hI : x_I E A s.heap (cw E ad ap S) H locs) (hl : lv_has ls 3 [(0, .ref (ad 99)), (1, .ref (ap a1 0)), (2, .int a2)]) (hf : f_X0_meet n S a1 a2 = some r) : W p l e { frames := 1, cells := 0, slots := 0, locals := 21 } s m args below meth c H locs 0 0 Q (F0 m 0 ls []) := by
  obtain ⟨hx, hb, hml, hown, hts, hK, hN, hA⟩ := id hC
  unfold f_X0_meet at hf
  refine lv_aload_n hx hb dX0_meet_0 rfl (lv_at hl 1 rfl) ?_
  refine lv_iload_n hx hb dX0_meet_1 rfl (lv_at hl 2 rfl) ?_
  obtain ⟨h9, hf⟩ := x_g_eq hf
  obtain ⟨v2, S, hc1, hf⟩ := x_b2_eq hf
  refine x_callV hC hI (c_X2_has hc1) (36 + (5 * a1 + 0)) 2 (x_cw_get E ad ap _ a1 0 (by decide) h9) rfl kv_X0_44 rfl ⟨Nat.le_of_ble_eq_true rfl, Nat.le_of_ble_eq_true rfl⟩ ⟨Nat.le_refl _, Nat.le_refl _⟩ hl.1 rfl (Nat.le_of_ble_eq_true rfl) dX0_meet_2 (fun H locs hI => ?_)
  refine x_eq0 hC 54 hf dX0_meet_5 (by decide) (fun hf => ?_) (fun hf => ?_)
  · obtain rfl := Option.some.inj hf
    exact hR _ _ _ _ hI dX0_meet_54
  · refine lv_aload_n hx hb dX0_meet_8 rfl (lv_at hl 0 rfl) ?_
    refine gX0_0 hC hI lkf_X0_9 dX0_meet_9 ?_
    refine lv_iload_n hx hb dX0_meet_12 rfl (lv_at hl 2 rfl) ?_
    refine aX0_0 hC hI hf dX0_meet_13 (fun v3 hf => ?_)
    refine x_ne0 hC 54 hf dX0_meet_14 (by decide) (fun hf => ?_) (fun hf => ?_)
    · obtain rfl := Option.some.inj hf
      exact hR _ _ _ _ hI dX0_meet_54
    · refine lv_aload_n hx hb dX0_meet_17 rfl (lv_at hl 0 rfl) ?_
      refine gX0_0 hC hI lkf_X0_9 dX0_meet_18 ?_
      refine lv_iload_n hx hb dX0_meet_21 rfl (lv_at hl 2 rfl) ?_
      refine lv_iconst (v := (1 : Int32)) hx hb dX0_meet_22 (by decide) ?_
      refine tX0_0 hC hI hf dX0_meet_23 (fun S H locs hI hf => ?_)
      refine lv_aload_n hx hb dX0_meet_24 rfl (lv_at hl 0 rfl) ?_
      refine lv_dup hx hb dX0_meet_25 rfl ?_
      refine gX0_3 hC hI hf lkf_X0_22 dX0_meet_26 (fun v4 hf => ?_)
      refine lv_iconst (v := (1 : Int32)) hx hb dX0_meet_29 (by decide) ?_
      refine lv_iadd hx hb dX0_meet_30 ?_
      refine pX0_3 hC hI hf lkf_X0_22 dX0_meet_31 (fun S H locs hI hf => ?_)
      refine lv_aload_n hx hb dX0_meet_34 rfl (lv_at hl 0 rfl) ?_
      refine gX0_1 hC hI lkf_X0_15 dX0_meet_35 ?_
      refine lv_aload_n hx hb dX0_meet_38 rfl (lv_at hl 0 rfl) ?_
      refine gX0_2 hC hI hf lkf_X0_18 dX0_meet_39 (fun v5 hf => ?_)
      refine lv_iload_n hx hb dX0_meet_42 rfl (lv_at hl 2 rfl) ?_
      refine tX0_1 hC hI hf dX0_meet_43 (fun S H locs hI hf => ?_)
      refine lv_aload_n hx hb dX0_meet_44 rfl (lv_at hl 0 rfl) ?_
      refine lv_dup hx hb dX0_meet_45 rfl ?_
      refine gX0_2 hC hI hf lkf_X0_18 dX0_meet_46 (fun v6 hf => ?_)
      refine lv_iconst (v := (1 : Int32)) hx hb dX0_meet_49 (by decide) ?_
      refine lv_iadd hx hb dX0_meet_50 ?_
      refine pX0_2 hC hI hf lkf_X0_18 dX0_meet_51 (fun S H locs hI hf => ?_)
      obtain rfl := Option.some.inj hf
      exact hR _ _ _ _ hI dX0_meet_54
theorem c_X0_meet {a1 : Nat} {a2 : Int32} {S1 : x_S} (hf : f_X0_meet n S a1 a2 = some S1) : x_M l yX0_meet cX0_meet 3 none 1 21 E [.ref (ad 99), .ref (ap a1 0), .int a2] (cw E ad ap S) (cw E ad ap S1) none :=
  x_entV (by decide) (Nat.le_of_ble_eq_true rfl) (fun p e s m args below meth c A Q ls hC hI hR hl => w_X0_meet (r := S1) hC hR hI hl hf)
-- X0_follow
def f_X0_follow_25 (n : Nat) (S : x_S) (a1 : Nat) (a2 : Int32) (a3 : Int32) : Option (x_S) :=
if a3 = (2 : Int32) then
some S
else
if a3 = (4 : Int32) then
some S
else
x_b (f_X0_meet n S a1 (a2 + (1 : Int32))) (fun S =>
some S)
set_option maxHeartbeats 4000000 in
set_option maxRecDepth 100000 in
theorem w_X0_follow_25 {r : x_S} {a1 : Nat} {a2 : Int32} {a3 : Int32} (hC : x_C p s m args meth c cX0_follow 4 RX0 E A) (hR : x_Rv p l e { frames := 2, cells := 0, slots := 0, locals := 43 } s m args below meth c cX0_follow E A Q (cw E ad ap r)) (hI : x_I E A s.heap (cw E ad ap S) H locs) (hl : lv_has ls 4 [(0, .ref (ad 99)), (1, .ref (ap a1 0)), (2, .int a2), (3, .int a3)]) (hf : f_X0_follow_25 n S a1 a2 a3 = some r) : W p l e { frames := 2, cells := 0, slots := 0, locals := 43 } s m args below meth c H locs 0 0 Q (F0 m 25 ls []) := by
  obtain ⟨hx, hb, hml, hown, hts, hK, hN, hA⟩ := id hC
  unfold f_X0_follow_25 at hf
  refine lv_iload_n hx hb dX0_follow_25 rfl (lv_at hl 3 rfl) ?_
  refine lv_iconst (v := (2 : Int32)) hx hb dX0_follow_26 (by decide) ?_
  refine x_ieq hC 43 hf dX0_follow_27 (by decide) (fun hf => ?_) (fun hf => ?_)
  · obtain rfl := Option.some.inj hf
    exact hR _ _ _ _ hI dX0_follow_43
  · refine lv_iload_n hx hb dX0_follow_30 rfl (lv_at hl 3 rfl) ?_
    refine lv_iconst (v := (4 : Int32)) hx hb dX0_follow_31 (by decide) ?_
    refine x_ieq hC 43 hf dX0_follow_32 (by decide) (fun hf => ?_) (fun hf => ?_)
    · obtain rfl := Option.some.inj hf
      exact hR _ _ _ _ hI dX0_follow_43
    · refine lv_aload_n hx hb dX0_follow_35 rfl (lv_at hl 0 rfl) ?_
      refine lv_aload_n hx hb dX0_follow_36 rfl (lv_at hl 1 rfl) ?_
      refine lv_iload_n hx hb dX0_follow_37 rfl (lv_at hl 2 rfl) ?_
      refine lv_iconst (v := (1 : Int32)) hx hb dX0_follow_38 (by decide) ?_
      refine lv_iadd hx hb dX0_follow_39 ?_
      obtain ⟨S, hc4, hf⟩ := x_b_eq hf
      refine x_callV hC hI (c_X0_meet hc4) 1 0 rfl rfl kv_X0_25 rfl ⟨Nat.le_of_ble_eq_true rfl, Nat.le_of_ble_eq_true rfl⟩ ⟨Nat.le_refl _, Nat.le_refl _⟩ hl.1 rfl (Nat.le_of_ble_eq_true rfl) dX0_follow_40 (fun H locs hI => ?_)
      obtain rfl := Option.some.inj hf
      exact hR _ _ _ _ hI dX0_follow_43
def f_X0_follow (n : Nat) (S : x_S) (a1 : Nat) (a2 : Int32) : Option (x_S) :=
x_g (a1 < g_np S) (
x_g (a1 < g_np S) (x_g (¬ (a2 < 0 ∨ 60 ≤ (a2).toNatClampNeg)) (x_let (g_pa S 0 a1 (a2).toNatClampNeg) (fun v1 =>
x_b (f_X6_isJump n v1) (fun v3 =>
if v3 = 0 then
f_X0_follow_25 n S a1 a2 v1
else
x_g (a1 < g_np S) (
x_g (a1 < g_np S) (x_g (¬ (a2 < 0 ∨ 60 ≤ (a2).toNatClampNeg)) (x_let (g_pa S 3 a1 (a2).toNatClampNeg) (fun v5 =>
x_b (f_X0_meet n S a1 v5) (fun S =>
f_X0_follow_25 n S a1 a2 v1))))))))))
set_option maxHeartbeats 4000000 in
set_option maxRecDepth 100000 in
theorem w_X0_follow {r : x_S} {a1 : Nat} {a2 : Int32} (hC : x_C p s m args meth c cX0_follow 4 RX0 E A) (hR : x_Rv p l e { frames := 2, cells := 0, slots := 0, locals := 43 } s m args below meth c cX0_follow E A Q (cw E ad ap r)) (hI : x_I E A s.heap (cw E ad ap S) H locs) (hl : lv_has ls 4 [(0, .ref (ad 99)), (1, .ref (ap a1 0)), (2, .int a2)]) (hf : f_X0_follow n S a1 a2 = some r) : W p l e { frames := 2, cells := 0, slots := 0, locals := 43 } s m args below meth c H locs 0 0 Q (F0 m 0 ls []) := by
  obtain ⟨hx, hb, hml, hown, hts, hK, hN, hA⟩ := id hC
  unfold f_X0_follow at hf
  refine lv_aload_n hx hb dX0_follow_0 rfl (lv_at hl 1 rfl) ?_
  refine gX2_0 hC hI hf lkf_X0_32 dX0_follow_1 (fun hf => ?_)
  refine lv_iload_n hx hb dX0_follow_4 rfl (lv_at hl 2 rfl) ?_
  refine aX2_0 hC hI hf dX0_follow_5 (fun v1 hf => ?_)
  refine lv_istore_n (lv' := [(3, .int v1), (0, .ref (ad 99)), (1, .ref (ap a1 0)), (2, .int a2)]) hx hb dX0_follow_6 rfl hl (by decide) rfl (fun ls hl => ?_)
  refine lv_iload_n hx hb dX0_follow_7 rfl (lv_at hl 0 rfl) ?_
  obtain ⟨v3, hc2, hf⟩ := x_b_eq hf
  refine x_callN hC hI (c_X6_isJump hc2) ks_X0_37 rfl ⟨Nat.le_of_ble_eq_true rfl, Nat.le_of_ble_eq_true rfl⟩ ⟨Nat.le_refl _, Nat.le_refl _⟩ hl.1 rfl (Nat.le_of_ble_eq_true rfl) dX0_follow_8 (fun H locs hI => ?_)
  refine x_eq0 hC 25 hf dX0_follow_11 (by decide) (fun hf => ?_) (fun hf => ?_)
  · exact w_X0_follow_25 hC hR hI (lv_sub hl [1, 2, 3, 0] rfl) hf
  · refine lv_aload_n hx hb dX0_follow_14 rfl (lv_at hl 1 rfl) ?_
    refine lv_aload_n hx hb dX0_follow_15 rfl (lv_at hl 2 rfl) ?_
    refine lv_aload_n hx hb dX0_follow_16 rfl (lv_at hl 2 rfl) ?_
    refine gX2_3 hC hI hf lkf_X0_41 dX0_follow_17 (fun hf => ?_)
    refine lv_iload_n hx hb dX0_follow_20 rfl (lv_at hl 3 rfl) ?_
    refine aX2_3 hC hI hf dX0_follow_21 (fun v5 hf => ?_)
    obtain ⟨S, hc6, hf⟩ := x_b_eq hf
    refine x_callV hC hI (c_X0_meet hc6) 1 0 rfl rfl kv_X0_25 rfl ⟨Nat.le_of_ble_eq_true rfl, Nat.le_of_ble_eq_true rfl⟩ ⟨Nat.le_refl _, Nat.le_refl _⟩ hl.1 rfl (Nat.le_of_ble_eq_true rfl) dX0_follow_22 (fun H locs hI => ?_)
    exact w_X0_follow_25 hC hR hI (lv_sub hl [1, 2, 3, 0] rfl) hf
theorem c_X0_follow {a1 : Nat} {a2 : Int32} {S1 : x_S} (hf : f_X0_follow n S a1 a2 = some S1) : x_M l yX0_follow cX0_follow 4 none 2 43 E [.ref (ad 99), .ref (ap a1 0), .int a2] (cw E ad ap S) (cw E ad ap S1) none :=
  x_entV (by decide) (Nat.le_of_ble_eq_true rfl) (fun p e s m args below meth c A Q ls hC hI hR hl => w_X0_follow (r := S1) hC hR hI hl hf)
end
