section
variable {p : Program} {l : Launch} {e : Env} {s : State} {m : MethodId} {args : Array Value} {below : List Frame} {meth : Method} {c : Code} {H : Heap} {locs : List Loc} {Q : State → Prop}
variable {E : x_E} {A : Nat → Prop} {ls : Array Slot} {ad : Nat → Nat} {ap : Nat → Nat → Nat} {S : x_S} {w : va_W} {n : Nat}
-- X1_openBody
def f_X1_openBody (n : Nat) (S : x_S) (a1 : Int32) (a2 : Int32) (a3 : Int32) (a4 : Int32) (a5 : Int32) : Option (x_S) :=
x_let (g_sc S 102) (fun v1 =>
if v1 < (61 : Int32) then
x_let (g_sc S 102) (fun v2 =>
x_g (¬ (v2 < 0 ∨ 61 ≤ (v2).toNatClampNeg)) (x_let (s_ar S 106 (v2).toNatClampNeg a1) (fun S =>
x_let (g_sc S 102) (fun v3 =>
x_g (¬ (v3 < 0 ∨ 61 ≤ (v3).toNatClampNeg)) (x_let (s_ar S 107 (v3).toNatClampNeg a2) (fun S =>
x_let (g_sc S 102) (fun v4 =>
x_g (¬ (v4 < 0 ∨ 61 ≤ (v4).toNatClampNeg)) (x_let (s_ar S 103 (v4).toNatClampNeg a3) (fun S =>
x_let (g_sc S 102) (fun v5 =>
x_g (¬ (v5 < 0 ∨ 61 ≤ (v5).toNatClampNeg)) (x_let (s_ar S 104 (v5).toNatClampNeg a4) (fun S =>
x_let (g_sc S 102) (fun v6 =>
x_g (¬ (v6 < 0 ∨ 61 ≤ (v6).toNatClampNeg)) (x_let (s_ar S 105 (v6).toNatClampNeg a5) (fun S =>
x_let (g_sc S 102) (fun v7 =>
x_let (g_sc S 409) (fun v8 =>
x_g (¬ (v7 < 0 ∨ 61 ≤ (v7).toNatClampNeg)) (x_let (s_ar S 108 (v7).toNatClampNeg v8) (fun S =>
x_b (f_X4_word n S (0 : Int32)) (fun S =>
x_let (g_sc S 102) (fun v10 =>
x_let (s_sc S 102 (v10 + (1 : Int32))) (fun S =>
x_let (g_sc S 411) (fun v11 =>
x_let (g_sc S 102) (fun v12 =>
x_let (if v11 < v12 then v12 else v11) (fun v13 =>
x_let (s_sc S 411 v13) (fun S =>
some S))))))))))))))))))))))))))
else
some S)
set_option maxHeartbeats 4000000 in
set_option maxRecDepth 100000 in
theorem w_X1_openBody {r : x_S} {a1 : Int32} {a2 : Int32} {a3 : Int32} {a4 : Int32} {a5 : Int32} (hC : x_C p s m args meth c cX1_openBody 6 RX1 E A) (hR : x_Rv p l e { frames := 1, cells := 0, slots := 0, locals := 21 } s m args below meth c cX1_openBody E A Q (cw E ad ap r)) (hI : x_I E A s.heap (cw E ad ap S) H locs) (hl : lv_has ls 6 [(0, .ref (ad 199)), (1, .int a1), (2, .int a2), (3, .int a3), (4, .int a4), (5, .int a5)]) (hf : f_X1_openBody n S a1 a2 a3 a4 a5 = some r) : W p l e { frames := 1, cells := 0, slots := 0, locals := 21 } s m args below meth c H locs 0 0 Q (F0 m 0 ls []) := by
  obtain ⟨hx, hb, hml, hown, hts, hK, hN, hA⟩ := id hC
  unfold f_X1_openBody at hf
  refine lv_aload_n hx hb dX1_openBody_0 rfl (lv_at hl 0 rfl) ?_
  refine gX1_2 hC hI hf lkf_X1_22 dX1_openBody_1 (fun v1 hf => ?_)
  refine lv_bipush (v := (61 : Int32)) hx hb dX1_openBody_4 (by decide) ?_
  refine x_ilt hC 10 hf dX1_openBody_6 (by decide) (fun hf => ?_) (fun hf => ?_)
  · refine lv_aload_n hx hb dX1_openBody_10 rfl (lv_at hl 0 rfl) ?_
    refine gX1_6 hC hI lkf_X1_36 dX1_openBody_11 ?_
    refine lv_aload_n hx hb dX1_openBody_14 rfl (lv_at hl 0 rfl) ?_
    refine gX1_2 hC hI hf lkf_X1_22 dX1_openBody_15 (fun v2 hf => ?_)
    refine lv_iload_n hx hb dX1_openBody_18 rfl (lv_at hl 1 rfl) ?_
    refine tX1_6 hC hI hf dX1_openBody_19 (fun S H locs hI hf => ?_)
    refine lv_aload_n hx hb dX1_openBody_20 rfl (lv_at hl 0 rfl) ?_
    refine gX1_7 hC hI lkf_X1_39 dX1_openBody_21 ?_
    refine lv_aload_n hx hb dX1_openBody_24 rfl (lv_at hl 0 rfl) ?_
    refine gX1_2 hC hI hf lkf_X1_22 dX1_openBody_25 (fun v3 hf => ?_)
    refine lv_iload_n hx hb dX1_openBody_28 rfl (lv_at hl 2 rfl) ?_
    refine tX1_7 hC hI hf dX1_openBody_29 (fun S H locs hI hf => ?_)
    refine lv_aload_n hx hb dX1_openBody_30 rfl (lv_at hl 0 rfl) ?_
    refine gX1_3 hC hI lkf_X1_26 dX1_openBody_31 ?_
    refine lv_aload_n hx hb dX1_openBody_34 rfl (lv_at hl 0 rfl) ?_
    refine gX1_2 hC hI hf lkf_X1_22 dX1_openBody_35 (fun v4 hf => ?_)
    refine lv_iload_n hx hb dX1_openBody_38 rfl (lv_at hl 3 rfl) ?_
    refine tX1_3 hC hI hf dX1_openBody_39 (fun S H locs hI hf => ?_)
    refine lv_aload_n hx hb dX1_openBody_40 rfl (lv_at hl 0 rfl) ?_
    refine gX1_4 hC hI lkf_X1_30 dX1_openBody_41 ?_
    refine lv_aload_n hx hb dX1_openBody_44 rfl (lv_at hl 0 rfl) ?_
    refine gX1_2 hC hI hf lkf_X1_22 dX1_openBody_45 (fun v5 hf => ?_)
    refine lv_iload hx hb dX1_openBody_48 (lv_at hl 4 rfl) ?_
    refine tX1_4 hC hI hf dX1_openBody_50 (fun S H locs hI hf => ?_)
    refine lv_aload_n hx hb dX1_openBody_51 rfl (lv_at hl 0 rfl) ?_
    refine gX1_5 hC hI lkf_X1_33 dX1_openBody_52 ?_
    refine lv_aload_n hx hb dX1_openBody_55 rfl (lv_at hl 0 rfl) ?_
    refine gX1_2 hC hI hf lkf_X1_22 dX1_openBody_56 (fun v6 hf => ?_)
    refine lv_iload hx hb dX1_openBody_59 (lv_at hl 5 rfl) ?_
    refine tX1_5 hC hI hf dX1_openBody_61 (fun S H locs hI hf => ?_)
    refine lv_aload_n hx hb dX1_openBody_62 rfl (lv_at hl 0 rfl) ?_
    refine gX1_8 hC hI lkf_X1_42 dX1_openBody_63 ?_
    refine lv_aload_n hx hb dX1_openBody_66 rfl (lv_at hl 0 rfl) ?_
    refine gX1_2 hC hI hf lkf_X1_22 dX1_openBody_67 (fun v7 hf => ?_)
    refine lv_aload_n hx hb dX1_openBody_70 rfl (lv_at hl 0 rfl) ?_
    refine gX1_0 hC hI lkf_X1_12 dX1_openBody_71 ?_
    refine gX4_9 hC hI hf lkf_X1_64 dX1_openBody_74 (fun v8 hf => ?_)
    refine tX1_8 hC hI hf dX1_openBody_77 (fun S H locs hI hf => ?_)
    refine lv_aload_n hx hb dX1_openBody_78 rfl (lv_at hl 0 rfl) ?_
    refine gX1_0 hC hI lkf_X1_12 dX1_openBody_79 ?_
    refine lv_iconst (v := (0 : Int32)) hx hb dX1_openBody_82 (by decide) ?_
    obtain ⟨S, hc9, hf⟩ := x_b_eq hf
    refine x_callV hC hI (c_X4_word hc9) 4 4 rfl rfl kv_X1_67 rfl ⟨Nat.le_of_ble_eq_true rfl, Nat.le_of_ble_eq_true rfl⟩ ⟨Nat.le_refl _, Nat.le_refl _⟩ hl.1 rfl (Nat.le_of_ble_eq_true rfl) dX1_openBody_83 (fun H locs hI => ?_)
    refine lv_aload_n hx hb dX1_openBody_86 rfl (lv_at hl 0 rfl) ?_
    refine lv_dup hx hb dX1_openBody_87 rfl ?_
    refine gX1_2 hC hI hf lkf_X1_22 dX1_openBody_88 (fun v10 hf => ?_)
    refine lv_iconst (v := (1 : Int32)) hx hb dX1_openBody_91 (by decide) ?_
    refine lv_iadd hx hb dX1_openBody_92 ?_
    refine pX1_2 hC hI hf lkf_X1_22 dX1_openBody_93 (fun S H locs hI hf => ?_)
    refine lv_aload_n hx hb dX1_openBody_96 rfl (lv_at hl 0 rfl) ?_
    refine gX1_0 hC hI lkf_X1_12 dX1_openBody_97 ?_
    refine lv_aload_n hx hb dX1_openBody_100 rfl (lv_at hl 0 rfl) ?_
    refine gX1_0 hC hI lkf_X1_12 dX1_openBody_101 ?_
    refine gX4_11 hC hI hf lkf_X1_71 dX1_openBody_104 (fun v11 hf => ?_)
    refine lv_aload_n hx hb dX1_openBody_107 rfl (lv_at hl 0 rfl) ?_
    refine gX1_2 hC hI hf lkf_X1_22 dX1_openBody_108 (fun v12 hf => ?_)
    refine x_max hC hl.1 hf lkj_X1_74 lkj_max_st lkj_max_in lkj_max_co ⟨Nat.le_of_ble_eq_true rfl, Nat.le_of_ble_eq_true rfl⟩ ⟨Nat.le_refl _, Nat.le_refl _⟩ dX1_openBody_111 (fun v13 hf => ?_)
    refine pX4_11 hC hI hf lkf_X1_71 dX1_openBody_114 (fun S H locs hI hf => ?_)
    obtain rfl := Option.some.inj hf
    exact hR _ _ _ _ hI dX1_openBody_117
  · obtain rfl := Option.some.inj hf
    exact hR _ _ _ _ hI dX1_openBody_9
theorem c_X1_openBody {a1 : Int32} {a2 : Int32} {a3 : Int32} {a4 : Int32} {a5 : Int32} {S1 : x_S} (hf : f_X1_openBody n S a1 a2 a3 a4 a5 = some S1) : x_M l yX1_openBody cX1_openBody 6 none 1 21 E [.ref (ad 199), .int a1, .int a2, .int a3, .int a4, .int a5] (cw E ad ap S) (cw E ad ap S1) none :=
  x_entV (by decide) (Nat.le_of_ble_eq_true rfl) (fun p e s m args below meth c A Q ls hC hI hR hl => w_X1_openBody (r := S1) hC hR hI hl hf)
-- X1_closeBody
def f_X1_closeBody_89 (n : Nat) (S : x_S) (a2 : Int32) : Option (Int32 × x_S) :=
x_let (g_sc S 408) (fun v5 =>
x_g (¬ (a2 < 0 ∨ 60 ≤ (a2).toNatClampNeg)) (x_let (s_ar S 405 (a2).toNatClampNeg ((v5 - a2) - (1 : Int32))) (fun S =>
x_g (¬ (a2 < 0 ∨ 60 ≤ (a2).toNatClampNeg)) (x_let (g_ar S 402 (a2).toNatClampNeg) (fun v6 =>
some (v6, S))))))
set_option maxHeartbeats 4000000 in
set_option maxRecDepth 100000 in
theorem w_X1_closeBody_89 {r : Int32 × x_S} {a2 : Int32} (hC : x_C p s m args meth c cX1_closeBody 3 RX1 E A) (hR : x_Ri p l e { frames := 2, cells := 0, slots := 0, locals := 46 } s m args below meth c cX1_closeBody E A Q (cw E ad ap r.2) r.1) (hI : x_I E A s.heap (cw E ad ap S) H locs) (hl : lv_has ls 3 [(0, .ref (ad 199)), (2, .int a2)]) (hf : f_X1_closeBody_89 n S a2 = some r) : W p l e { frames := 2, cells := 0, slots := 0, locals := 46 } s m args below meth c H locs 0 0 Q (F0 m 89 ls []) := by
  obtain ⟨hx, hb, hml, hown, hts, hK, hN, hA⟩ := id hC
  unfold f_X1_closeBody_89 at hf
  refine lv_aload_n hx hb dX1_closeBody_89 rfl (lv_at hl 0 rfl) ?_
  refine gX1_0 hC hI lkf_X1_12 dX1_closeBody_90 ?_
  refine gX4_5 hC hI lkf_X1_86 dX1_closeBody_93 ?_
  refine lv_iload_n hx hb dX1_closeBody_96 rfl (lv_at hl 1 rfl) ?_
  refine lv_aload_n hx hb dX1_closeBody_97 rfl (lv_at hl 0 rfl) ?_
  refine gX1_0 hC hI lkf_X1_12 dX1_closeBody_98 ?_
  refine gX4_8 hC hI hf lkf_X1_89 dX1_closeBody_101 (fun v5 hf => ?_)
  refine lv_iload_n hx hb dX1_closeBody_104 rfl (lv_at hl 1 rfl) ?_
  refine lv_isub hx hb dX1_closeBody_105 ?_
  refine lv_iconst (v := (1 : Int32)) hx hb dX1_closeBody_106 (by decide) ?_
  refine lv_isub hx hb dX1_closeBody_107 ?_
  refine tX4_5 hC hI hf dX1_closeBody_108 (fun S H locs hI hf => ?_)
  refine lv_aload_n hx hb dX1_closeBody_109 rfl (lv_at hl 0 rfl) ?_
  refine gX1_0 hC hI lkf_X1_12 dX1_closeBody_110 ?_
  refine gX4_2 hC hI lkf_X1_83 dX1_closeBody_113 ?_
  refine lv_iload_n hx hb dX1_closeBody_116 rfl (lv_at hl 1 rfl) ?_
  refine aX4_2 hC hI hf dX1_closeBody_117 (fun v6 hf => ?_)
  obtain rfl := Option.some.inj hf
  exact hR _ _ _ _ hI dX1_closeBody_118
def f_X1_closeBody (n : Nat) (S : x_S) (a1 : Int32) : Option (Int32 × x_S) :=
x_let (g_sc S 102) (fun v1 =>
x_let (s_sc S 102 (v1 - (1 : Int32))) (fun S =>
x_let (g_sc S 102) (fun v2 =>
x_g (¬ (v2 < 0 ∨ 61 ≤ (v2).toNatClampNeg)) (x_let (g_ar S 106 (v2).toNatClampNeg) (fun v3 =>
if v3 = (-1 : Int32) then
some (a1, S)
else
x_g (¬ (v3 < 0 ∨ 60 ≤ (v3).toNatClampNeg)) (x_let (g_ar S 400 (v3).toNatClampNeg) (fun v4 =>
if v4 = (2 : Int32) then
x_let (g_sc S 102) (fun v7 =>
x_g (¬ (v7 < 0 ∨ 61 ≤ (v7).toNatClampNeg)) (x_let (g_ar S 107 (v7).toNatClampNeg) (fun v8 =>
if v8 = 0 then
x_g (¬ (v3 < 0 ∨ 60 ≤ (v3).toNatClampNeg)) (x_let (g_ar S 402 (v3).toNatClampNeg) (fun v9 =>
x_let (g_sc S 102) (fun v10 =>
x_g (¬ (v10 < 0 ∨ 61 ≤ (v10).toNatClampNeg)) (x_let (g_ar S 104 (v10).toNatClampNeg) (fun v11 =>
x_let (g_sc S 102) (fun v12 =>
x_g (¬ (v12 < 0 ∨ 61 ≤ (v12).toNatClampNeg)) (x_let (g_ar S 105 (v12).toNatClampNeg) (fun v13 =>
x_b (f_X1_openBody n S v3 (1 : Int32) v9 v11 v13) (fun S =>
some ((a1 + (1 : Int32)), S))))))))))
else
f_X1_closeBody_89 n S v3)))
else
f_X1_closeBody_89 n S v3)))))))
set_option maxHeartbeats 4000000 in
set_option maxRecDepth 100000 in
theorem w_X1_closeBody {r : Int32 × x_S} {a1 : Int32} (hC : x_C p s m args meth c cX1_closeBody 3 RX1 E A) (hR : x_Ri p l e { frames := 2, cells := 0, slots := 0, locals := 46 } s m args below meth c cX1_closeBody E A Q (cw E ad ap r.2) r.1) (hI : x_I E A s.heap (cw E ad ap S) H locs) (hl : lv_has ls 3 [(0, .ref (ad 199)), (1, .int a1)]) (hf : f_X1_closeBody n S a1 = some r) : W p l e { frames := 2, cells := 0, slots := 0, locals := 46 } s m args below meth c H locs 0 0 Q (F0 m 0 ls []) := by
  obtain ⟨hx, hb, hml, hown, hts, hK, hN, hA⟩ := id hC
  unfold f_X1_closeBody at hf
  refine lv_aload_n hx hb dX1_closeBody_0 rfl (lv_at hl 0 rfl) ?_
  refine lv_dup hx hb dX1_closeBody_1 rfl ?_
  refine gX1_2 hC hI hf lkf_X1_22 dX1_closeBody_2 (fun v1 hf => ?_)
  refine lv_iconst (v := (1 : Int32)) hx hb dX1_closeBody_5 (by decide) ?_
  refine lv_isub hx hb dX1_closeBody_6 ?_
  refine pX1_2 hC hI hf lkf_X1_22 dX1_closeBody_7 (fun S H locs hI hf => ?_)
  refine lv_aload_n hx hb dX1_closeBody_10 rfl (lv_at hl 0 rfl) ?_
  refine gX1_6 hC hI lkf_X1_36 dX1_closeBody_11 ?_
  refine lv_aload_n hx hb dX1_closeBody_14 rfl (lv_at hl 0 rfl) ?_
  refine gX1_2 hC hI hf lkf_X1_22 dX1_closeBody_15 (fun v2 hf => ?_)
  refine aX1_6 hC hI hf dX1_closeBody_18 (fun v3 hf => ?_)
  refine lv_istore_n (lv' := [(2, .int v3), (0, .ref (ad 199)), (1, .int a1)]) hx hb dX1_closeBody_19 rfl hl (by decide) rfl (fun ls hl => ?_)
  refine lv_iload_n hx hb dX1_closeBody_20 rfl (lv_at hl 0 rfl) ?_
  refine lv_iconst (v := (-1 : Int32)) hx hb dX1_closeBody_21 (by decide) ?_
  refine x_ine hC 27 hf dX1_closeBody_22 (by decide) (fun hf => ?_) (fun hf => ?_)
  · refine lv_aload_n hx hb dX1_closeBody_27 rfl (lv_at hl 1 rfl) ?_
    refine gX1_0 hC hI lkf_X1_12 dX1_closeBody_28 ?_
    refine gX4_0 hC hI lkf_X1_80 dX1_closeBody_31 ?_
    refine lv_iload_n hx hb dX1_closeBody_34 rfl (lv_at hl 0 rfl) ?_
    refine aX4_0 hC hI hf dX1_closeBody_35 (fun v4 hf => ?_)
    refine lv_iconst (v := (2 : Int32)) hx hb dX1_closeBody_36 (by decide) ?_
    refine x_ine hC 89 hf dX1_closeBody_37 (by decide) (fun hf => ?_) (fun hf => ?_)
    · exact w_X1_closeBody_89 hC hR hI (lv_sub hl [1, 0] rfl) hf
    · refine lv_aload_n hx hb dX1_closeBody_40 rfl (lv_at hl 1 rfl) ?_
      refine gX1_7 hC hI lkf_X1_39 dX1_closeBody_41 ?_
      refine lv_aload_n hx hb dX1_closeBody_44 rfl (lv_at hl 1 rfl) ?_
      refine gX1_2 hC hI hf lkf_X1_22 dX1_closeBody_45 (fun v7 hf => ?_)
      refine aX1_7 hC hI hf dX1_closeBody_48 (fun v8 hf => ?_)
      refine x_ne0 hC 89 hf dX1_closeBody_49 (by decide) (fun hf => ?_) (fun hf => ?_)
      · exact w_X1_closeBody_89 hC hR hI (lv_sub hl [1, 0] rfl) hf
      · refine lv_aload_n hx hb dX1_closeBody_52 rfl (lv_at hl 1 rfl) ?_
        refine lv_iload_n hx hb dX1_closeBody_53 rfl (lv_at hl 0 rfl) ?_
        refine lv_iconst (v := (1 : Int32)) hx hb dX1_closeBody_54 (by decide) ?_
        refine lv_aload_n hx hb dX1_closeBody_55 rfl (lv_at hl 1 rfl) ?_
        refine gX1_0 hC hI lkf_X1_12 dX1_closeBody_56 ?_
        refine gX4_2 hC hI lkf_X1_83 dX1_closeBody_59 ?_
        refine lv_iload_n hx hb dX1_closeBody_62 rfl (lv_at hl 0 rfl) ?_
        refine aX4_2 hC hI hf dX1_closeBody_63 (fun v9 hf => ?_)
        refine lv_aload_n hx hb dX1_closeBody_64 rfl (lv_at hl 1 rfl) ?_
        refine gX1_4 hC hI lkf_X1_30 dX1_closeBody_65 ?_
        refine lv_aload_n hx hb dX1_closeBody_68 rfl (lv_at hl 1 rfl) ?_
        refine gX1_2 hC hI hf lkf_X1_22 dX1_closeBody_69 (fun v10 hf => ?_)
        refine aX1_4 hC hI hf dX1_closeBody_72 (fun v11 hf => ?_)
        refine lv_aload_n hx hb dX1_closeBody_73 rfl (lv_at hl 1 rfl) ?_
        refine gX1_5 hC hI lkf_X1_33 dX1_closeBody_74 ?_
        refine lv_aload_n hx hb dX1_closeBody_77 rfl (lv_at hl 1 rfl) ?_
        refine gX1_2 hC hI hf lkf_X1_22 dX1_closeBody_78 (fun v12 hf => ?_)
        refine aX1_5 hC hI hf dX1_closeBody_81 (fun v13 hf => ?_)
        obtain ⟨S, hc14, hf⟩ := x_b_eq hf
        refine x_callV hC hI (c_X1_openBody hc14) 2 1 rfl rfl kv_X1_53 rfl ⟨Nat.le_of_ble_eq_true rfl, Nat.le_of_ble_eq_true rfl⟩ ⟨Nat.le_refl _, Nat.le_refl _⟩ hl.1 rfl (Nat.le_of_ble_eq_true rfl) dX1_closeBody_82 (fun H locs hI => ?_)
        refine lv_iload_n hx hb dX1_closeBody_85 rfl (lv_at hl 2 rfl) ?_
        refine lv_iconst (v := (1 : Int32)) hx hb dX1_closeBody_86 (by decide) ?_
        refine lv_iadd hx hb dX1_closeBody_87 ?_
        obtain rfl := Option.some.inj hf
        exact hR _ _ _ _ hI dX1_closeBody_88
  · refine lv_iload_n hx hb dX1_closeBody_25 rfl (lv_at hl 2 rfl) ?_
    obtain rfl := Option.some.inj hf
    exact hR _ _ _ _ hI dX1_closeBody_26
theorem c_X1_closeBody {a1 : Int32} {v : Int32} {S1 : x_S} (hf : f_X1_closeBody n S a1 = some (v, S1)) : x_M l yX1_closeBody cX1_closeBody 3 (some .int) 2 46 E [.ref (ad 199), .int a1] (cw E ad ap S) (cw E ad ap S1) (some (.int v)) :=
  x_entI (by decide) (Nat.le_of_ble_eq_true rfl) (fun p e s m args below meth c A Q ls hC hI hR hl => w_X1_closeBody (r := (v, S1)) hC hR hI hl hf)
-- X1_isLoopBegun
def f_X1_isLoopBegun (n : Nat) (S : x_S) (a1 : Int32) : Option (Int32 × x_S) :=
x_let (g_sc S 102) (fun v1 =>
x_g (¬ ((v1 - (1 : Int32)) < 0 ∨ 61 ≤ ((v1 - (1 : Int32))).toNatClampNeg)) (x_let (g_ar S 106 ((v1 - (1 : Int32))).toNatClampNeg) (fun v2 =>
if v2 = (-1 : Int32) then
x_g ((0 : Int32) = 0 ∨ (0 : Int32) = 1) (some ((0 : Int32), S))
else
x_g (¬ (v2 < 0 ∨ 60 ≤ (v2).toNatClampNeg)) (x_let (g_ar S 401 (v2).toNatClampNeg) (fun v3 =>
if v3 = a1 then
x_g (¬ (v2 < 0 ∨ 60 ≤ (v2).toNatClampNeg)) (x_let (g_ar S 400 (v2).toNatClampNeg) (fun v4 =>
if v4 = (3 : Int32) then
x_g ((1 : Int32) = 0 ∨ (1 : Int32) = 1) (some ((1 : Int32), S))
else
x_g (¬ (v2 < 0 ∨ 60 ≤ (v2).toNatClampNeg)) (x_let (g_ar S 400 (v2).toNatClampNeg) (fun v5 =>
if v5 = (5 : Int32) then
x_g ((1 : Int32) = 0 ∨ (1 : Int32) = 1) (some ((1 : Int32), S))
else
x_g ((0 : Int32) = 0 ∨ (0 : Int32) = 1) (some ((0 : Int32), S))))))
else
x_g ((0 : Int32) = 0 ∨ (0 : Int32) = 1) (some ((0 : Int32), S)))))))
set_option maxHeartbeats 4000000 in
set_option maxRecDepth 100000 in
theorem w_X1_isLoopBegun {r : Int32 × x_S} {a1 : Int32} (hC : x_C p s m args meth c cX1_isLoopBegun 3 RX1 E A) (hR : x_Rz p l e { frames := 0, cells := 0, slots := 0, locals := 0 } s m args below meth c cX1_isLoopBegun E A Q (cw E ad ap r.2) r.1) (hI : x_I E A s.heap (cw E ad ap S) H locs) (hl : lv_has ls 3 [(0, .ref (ad 199)), (1, .int a1)]) (hf : f_X1_isLoopBegun n S a1 = some r) : W p l e { frames := 0, cells := 0, slots := 0, locals := 0 } s m args below meth c H locs 0 0 Q (F0 m 0 ls []) := by
  obtain ⟨hx, hb, hml, hown, hts, hK, hN, hA⟩ := id hC
  unfold f_X1_isLoopBegun at hf
  refine lv_aload_n hx hb dX1_isLoopBegun_0 rfl (lv_at hl 0 rfl) ?_
  refine gX1_6 hC hI lkf_X1_36 dX1_isLoopBegun_1 ?_
  refine lv_aload_n hx hb dX1_isLoopBegun_4 rfl (lv_at hl 0 rfl) ?_
  refine gX1_2 hC hI hf lkf_X1_22 dX1_isLoopBegun_5 (fun v1 hf => ?_)
  refine lv_iconst (v := (1 : Int32)) hx hb dX1_isLoopBegun_8 (by decide) ?_
  refine lv_isub hx hb dX1_isLoopBegun_9 ?_
  refine aX1_6 hC hI hf dX1_isLoopBegun_10 (fun v2 hf => ?_)
  refine lv_istore_n (lv' := [(2, .int v2), (0, .ref (ad 199)), (1, .int a1)]) hx hb dX1_isLoopBegun_11 rfl hl (by decide) rfl (fun ls hl => ?_)
  refine lv_iload_n hx hb dX1_isLoopBegun_12 rfl (lv_at hl 0 rfl) ?_
  refine lv_iconst (v := (-1 : Int32)) hx hb dX1_isLoopBegun_13 (by decide) ?_
  refine x_ieq hC 60 hf dX1_isLoopBegun_14 (by decide) (fun hf => ?_) (fun hf => ?_)
  · refine lv_iconst (v := (0 : Int32)) hx hb dX1_isLoopBegun_60 (by decide) ?_
    obtain ⟨h9, hf⟩ := x_g_eq hf
    obtain rfl := Option.some.inj hf
    exact hR _ _ _ _ h9 hI dX1_isLoopBegun_61
  · refine lv_aload_n hx hb dX1_isLoopBegun_17 rfl (lv_at hl 1 rfl) ?_
    refine gX1_0 hC hI lkf_X1_12 dX1_isLoopBegun_18 ?_
    refine gX4_1 hC hI lkf_X1_118 dX1_isLoopBegun_21 ?_
    refine lv_iload_n hx hb dX1_isLoopBegun_24 rfl (lv_at hl 0 rfl) ?_
    refine aX4_1 hC hI hf dX1_isLoopBegun_25 (fun v3 hf => ?_)
    refine lv_iload_n hx hb dX1_isLoopBegun_26 rfl (lv_at hl 2 rfl) ?_
    refine x_ine hC 60 hf dX1_isLoopBegun_27 (by decide) (fun hf => ?_) (fun hf => ?_)
    · refine lv_iconst (v := (0 : Int32)) hx hb dX1_isLoopBegun_60 (by decide) ?_
      obtain ⟨h9, hf⟩ := x_g_eq hf
      obtain rfl := Option.some.inj hf
      exact hR _ _ _ _ h9 hI dX1_isLoopBegun_61
    · refine lv_aload_n hx hb dX1_isLoopBegun_30 rfl (lv_at hl 1 rfl) ?_
      refine gX1_0 hC hI lkf_X1_12 dX1_isLoopBegun_31 ?_
      refine gX4_0 hC hI lkf_X1_80 dX1_isLoopBegun_34 ?_
      refine lv_iload_n hx hb dX1_isLoopBegun_37 rfl (lv_at hl 0 rfl) ?_
      refine aX4_0 hC hI hf dX1_isLoopBegun_38 (fun v4 hf => ?_)
      refine lv_iconst (v := (3 : Int32)) hx hb dX1_isLoopBegun_39 (by decide) ?_
      refine x_ieq hC 56 hf dX1_isLoopBegun_40 (by decide) (fun hf => ?_) (fun hf => ?_)
      · refine lv_iconst (v := (1 : Int32)) hx hb dX1_isLoopBegun_56 (by decide) ?_
        refine lv_goto (tgt := 61) hx hb dX1_isLoopBegun_57 (by decide) ?_
        obtain ⟨h9, hf⟩ := x_g_eq hf
        obtain rfl := Option.some.inj hf
        exact hR _ _ _ _ h9 hI dX1_isLoopBegun_61
      · refine lv_aload_n hx hb dX1_isLoopBegun_43 rfl (lv_at hl 1 rfl) ?_
        refine gX1_0 hC hI lkf_X1_12 dX1_isLoopBegun_44 ?_
        refine gX4_0 hC hI lkf_X1_80 dX1_isLoopBegun_47 ?_
        refine lv_iload_n hx hb dX1_isLoopBegun_50 rfl (lv_at hl 0 rfl) ?_
        refine aX4_0 hC hI hf dX1_isLoopBegun_51 (fun v5 hf => ?_)
        refine lv_iconst (v := (5 : Int32)) hx hb dX1_isLoopBegun_52 (by decide) ?_
        refine x_ine hC 60 hf dX1_isLoopBegun_53 (by decide) (fun hf => ?_) (fun hf => ?_)
        · refine lv_iconst (v := (0 : Int32)) hx hb dX1_isLoopBegun_60 (by decide) ?_
          obtain ⟨h9, hf⟩ := x_g_eq hf
          obtain rfl := Option.some.inj hf
          exact hR _ _ _ _ h9 hI dX1_isLoopBegun_61
        · refine lv_iconst (v := (1 : Int32)) hx hb dX1_isLoopBegun_56 (by decide) ?_
          refine lv_goto (tgt := 61) hx hb dX1_isLoopBegun_57 (by decide) ?_
          obtain ⟨h9, hf⟩ := x_g_eq hf
          obtain rfl := Option.some.inj hf
          exact hR _ _ _ _ h9 hI dX1_isLoopBegun_61
theorem c_X1_isLoopBegun {a1 : Int32} {v : Int32} {S1 : x_S} (hf : f_X1_isLoopBegun n S a1 = some (v, S1)) : x_M l yX1_isLoopBegun cX1_isLoopBegun 3 (some .boolean) 0 0 E [.ref (ad 199), .int a1] (cw E ad ap S) (cw E ad ap S1) (some (.int v)) :=
  x_entZ (by decide) (Nat.le_of_ble_eq_true rfl) (fun p e s m args below meth c A Q ls hC hI hR hl => w_X1_isLoopBegun (r := (v, S1)) hC hR hI hl hf)
-- X2_lastJumpTo
def f_X2_lastJumpTo_33 (n : Nat) (rec4 : x_S × Nat × Int32 × Int32 → Option (Int32 × x_S)) (S : x_S) (a0 : Nat) (a1 : Int32) (a3 : Int32) : Option (Int32 × x_S) :=
rec4 (S, a0, a1, (a3 + (-1 : Int32)))
set_option maxHeartbeats 4000000 in
set_option maxRecDepth 100000 in
theorem w_X2_lastJumpTo_33 {r : Int32 × x_S} {a0 : Nat} {a1 : Int32} {a3 : Int32} {rec4 : x_S × Nat × Int32 × Int32 → Option (Int32 × x_S)} (hC : x_C p s m args meth c cX2_lastJumpTo 4 RX2 E A) (hR : x_Ri p l e { frames := 1, cells := 0, slots := 0, locals := 20 } s m args below meth c cX2_lastJumpTo E A Q (cw E ad ap r.2) r.1) (hrec4 : ∀ z : x_S × Nat × Int32 × Int32, rec4 z = some r → ∀ (H : Heap) (locs : List Loc) (ls : Array Slot), x_I E A s.heap (cw E ad ap z.1) H locs → lv_has ls 4 [(0, .ref (ap z.2.1 0)), (1, .int z.2.2.1), (3, .int z.2.2.2)] → W p l e { frames := 1, cells := 0, slots := 0, locals := 20 } s m args below meth c H locs 0 0 Q (F0 m 4 ls [])) (hI : x_I E A s.heap (cw E ad ap S) H locs) (hl : lv_has ls 4 [(0, .ref (ap a0 0)), (1, .int a1), (3, .int a3)]) (hf : f_X2_lastJumpTo_33 n rec4 S a0 a1 a3 = some r) : W p l e { frames := 1, cells := 0, slots := 0, locals := 20 } s m args below meth c H locs 0 0 Q (F0 m 33 ls []) := by
  obtain ⟨hx, hb, hml, hown, hts, hK, hN, hA⟩ := id hC
  unfold f_X2_lastJumpTo_33 at hf
  refine lv_iinc (v := (a3 + (-1 : Int32))) (lv' := [(3, .int (a3 + (-1 : Int32))), (0, .ref (ap a0 0)), (1, .int a1)]) hx hb dX2_lastJumpTo_33 hl (k := 2) rfl rfl (by decide) rfl (fun ls hl => ?_)
  refine lv_goto (tgt := 4) hx hb dX2_lastJumpTo_36 (by decide) ?_
  exact hrec4 _ hf _ _ _ hI (lv_sub hl [1, 2, 0] rfl)
def f_X2_lastJumpTo_4 (n : Nat) (rec4 : x_S × Nat × Int32 × Int32 → Option (Int32 × x_S)) (S : x_S) (a0 : Nat) (a1 : Int32) (a3 : Int32) : Option (Int32 × x_S) :=
if a3 < a1 then
some ((-1 : Int32), S)
else
x_g (a0 < g_np S) (
x_g (a0 < g_np S) (x_g (¬ (a3 < 0 ∨ 60 ≤ (a3).toNatClampNeg)) (x_let (g_pa S 0 a0 (a3).toNatClampNeg) (fun v1 =>
x_b (f_X6_isJump n v1) (fun v3 =>
if v3 = 0 then
f_X2_lastJumpTo_33 n rec4 S a0 a1 a3
else
x_g (a0 < g_np S) (
x_g (a0 < g_np S) (x_g (¬ (a3 < 0 ∨ 60 ≤ (a3).toNatClampNeg)) (x_let (g_pa S 3 a0 (a3).toNatClampNeg) (fun v4 =>
if v4 = a1 then
some (a3, S)
else
f_X2_lastJumpTo_33 n rec4 S a0 a1 a3)))))))))
set_option maxHeartbeats 4000000 in
set_option maxRecDepth 100000 in
theorem w_X2_lastJumpTo_4 {r : Int32 × x_S} {a0 : Nat} {a1 : Int32} {a3 : Int32} {rec4 : x_S × Nat × Int32 × Int32 → Option (Int32 × x_S)} (hC : x_C p s m args meth c cX2_lastJumpTo 4 RX2 E A) (hR : x_Ri p l e { frames := 1, cells := 0, slots := 0, locals := 20 } s m args below meth c cX2_lastJumpTo E A Q (cw E ad ap r.2) r.1) (hrec4 : ∀ z : x_S × Nat × Int32 × Int32, rec4 z = some r → ∀ (H : Heap) (locs : List Loc) (ls : Array Slot), x_I E A s.heap (cw E ad ap z.1) H locs → lv_has ls 4 [(0, .ref (ap z.2.1 0)), (1, .int z.2.2.1), (3, .int z.2.2.2)] → W p l e { frames := 1, cells := 0, slots := 0, locals := 20 } s m args below meth c H locs 0 0 Q (F0 m 4 ls [])) (hI : x_I E A s.heap (cw E ad ap S) H locs) (hl : lv_has ls 4 [(0, .ref (ap a0 0)), (1, .int a1), (3, .int a3)]) (hf : f_X2_lastJumpTo_4 n rec4 S a0 a1 a3 = some r) : W p l e { frames := 1, cells := 0, slots := 0, locals := 20 } s m args below meth c H locs 0 0 Q (F0 m 4 ls []) := by
  obtain ⟨hx, hb, hml, hown, hts, hK, hN, hA⟩ := id hC
  unfold f_X2_lastJumpTo_4 at hf
  refine lv_iload_n hx hb dX2_lastJumpTo_4 rfl (lv_at hl 2 rfl) ?_
  refine lv_iload_n hx hb dX2_lastJumpTo_5 rfl (lv_at hl 1 rfl) ?_
  refine x_ilt hC 39 hf dX2_lastJumpTo_6 (by decide) (fun hf => ?_) (fun hf => ?_)
  · refine lv_iconst (v := (-1 : Int32)) hx hb dX2_lastJumpTo_39 (by decide) ?_
    obtain rfl := Option.some.inj hf
    exact hR _ _ _ _ hI dX2_lastJumpTo_40
  · refine lv_aload_n hx hb dX2_lastJumpTo_9 rfl (lv_at hl 0 rfl) ?_
    refine gX2_0 hC hI hf lkf_X2_9 dX2_lastJumpTo_10 (fun hf => ?_)
    refine lv_iload_n hx hb dX2_lastJumpTo_13 rfl (lv_at hl 2 rfl) ?_
    refine aX2_0 hC hI hf dX2_lastJumpTo_14 (fun v1 hf => ?_)
    obtain ⟨v3, hc2, hf⟩ := x_b_eq hf
    refine x_callN hC hI (c_X6_isJump hc2) ks_X2_39 rfl ⟨Nat.le_of_ble_eq_true rfl, Nat.le_of_ble_eq_true rfl⟩ ⟨Nat.le_refl _, Nat.le_refl _⟩ hl.1 rfl (Nat.le_of_ble_eq_true rfl) dX2_lastJumpTo_15 (fun H locs hI => ?_)
    refine x_eq0 hC 33 hf dX2_lastJumpTo_18 (by decide) (fun hf => ?_) (fun hf => ?_)
    · exact w_X2_lastJumpTo_33 hC hR hrec4 hI (lv_sub hl [0, 1, 2] rfl) hf
    · refine lv_aload_n hx hb dX2_lastJumpTo_21 rfl (lv_at hl 0 rfl) ?_
      refine gX2_3 hC hI hf lkf_X2_21 dX2_lastJumpTo_22 (fun hf => ?_)
      refine lv_iload_n hx hb dX2_lastJumpTo_25 rfl (lv_at hl 2 rfl) ?_
      refine aX2_3 hC hI hf dX2_lastJumpTo_26 (fun v4 hf => ?_)
      refine lv_iload_n hx hb dX2_lastJumpTo_27 rfl (lv_at hl 1 rfl) ?_
      refine x_ine hC 33 hf dX2_lastJumpTo_28 (by decide) (fun hf => ?_) (fun hf => ?_)
      · exact w_X2_lastJumpTo_33 hC hR hrec4 hI (lv_sub hl [0, 1, 2] rfl) hf
      · refine lv_iload_n hx hb dX2_lastJumpTo_31 rfl (lv_at hl 2 rfl) ?_
        obtain rfl := Option.some.inj hf
        exact hR _ _ _ _ hI dX2_lastJumpTo_32
theorem w_X2_lastJumpTo_4_loop {r : Int32 × x_S} (hC : x_C p s m args meth c cX2_lastJumpTo 4 RX2 E A) (hR : x_Ri p l e { frames := 1, cells := 0, slots := 0, locals := 20 } s m args below meth c cX2_lastJumpTo E A Q (cw E ad ap r.2) r.1) : ∀ (k : Nat) (z : x_S × Nat × Int32 × Int32), x_loop (fun rec z => f_X2_lastJumpTo_4 n rec z.1 z.2.1 z.2.2.1 z.2.2.2) k z = some r → ∀ (H : Heap) (locs : List Loc) (ls : Array Slot), x_I E A s.heap (cw E ad ap z.1) H locs → lv_has ls 4 [(0, .ref (ap z.2.1 0)), (1, .int z.2.2.1), (3, .int z.2.2.2)] → W p l e { frames := 1, cells := 0, slots := 0, locals := 20 } s m args below meth c H locs 0 0 Q (F0 m 4 ls []) :=
  x_loop_ind (P := fun (z : x_S × Nat × Int32 × Int32) => ∀ (H : Heap) (locs : List Loc) (ls : Array Slot), x_I E A s.heap (cw E ad ap z.1) H locs → lv_has ls 4 [(0, .ref (ap z.2.1 0)), (1, .int z.2.2.1), (3, .int z.2.2.2)] → W p l e { frames := 1, cells := 0, slots := 0, locals := 20 } s m args below meth c H locs 0 0 Q (F0 m 4 ls [])) (fun rec hrec z hf H locs ls hI hl => w_X2_lastJumpTo_4 hC hR hrec hI hl hf)
def f_X2_lastJumpTo (n : Nat) (S : x_S) (a0 : Nat) (a1 : Int32) (a2 : Int32) : Option (Int32 × x_S) :=
x_loop (fun rec z => f_X2_lastJumpTo_4 n rec z.1 z.2.1 z.2.2.1 z.2.2.2) n (S, a0, a1, (a2 - (1 : Int32)))
set_option maxHeartbeats 4000000 in
set_option maxRecDepth 100000 in
theorem w_X2_lastJumpTo {r : Int32 × x_S} {a0 : Nat} {a1 : Int32} {a2 : Int32} (hC : x_C p s m args meth c cX2_lastJumpTo 4 RX2 E A) (hR : x_Ri p l e { frames := 1, cells := 0, slots := 0, locals := 20 } s m args below meth c cX2_lastJumpTo E A Q (cw E ad ap r.2) r.1) (hI : x_I E A s.heap (cw E ad ap S) H locs) (hl : lv_has ls 4 [(0, .ref (ap a0 0)), (1, .int a1), (2, .int a2)]) (hf : f_X2_lastJumpTo n S a0 a1 a2 = some r) : W p l e { frames := 1, cells := 0, slots := 0, locals := 20 } s m args below meth c H locs 0 0 Q (F0 m 0 ls []) := by
  obtain ⟨hx, hb, hml, hown, hts, hK, hN, hA⟩ := id hC
  unfold f_X2_lastJumpTo at hf
  refine lv_iload_n hx hb dX2_lastJumpTo_0 rfl (lv_at hl 2 rfl) ?_
  refine lv_iconst (v := (1 : Int32)) hx hb dX2_lastJumpTo_1 (by decide) ?_
  refine lv_isub hx hb dX2_lastJumpTo_2 ?_
  refine lv_istore_n (lv' := [(3, .int (a2 - (1 : Int32))), (0, .ref (ap a0 0)), (1, .int a1), (2, .int a2)]) hx hb dX2_lastJumpTo_3 rfl hl (by decide) rfl (fun ls hl => ?_)
  exact w_X2_lastJumpTo_4_loop hC hR _ _ hf _ _ _ hI (lv_sub hl [1, 2, 0] rfl)
theorem c_X2_lastJumpTo {a0 : Nat} {a1 : Int32} {a2 : Int32} {v : Int32} {S1 : x_S} (hf : f_X2_lastJumpTo n S a0 a1 a2 = some (v, S1)) : x_M l yX2_lastJumpTo cX2_lastJumpTo 4 (some .int) 1 20 E [.ref (ap a0 0), .int a1, .int a2] (cw E ad ap S) (cw E ad ap S1) (some (.int v)) :=
  x_entI (by decide) (Nat.le_of_ble_eq_true rfl) (fun p e s m args below meth c A Q ls hC hI hR hl => w_X2_lastJumpTo (r := (v, S1)) hC hR hI hl hf)
-- X1_isNeither
def f_X1_isNeither (n : Nat) (S : x_S) (a1 : Int32) : Option (Int32 × x_S) :=
x_let (g_sc S 102) (fun v1 =>
x_g (¬ ((v1 - (1 : Int32)) < 0 ∨ 61 ≤ ((v1 - (1 : Int32))).toNatClampNeg)) (x_let (g_ar S 104 ((v1 - (1 : Int32))).toNatClampNeg) (fun v2 =>
if a1 = v2 then
x_g ((0 : Int32) = 0 ∨ (0 : Int32) = 1) (some ((0 : Int32), S))
else
x_let (g_sc S 102) (fun v3 =>
x_g (¬ ((v3 - (1 : Int32)) < 0 ∨ 61 ≤ ((v3 - (1 : Int32))).toNatClampNeg)) (x_let (g_ar S 105 ((v3 - (1 : Int32))).toNatClampNeg) (fun v4 =>
if a1 = v4 then
x_g ((0 : Int32) = 0 ∨ (0 : Int32) = 1) (some ((0 : Int32), S))
else
x_g ((1 : Int32) = 0 ∨ (1 : Int32) = 1) (some ((1 : Int32), S))))))))
set_option maxHeartbeats 4000000 in
set_option maxRecDepth 100000 in
theorem w_X1_isNeither {r : Int32 × x_S} {a1 : Int32} (hC : x_C p s m args meth c cX1_isNeither 2 RX1 E A) (hR : x_Rz p l e { frames := 0, cells := 0, slots := 0, locals := 0 } s m args below meth c cX1_isNeither E A Q (cw E ad ap r.2) r.1) (hI : x_I E A s.heap (cw E ad ap S) H locs) (hl : lv_has ls 2 [(0, .ref (ad 199)), (1, .int a1)]) (hf : f_X1_isNeither n S a1 = some r) : W p l e { frames := 0, cells := 0, slots := 0, locals := 0 } s m args below meth c H locs 0 0 Q (F0 m 0 ls []) := by
  obtain ⟨hx, hb, hml, hown, hts, hK, hN, hA⟩ := id hC
  unfold f_X1_isNeither at hf
  refine lv_iload_n hx hb dX1_isNeither_0 rfl (lv_at hl 1 rfl) ?_
  refine lv_aload_n hx hb dX1_isNeither_1 rfl (lv_at hl 0 rfl) ?_
  refine gX1_4 hC hI lkf_X1_30 dX1_isNeither_2 ?_
  refine lv_aload_n hx hb dX1_isNeither_5 rfl (lv_at hl 0 rfl) ?_
  refine gX1_2 hC hI hf lkf_X1_22 dX1_isNeither_6 (fun v1 hf => ?_)
  refine lv_iconst (v := (1 : Int32)) hx hb dX1_isNeither_9 (by decide) ?_
  refine lv_isub hx hb dX1_isNeither_10 ?_
  refine aX1_4 hC hI hf dX1_isNeither_11 (fun v2 hf => ?_)
  refine x_ieq hC 34 hf dX1_isNeither_12 (by decide) (fun hf => ?_) (fun hf => ?_)
  · refine lv_iconst (v := (0 : Int32)) hx hb dX1_isNeither_34 (by decide) ?_
    obtain ⟨h9, hf⟩ := x_g_eq hf
    obtain rfl := Option.some.inj hf
    exact hR _ _ _ _ h9 hI dX1_isNeither_35
  · refine lv_iload_n hx hb dX1_isNeither_15 rfl (lv_at hl 1 rfl) ?_
    refine lv_aload_n hx hb dX1_isNeither_16 rfl (lv_at hl 0 rfl) ?_
    refine gX1_5 hC hI lkf_X1_33 dX1_isNeither_17 ?_
    refine lv_aload_n hx hb dX1_isNeither_20 rfl (lv_at hl 0 rfl) ?_
    refine gX1_2 hC hI hf lkf_X1_22 dX1_isNeither_21 (fun v3 hf => ?_)
    refine lv_iconst (v := (1 : Int32)) hx hb dX1_isNeither_24 (by decide) ?_
    refine lv_isub hx hb dX1_isNeither_25 ?_
    refine aX1_5 hC hI hf dX1_isNeither_26 (fun v4 hf => ?_)
    refine x_ieq hC 34 hf dX1_isNeither_27 (by decide) (fun hf => ?_) (fun hf => ?_)
    · refine lv_iconst (v := (0 : Int32)) hx hb dX1_isNeither_34 (by decide) ?_
      obtain ⟨h9, hf⟩ := x_g_eq hf
      obtain rfl := Option.some.inj hf
      exact hR _ _ _ _ h9 hI dX1_isNeither_35
    · refine lv_iconst (v := (1 : Int32)) hx hb dX1_isNeither_30 (by decide) ?_
      refine lv_goto (tgt := 35) hx hb dX1_isNeither_31 (by decide) ?_
      obtain ⟨h9, hf⟩ := x_g_eq hf
      obtain rfl := Option.some.inj hf
      exact hR _ _ _ _ h9 hI dX1_isNeither_35
theorem c_X1_isNeither {a1 : Int32} {v : Int32} {S1 : x_S} (hf : f_X1_isNeither n S a1 = some (v, S1)) : x_M l yX1_isNeither cX1_isNeither 2 (some .boolean) 0 0 E [.ref (ad 199), .int a1] (cw E ad ap S) (cw E ad ap S1) (some (.int v)) :=
  x_entZ (by decide) (Nat.le_of_ble_eq_true rfl) (fun p e s m args below meth c A Q ls hC hI hR hl => w_X1_isNeither (r := (v, S1)) hC hR hI hl hf)
-- X1_isIf
def f_X1_isIf (n : Nat) (S : x_S) (a1 : Int32) : Option (Int32 × x_S) :=
x_o (g_rf S 101) (
none) (fun i1 =>
x_g (i1 < g_np S) (
x_g (i1 < g_np S) (x_g (¬ (a1 < 0 ∨ 60 ≤ (a1).toNatClampNeg)) (x_let (g_pa S 3 i1 (a1).toNatClampNeg) (fun v2 =>
x_o (g_rf S 101) (
none) (fun i3 =>
x_g (i3 < g_np S) (
x_g (i3 < g_np S) (x_g (¬ (a1 < 0 ∨ 60 ≤ (a1).toNatClampNeg)) (x_let (g_pa S 0 i3 (a1).toNatClampNeg) (fun v4 =>
if v4 = (3 : Int32) then
if v2 ≤ a1 then
x_g ((0 : Int32) = 0 ∨ (0 : Int32) = 1) (some ((0 : Int32), S))
else
x_let (g_sc S 102) (fun v5 =>
x_g (¬ ((v5 - (1 : Int32)) < 0 ∨ 61 ≤ ((v5 - (1 : Int32))).toNatClampNeg)) (x_let (g_ar S 103 ((v5 - (1 : Int32))).toNatClampNeg) (fun v6 =>
if v6 < v2 then
x_g ((0 : Int32) = 0 ∨ (0 : Int32) = 1) (some ((0 : Int32), S))
else
x_b2 (f_X1_isNeither n S v2) (fun v8 S =>
if v8 = 0 then
x_g ((0 : Int32) = 0 ∨ (0 : Int32) = 1) (some ((0 : Int32), S))
else
x_g ((1 : Int32) = 0 ∨ (1 : Int32) = 1) (some ((1 : Int32), S))))))
else
x_g ((0 : Int32) = 0 ∨ (0 : Int32) = 1) (some ((0 : Int32), S))))))))))))
set_option maxHeartbeats 4000000 in
set_option maxRecDepth 100000 in
theorem w_X1_isIf {r : Int32 × x_S} {a1 : Int32} (hC : x_C p s m args meth c cX1_isIf 3 RX1 E A) (hR : x_Rz p l e { frames := 1, cells := 0, slots := 0, locals := 21 } s m args below meth c cX1_isIf E A Q (cw E ad ap r.2) r.1) (hI : x_I E A s.heap (cw E ad ap S) H locs) (hl : lv_has ls 3 [(0, .ref (ad 199)), (1, .int a1)]) (hf : f_X1_isIf n S a1 = some r) : W p l e { frames := 1, cells := 0, slots := 0, locals := 21 } s m args below meth c H locs 0 0 Q (F0 m 0 ls []) := by
  obtain ⟨hx, hb, hml, hown, hts, hK, hN, hA⟩ := id hC
  unfold f_X1_isIf at hf
  refine lv_aload_n hx hb dX1_isIf_0 rfl (lv_at hl 0 rfl) ?_
  refine gX1_1 hC hI lkf_X1_18 dX1_isIf_1 ?_
  refine x_casesR hf (fun hf => ?_) (fun i1 hf => ?_)
  · cases hf
  · refine gX2_3 hC hI hf lkf_X1_128 dX1_isIf_4 (fun hf => ?_)
    refine lv_iload_n hx hb dX1_isIf_7 rfl (lv_at hl 1 rfl) ?_
    refine aX2_3 hC hI hf dX1_isIf_8 (fun v2 hf => ?_)
    refine lv_istore_n (lv' := [(2, .int v2), (0, .ref (ad 199)), (1, .int a1)]) hx hb dX1_isIf_9 rfl hl (by decide) rfl (fun ls hl => ?_)
    refine lv_aload_n hx hb dX1_isIf_10 rfl (lv_at hl 1 rfl) ?_
    refine gX1_1 hC hI lkf_X1_18 dX1_isIf_11 ?_
    refine x_casesR hf (fun hf => ?_) (fun i3 hf => ?_)
    · cases hf
    · refine gX2_0 hC hI hf lkf_X1_102 dX1_isIf_14 (fun hf => ?_)
      refine lv_iload_n hx hb dX1_isIf_17 rfl (lv_at hl 2 rfl) ?_
      refine aX2_0 hC hI hf dX1_isIf_18 (fun v4 hf => ?_)
      refine lv_iconst (v := (3 : Int32)) hx hb dX1_isIf_19 (by decide) ?_
      refine x_ine hC 55 hf dX1_isIf_20 (by decide) (fun hf => ?_) (fun hf => ?_)
      · refine lv_iconst (v := (0 : Int32)) hx hb dX1_isIf_55 (by decide) ?_
        obtain ⟨h9, hf⟩ := x_g_eq hf
        obtain rfl := Option.some.inj hf
        exact hR _ _ _ _ h9 hI dX1_isIf_56
      · refine lv_iload_n hx hb dX1_isIf_23 rfl (lv_at hl 0 rfl) ?_
        refine lv_iload_n hx hb dX1_isIf_24 rfl (lv_at hl 2 rfl) ?_
        refine x_ile hC 55 hf dX1_isIf_25 (by decide) (fun hf => ?_) (fun hf => ?_)
        · refine lv_iconst (v := (0 : Int32)) hx hb dX1_isIf_55 (by decide) ?_
          obtain ⟨h9, hf⟩ := x_g_eq hf
          obtain rfl := Option.some.inj hf
          exact hR _ _ _ _ h9 hI dX1_isIf_56
        · refine lv_iload_n hx hb dX1_isIf_28 rfl (lv_at hl 0 rfl) ?_
          refine lv_aload_n hx hb dX1_isIf_29 rfl (lv_at hl 1 rfl) ?_
          refine gX1_3 hC hI lkf_X1_26 dX1_isIf_30 ?_
          refine lv_aload_n hx hb dX1_isIf_33 rfl (lv_at hl 1 rfl) ?_
          refine gX1_2 hC hI hf lkf_X1_22 dX1_isIf_34 (fun v5 hf => ?_)
          refine lv_iconst (v := (1 : Int32)) hx hb dX1_isIf_37 (by decide) ?_
          refine lv_isub hx hb dX1_isIf_38 ?_
          refine aX1_3 hC hI hf dX1_isIf_39 (fun v6 hf => ?_)
          refine x_igt hC 55 hf dX1_isIf_40 (by decide) (fun hf => ?_) (fun hf => ?_)
          · refine lv_iconst (v := (0 : Int32)) hx hb dX1_isIf_55 (by decide) ?_
            obtain ⟨h9, hf⟩ := x_g_eq hf
            obtain rfl := Option.some.inj hf
            exact hR _ _ _ _ h9 hI dX1_isIf_56
          · refine lv_aload_n hx hb dX1_isIf_43 rfl (lv_at hl 1 rfl) ?_
            refine lv_iload_n hx hb dX1_isIf_44 rfl (lv_at hl 0 rfl) ?_
            obtain ⟨v8, S, hc7, hf⟩ := x_b2_eq hf
            refine x_callV hC hI (c_X1_isNeither hc7) 2 1 rfl rfl kv_X1_134 rfl ⟨Nat.le_of_ble_eq_true rfl, Nat.le_of_ble_eq_true rfl⟩ ⟨Nat.le_refl _, Nat.le_refl _⟩ hl.1 rfl (Nat.le_of_ble_eq_true rfl) dX1_isIf_45 (fun H locs hI => ?_)
            refine x_eq0 hC 55 hf dX1_isIf_48 (by decide) (fun hf => ?_) (fun hf => ?_)
            · refine lv_iconst (v := (0 : Int32)) hx hb dX1_isIf_55 (by decide) ?_
              obtain ⟨h9, hf⟩ := x_g_eq hf
              obtain rfl := Option.some.inj hf
              exact hR _ _ _ _ h9 hI dX1_isIf_56
            · refine lv_iconst (v := (1 : Int32)) hx hb dX1_isIf_51 (by decide) ?_
              refine lv_goto (tgt := 56) hx hb dX1_isIf_52 (by decide) ?_
              obtain ⟨h9, hf⟩ := x_g_eq hf
              obtain rfl := Option.some.inj hf
              exact hR _ _ _ _ h9 hI dX1_isIf_56
theorem c_X1_isIf {a1 : Int32} {v : Int32} {S1 : x_S} (hf : f_X1_isIf n S a1 = some (v, S1)) : x_M l yX1_isIf cX1_isIf 3 (some .boolean) 1 21 E [.ref (ad 199), .int a1] (cw E ad ap S) (cw E ad ap S1) (some (.int v)) :=
  x_entZ (by decide) (Nat.le_of_ble_eq_true rfl) (fun p e s m args below meth c A Q ls hC hI hR hl => w_X1_isIf (r := (v, S1)) hC hR hI hl hf)
-- X1_begin
def f_X1_begin (n : Nat) (S : x_S) (a1 : Int32) (a2 : Int32) (a3 : Int32) (a4 : Int32) : Option (Int32 × x_S) :=
x_let (g_sc S 408) (fun v1 =>
if v1 < (60 : Int32) then
x_g (¬ (v1 < 0 ∨ 60 ≤ (v1).toNatClampNeg)) (x_let (s_ar S 400 (v1).toNatClampNeg a1) (fun S =>
x_g (¬ (v1 < 0 ∨ 60 ≤ (v1).toNatClampNeg)) (x_let (s_ar S 401 (v1).toNatClampNeg a2) (fun S =>
x_g (¬ (v1 < 0 ∨ 60 ≤ (v1).toNatClampNeg)) (x_let (s_ar S 402 (v1).toNatClampNeg a3) (fun S =>
x_let (g_sc S 102) (fun v2 =>
x_g (¬ ((v2 - (1 : Int32)) < 0 ∨ 61 ≤ ((v2 - (1 : Int32))).toNatClampNeg)) (x_let (g_ar S 106 ((v2 - (1 : Int32))).toNatClampNeg) (fun v3 =>
x_g (¬ (v1 < 0 ∨ 60 ≤ (v1).toNatClampNeg)) (x_let (s_ar S 403 (v1).toNatClampNeg v3) (fun S =>
x_let (g_sc S 102) (fun v4 =>
x_g (¬ ((v4 - (1 : Int32)) < 0 ∨ 61 ≤ ((v4 - (1 : Int32))).toNatClampNeg)) (x_let (g_ar S 107 ((v4 - (1 : Int32))).toNatClampNeg) (fun v5 =>
x_g (¬ (v1 < 0 ∨ 60 ≤ (v1).toNatClampNeg)) (x_let (s_ar S 404 (v1).toNatClampNeg v5) (fun S =>
x_g (¬ (v1 < 0 ∨ 60 ≤ (v1).toNatClampNeg)) (x_let (s_ar S 405 (v1).toNatClampNeg (0 : Int32)) (fun S =>
x_g (¬ (a4 < 0 ∨ 60 ≤ (a4).toNatClampNeg)) (x_let (s_ar S 406 (a4).toNatClampNeg v1) (fun S =>
x_let (s_sc S 408 (v1 + (1 : Int32))) (fun S =>
x_let (g_sc S 102) (fun v6 =>
x_g (¬ ((v6 - (1 : Int32)) < 0 ∨ 61 ≤ ((v6 - (1 : Int32))).toNatClampNeg)) (x_let (g_ar S 108 ((v6 - (1 : Int32))).toNatClampNeg) (fun v7 =>
x_g (¬ (v7 < 0 ∨ 241 ≤ (v7).toNatClampNeg)) (x_let (g_ar S 407 (v7).toNatClampNeg) (fun v8 =>
x_g (¬ (v7 < 0 ∨ 241 ≤ (v7).toNatClampNeg)) (x_let (s_ar S 407 (v7).toNatClampNeg (v8 + (1 : Int32))) (fun S =>
x_b (f_X4_word n S a1) (fun S =>
some (v1, S))))))))))))))))))))))))))))))
else
some ((-1 : Int32), S))
set_option maxHeartbeats 4000000 in
set_option maxRecDepth 100000 in
theorem w_X1_begin {r : Int32 × x_S} {a1 : Int32} {a2 : Int32} {a3 : Int32} {a4 : Int32} (hC : x_C p s m args meth c cX1_begin 6 RX1 E A) (hR : x_Ri p l e { frames := 1, cells := 0, slots := 0, locals := 21 } s m args below meth c cX1_begin E A Q (cw E ad ap r.2) r.1) (hI : x_I E A s.heap (cw E ad ap S) H locs) (hl : lv_has ls 6 [(0, .ref (ad 199)), (1, .int a1), (2, .int a2), (3, .int a3), (4, .int a4)]) (hf : f_X1_begin n S a1 a2 a3 a4 = some r) : W p l e { frames := 1, cells := 0, slots := 0, locals := 21 } s m args below meth c H locs 0 0 Q (F0 m 0 ls []) := by
  obtain ⟨hx, hb, hml, hown, hts, hK, hN, hA⟩ := id hC
  unfold f_X1_begin at hf
  refine lv_aload_n hx hb dX1_begin_0 rfl (lv_at hl 0 rfl) ?_
  refine gX1_0 hC hI lkf_X1_12 dX1_begin_1 ?_
  refine gX4_8 hC hI hf lkf_X1_89 dX1_begin_4 (fun v1 hf => ?_)
  refine lv_istore (lv' := [(5, .int v1), (0, .ref (ad 199)), (1, .int a1), (2, .int a2), (3, .int a3), (4, .int a4)]) hx hb dX1_begin_7 hl (by decide) rfl (fun ls hl => ?_)
  refine lv_iload hx hb dX1_begin_9 (lv_at hl 0 rfl) ?_
  refine lv_bipush (v := (60 : Int32)) hx hb dX1_begin_11 (by decide) ?_
  refine x_ilt hC 18 hf dX1_begin_13 (by decide) (fun hf => ?_) (fun hf => ?_)
  · refine lv_aload_n hx hb dX1_begin_18 rfl (lv_at hl 1 rfl) ?_
    refine gX1_0 hC hI lkf_X1_12 dX1_begin_19 ?_
    refine gX4_0 hC hI lkf_X1_80 dX1_begin_22 ?_
    refine lv_iload hx hb dX1_begin_25 (lv_at hl 0 rfl) ?_
    refine lv_iload_n hx hb dX1_begin_27 rfl (lv_at hl 2 rfl) ?_
    refine tX4_0 hC hI hf dX1_begin_28 (fun S H locs hI hf => ?_)
    refine lv_aload_n hx hb dX1_begin_29 rfl (lv_at hl 1 rfl) ?_
    refine gX1_0 hC hI lkf_X1_12 dX1_begin_30 ?_
    refine gX4_1 hC hI lkf_X1_118 dX1_begin_33 ?_
    refine lv_iload hx hb dX1_begin_36 (lv_at hl 0 rfl) ?_
    refine lv_iload_n hx hb dX1_begin_38 rfl (lv_at hl 3 rfl) ?_
    refine tX4_1 hC hI hf dX1_begin_39 (fun S H locs hI hf => ?_)
    refine lv_aload_n hx hb dX1_begin_40 rfl (lv_at hl 1 rfl) ?_
    refine gX1_0 hC hI lkf_X1_12 dX1_begin_41 ?_
    refine gX4_2 hC hI lkf_X1_83 dX1_begin_44 ?_
    refine lv_iload hx hb dX1_begin_47 (lv_at hl 0 rfl) ?_
    refine lv_iload_n hx hb dX1_begin_49 rfl (lv_at hl 4 rfl) ?_
    refine tX4_2 hC hI hf dX1_begin_50 (fun S H locs hI hf => ?_)
    refine lv_aload_n hx hb dX1_begin_51 rfl (lv_at hl 1 rfl) ?_
    refine gX1_0 hC hI lkf_X1_12 dX1_begin_52 ?_
    refine gX4_3 hC hI lkf_X1_143 dX1_begin_55 ?_
    refine lv_iload hx hb dX1_begin_58 (lv_at hl 0 rfl) ?_
    refine lv_aload_n hx hb dX1_begin_60 rfl (lv_at hl 1 rfl) ?_
    refine gX1_6 hC hI lkf_X1_36 dX1_begin_61 ?_
    refine lv_aload_n hx hb dX1_begin_64 rfl (lv_at hl 1 rfl) ?_
    refine gX1_2 hC hI hf lkf_X1_22 dX1_begin_65 (fun v2 hf => ?_)
    refine lv_iconst (v := (1 : Int32)) hx hb dX1_begin_68 (by decide) ?_
    refine lv_isub hx hb dX1_begin_69 ?_
    refine aX1_6 hC hI hf dX1_begin_70 (fun v3 hf => ?_)
    refine tX4_3 hC hI hf dX1_begin_71 (fun S H locs hI hf => ?_)
    refine lv_aload_n hx hb dX1_begin_72 rfl (lv_at hl 1 rfl) ?_
    refine gX1_0 hC hI lkf_X1_12 dX1_begin_73 ?_
    refine gX4_4 hC hI lkf_X1_146 dX1_begin_76 ?_
    refine lv_iload hx hb dX1_begin_79 (lv_at hl 0 rfl) ?_
    refine lv_aload_n hx hb dX1_begin_81 rfl (lv_at hl 1 rfl) ?_
    refine gX1_7 hC hI lkf_X1_39 dX1_begin_82 ?_
    refine lv_aload_n hx hb dX1_begin_85 rfl (lv_at hl 1 rfl) ?_
    refine gX1_2 hC hI hf lkf_X1_22 dX1_begin_86 (fun v4 hf => ?_)
    refine lv_iconst (v := (1 : Int32)) hx hb dX1_begin_89 (by decide) ?_
    refine lv_isub hx hb dX1_begin_90 ?_
    refine aX1_7 hC hI hf dX1_begin_91 (fun v5 hf => ?_)
    refine tX4_4 hC hI hf dX1_begin_92 (fun S H locs hI hf => ?_)
    refine lv_aload_n hx hb dX1_begin_93 rfl (lv_at hl 1 rfl) ?_
    refine gX1_0 hC hI lkf_X1_12 dX1_begin_94 ?_
    refine gX4_5 hC hI lkf_X1_86 dX1_begin_97 ?_
    refine lv_iload hx hb dX1_begin_100 (lv_at hl 0 rfl) ?_
    refine lv_iconst (v := (0 : Int32)) hx hb dX1_begin_102 (by decide) ?_
    refine tX4_5 hC hI hf dX1_begin_103 (fun S H locs hI hf => ?_)
    refine lv_aload_n hx hb dX1_begin_104 rfl (lv_at hl 1 rfl) ?_
    refine gX1_0 hC hI lkf_X1_12 dX1_begin_105 ?_
    refine gX4_6 hC hI lkf_X1_131 dX1_begin_108 ?_
    refine lv_iload hx hb dX1_begin_111 (lv_at hl 5 rfl) ?_
    refine lv_iload hx hb dX1_begin_113 (lv_at hl 0 rfl) ?_
    refine tX4_6 hC hI hf dX1_begin_115 (fun S H locs hI hf => ?_)
    refine lv_aload_n hx hb dX1_begin_116 rfl (lv_at hl 1 rfl) ?_
    refine gX1_0 hC hI lkf_X1_12 dX1_begin_117 ?_
    refine lv_iload hx hb dX1_begin_120 (lv_at hl 0 rfl) ?_
    refine lv_iconst (v := (1 : Int32)) hx hb dX1_begin_122 (by decide) ?_
    refine lv_iadd hx hb dX1_begin_123 ?_
    refine pX4_8 hC hI hf lkf_X1_89 dX1_begin_124 (fun S H locs hI hf => ?_)
    refine lv_aload_n hx hb dX1_begin_127 rfl (lv_at hl 1 rfl) ?_
    refine gX1_0 hC hI lkf_X1_12 dX1_begin_128 ?_
    refine gX4_7 hC hI lkf_X1_149 dX1_begin_131 ?_
    refine lv_aload_n hx hb dX1_begin_134 rfl (lv_at hl 1 rfl) ?_
    refine gX1_8 hC hI lkf_X1_42 dX1_begin_135 ?_
    refine lv_aload_n hx hb dX1_begin_138 rfl (lv_at hl 1 rfl) ?_
    refine gX1_2 hC hI hf lkf_X1_22 dX1_begin_139 (fun v6 hf => ?_)
    refine lv_iconst (v := (1 : Int32)) hx hb dX1_begin_142 (by decide) ?_
    refine lv_isub hx hb dX1_begin_143 ?_
    refine aX1_8 hC hI hf dX1_begin_144 (fun v7 hf => ?_)
    refine lv_dup2_11 hx hb dX1_begin_145 rfl rfl ?_
    refine aX4_7 hC hI hf dX1_begin_146 (fun v8 hf => ?_)
    refine lv_iconst (v := (1 : Int32)) hx hb dX1_begin_147 (by decide) ?_
    refine lv_iadd hx hb dX1_begin_148 ?_
    refine tX4_7 hC hI hf dX1_begin_149 (fun S H locs hI hf => ?_)
    refine lv_aload_n hx hb dX1_begin_150 rfl (lv_at hl 1 rfl) ?_
    refine gX1_0 hC hI lkf_X1_12 dX1_begin_151 ?_
    refine lv_iload_n hx hb dX1_begin_154 rfl (lv_at hl 2 rfl) ?_
    obtain ⟨S, hc9, hf⟩ := x_b_eq hf
    refine x_callV hC hI (c_X4_word hc9) 4 4 rfl rfl kv_X1_67 rfl ⟨Nat.le_of_ble_eq_true rfl, Nat.le_of_ble_eq_true rfl⟩ ⟨Nat.le_refl _, Nat.le_refl _⟩ hl.1 rfl (Nat.le_of_ble_eq_true rfl) dX1_begin_155 (fun H locs hI => ?_)
    refine lv_iload hx hb dX1_begin_158 (lv_at hl 0 rfl) ?_
    obtain rfl := Option.some.inj hf
    exact hR _ _ _ _ hI dX1_begin_160
  · refine lv_iconst (v := (-1 : Int32)) hx hb dX1_begin_16 (by decide) ?_
    obtain rfl := Option.some.inj hf
    exact hR _ _ _ _ hI dX1_begin_17
theorem c_X1_begin {a1 : Int32} {a2 : Int32} {a3 : Int32} {a4 : Int32} {v : Int32} {S1 : x_S} (hf : f_X1_begin n S a1 a2 a3 a4 = some (v, S1)) : x_M l yX1_begin cX1_begin 6 (some .int) 1 21 E [.ref (ad 199), .int a1, .int a2, .int a3, .int a4] (cw E ad ap S) (cw E ad ap S1) (some (.int v)) :=
  x_entI (by decide) (Nat.le_of_ble_eq_true rfl) (fun p e s m args below meth c A Q ls hC hI hR hl => w_X1_begin (r := (v, S1)) hC hR hI hl hf)
-- X1_wordTest
def f_X1_wordTest (n : Nat) (S : x_S) (a1 : Int32) : Option (x_S) :=
x_o (g_rf S 101) (
none) (fun i1 =>
x_g (i1 < g_np S) (
x_g (i1 < g_np S) (x_g (¬ (a1 < 0 ∨ 60 ≤ (a1).toNatClampNeg)) (x_let (g_pa S 1 i1 (a1).toNatClampNeg) (fun v2 =>
x_b (f_X4_word n S v2) (fun S =>
x_o (g_rf S 101) (
none) (fun i4 =>
x_g (i4 < g_np S) (
x_g (i4 < g_np S) (x_g (¬ (a1 < 0 ∨ 60 ≤ (a1).toNatClampNeg)) (x_let (g_pa S 2 i4 (a1).toNatClampNeg) (fun v5 =>
x_b (f_X4_word n S v5) (fun S =>
some S))))))))))))
set_option maxHeartbeats 4000000 in
set_option maxRecDepth 100000 in
theorem w_X1_wordTest {r : x_S} {a1 : Int32} (hC : x_C p s m args meth c cX1_wordTest 2 RX1 E A) (hR : x_Rv p l e { frames := 1, cells := 0, slots := 0, locals := 21 } s m args below meth c cX1_wordTest E A Q (cw E ad ap r)) (hI : x_I E A s.heap (cw E ad ap S) H locs) (hl : lv_has ls 2 [(0, .ref (ad 199)), (1, .int a1)]) (hf : f_X1_wordTest n S a1 = some r) : W p l e { frames := 1, cells := 0, slots := 0, locals := 21 } s m args below meth c H locs 0 0 Q (F0 m 0 ls []) := by
  obtain ⟨hx, hb, hml, hown, hts, hK, hN, hA⟩ := id hC
  unfold f_X1_wordTest at hf
  refine lv_aload_n hx hb dX1_wordTest_0 rfl (lv_at hl 0 rfl) ?_
  refine gX1_0 hC hI lkf_X1_12 dX1_wordTest_1 ?_
  refine lv_aload_n hx hb dX1_wordTest_4 rfl (lv_at hl 0 rfl) ?_
  refine gX1_1 hC hI lkf_X1_18 dX1_wordTest_5 ?_
  refine x_casesR hf (fun hf => ?_) (fun i1 hf => ?_)
  · cases hf
  · refine gX2_1 hC hI hf lkf_X1_152 dX1_wordTest_8 (fun hf => ?_)
    refine lv_iload_n hx hb dX1_wordTest_11 rfl (lv_at hl 1 rfl) ?_
    refine aX2_1 hC hI hf dX1_wordTest_12 (fun v2 hf => ?_)
    obtain ⟨S, hc3, hf⟩ := x_b_eq hf
    refine x_callV hC hI (c_X4_word hc3) 4 4 rfl rfl kv_X1_67 rfl ⟨Nat.le_of_ble_eq_true rfl, Nat.le_of_ble_eq_true rfl⟩ ⟨Nat.le_refl _, Nat.le_refl _⟩ hl.1 rfl (Nat.le_of_ble_eq_true rfl) dX1_wordTest_13 (fun H locs hI => ?_)
    refine lv_aload_n hx hb dX1_wordTest_16 rfl (lv_at hl 0 rfl) ?_
    refine gX1_0 hC hI lkf_X1_12 dX1_wordTest_17 ?_
    refine lv_aload_n hx hb dX1_wordTest_20 rfl (lv_at hl 0 rfl) ?_
    refine gX1_1 hC hI lkf_X1_18 dX1_wordTest_21 ?_
    refine x_casesR hf (fun hf => ?_) (fun i4 hf => ?_)
    · cases hf
    · refine gX2_2 hC hI hf lkf_X1_155 dX1_wordTest_24 (fun hf => ?_)
      refine lv_iload_n hx hb dX1_wordTest_27 rfl (lv_at hl 1 rfl) ?_
      refine aX2_2 hC hI hf dX1_wordTest_28 (fun v5 hf => ?_)
      obtain ⟨S, hc6, hf⟩ := x_b_eq hf
      refine x_callV hC hI (c_X4_word hc6) 4 4 rfl rfl kv_X1_67 rfl ⟨Nat.le_of_ble_eq_true rfl, Nat.le_of_ble_eq_true rfl⟩ ⟨Nat.le_refl _, Nat.le_refl _⟩ hl.1 rfl (Nat.le_of_ble_eq_true rfl) dX1_wordTest_29 (fun H locs hI => ?_)
      obtain rfl := Option.some.inj hf
      exact hR _ _ _ _ hI dX1_wordTest_32
theorem c_X1_wordTest {a1 : Int32} {S1 : x_S} (hf : f_X1_wordTest n S a1 = some S1) : x_M l yX1_wordTest cX1_wordTest 2 none 1 21 E [.ref (ad 199), .int a1] (cw E ad ap S) (cw E ad ap S1) none :=
  x_entV (by decide) (Nat.le_of_ble_eq_true rfl) (fun p e s m args below meth c A Q ls hC hI hR hl => w_X1_wordTest (r := S1) hC hR hI hl hf)
-- X1_readLeap
def f_X1_readLeap_110 (n : Nat) (S : x_S) (a1 : Int32) (a2 : Int32) (a4 : Int32) : Option (Int32 × x_S) :=
if a4 = (8 : Int32) then
x_b (f_X4_word n S a2) (fun S =>
x_let (g_sc S 410) (fun v12 =>
x_let (s_sc S 410 (v12 + (1 : Int32))) (fun S =>
some ((a1 + (1 : Int32)), S))))
else
some ((a1 + (1 : Int32)), S)
set_option maxHeartbeats 4000000 in
set_option maxRecDepth 100000 in
theorem w_X1_readLeap_110 {r : Int32 × x_S} {a1 : Int32} {a2 : Int32} {a4 : Int32} (hC : x_C p s m args meth c cX1_readLeap 5 RX1 E A) (hR : x_Ri p l e { frames := 2, cells := 0, slots := 0, locals := 46 } s m args below meth c cX1_readLeap E A Q (cw E ad ap r.2) r.1) (hI : x_I E A s.heap (cw E ad ap S) H locs) (hl : lv_has ls 5 [(0, .ref (ad 199)), (1, .int a1), (2, .int a2), (4, .int a4)]) (hf : f_X1_readLeap_110 n S a1 a2 a4 = some r) : W p l e { frames := 2, cells := 0, slots := 0, locals := 46 } s m args below meth c H locs 0 0 Q (F0 m 110 ls []) := by
  obtain ⟨hx, hb, hml, hown, hts, hK, hN, hA⟩ := id hC
  unfold f_X1_readLeap_110 at hf
  refine lv_iload hx hb dX1_readLeap_110 (lv_at hl 3 rfl) ?_
  refine lv_bipush (v := (8 : Int32)) hx hb dX1_readLeap_112 (by decide) ?_
  refine x_ine hC 138 hf dX1_readLeap_114 (by decide) (fun hf => ?_) (fun hf => ?_)
  · refine lv_iload_n hx hb dX1_readLeap_138 rfl (lv_at hl 1 rfl) ?_
    refine lv_iconst (v := (1 : Int32)) hx hb dX1_readLeap_139 (by decide) ?_
    refine lv_iadd hx hb dX1_readLeap_140 ?_
    obtain rfl := Option.some.inj hf
    exact hR _ _ _ _ hI dX1_readLeap_141
  · refine lv_aload_n hx hb dX1_readLeap_117 rfl (lv_at hl 0 rfl) ?_
    refine gX1_0 hC hI lkf_X1_12 dX1_readLeap_118 ?_
    refine lv_iload_n hx hb dX1_readLeap_121 rfl (lv_at hl 2 rfl) ?_
    obtain ⟨S, hc11, hf⟩ := x_b_eq hf
    refine x_callV hC hI (c_X4_word hc11) 4 4 rfl rfl kv_X1_67 rfl ⟨Nat.le_of_ble_eq_true rfl, Nat.le_of_ble_eq_true rfl⟩ ⟨Nat.le_refl _, Nat.le_refl _⟩ hl.1 rfl (Nat.le_of_ble_eq_true rfl) dX1_readLeap_122 (fun H locs hI => ?_)
    refine lv_aload_n hx hb dX1_readLeap_125 rfl (lv_at hl 0 rfl) ?_
    refine gX1_0 hC hI lkf_X1_12 dX1_readLeap_126 ?_
    refine lv_dup hx hb dX1_readLeap_129 rfl ?_
    refine gX4_10 hC hI hf lkf_X1_140 dX1_readLeap_130 (fun v12 hf => ?_)
    refine lv_iconst (v := (1 : Int32)) hx hb dX1_readLeap_133 (by decide) ?_
    refine lv_iadd hx hb dX1_readLeap_134 ?_
    refine pX4_10 hC hI hf lkf_X1_140 dX1_readLeap_135 (fun S H locs hI hf => ?_)
    refine lv_iload_n hx hb dX1_readLeap_138 rfl (lv_at hl 1 rfl) ?_
    refine lv_iconst (v := (1 : Int32)) hx hb dX1_readLeap_139 (by decide) ?_
    refine lv_iadd hx hb dX1_readLeap_140 ?_
    obtain rfl := Option.some.inj hf
    exact hR _ _ _ _ hI dX1_readLeap_141
def f_X1_readLeap_92 (n : Nat) (S : x_S) (a1 : Int32) (a2 : Int32) (a3 : Int32) (a4 : Int32) (t0 : Int32) : Option (Int32 × x_S) :=
x_b2 (f_X1_begin n S t0 a1 (a1 + (1 : Int32)) a1) (fun v10 S =>
if a3 = 0 then
f_X1_readLeap_110 n S a1 a2 a4
else
x_b (f_X1_wordTest n S a1) (fun S =>
f_X1_readLeap_110 n S a1 a2 a4))
set_option maxHeartbeats 4000000 in
set_option maxRecDepth 100000 in
theorem w_X1_readLeap_92 {r : Int32 × x_S} {a1 : Int32} {a2 : Int32} {a3 : Int32} {a4 : Int32} {t0 : Int32} (hC : x_C p s m args meth c cX1_readLeap 5 RX1 E A) (hR : x_Ri p l e { frames := 2, cells := 0, slots := 0, locals := 46 } s m args below meth c cX1_readLeap E A Q (cw E ad ap r.2) r.1) (hI : x_I E A s.heap (cw E ad ap S) H locs) (hl : lv_has ls 5 [(0, .ref (ad 199)), (1, .int a1), (2, .int a2), (3, .int a3), (4, .int a4)]) (hf : f_X1_readLeap_92 n S a1 a2 a3 a4 t0 = some r) : W p l e { frames := 2, cells := 0, slots := 0, locals := 46 } s m args below meth c H locs 0 0 Q (F0 m 92 ls [.int t0, .ref (ad 199)]) := by
  obtain ⟨hx, hb, hml, hown, hts, hK, hN, hA⟩ := id hC
  unfold f_X1_readLeap_92 at hf
  refine lv_iload_n hx hb dX1_readLeap_92 rfl (lv_at hl 1 rfl) ?_
  refine lv_iload_n hx hb dX1_readLeap_93 rfl (lv_at hl 1 rfl) ?_
  refine lv_iconst (v := (1 : Int32)) hx hb dX1_readLeap_94 (by decide) ?_
  refine lv_iadd hx hb dX1_readLeap_95 ?_
  refine lv_iload_n hx hb dX1_readLeap_96 rfl (lv_at hl 1 rfl) ?_
  obtain ⟨v10, S, hc9, hf⟩ := x_b2_eq hf
  refine x_callV hC hI (c_X1_begin hc9) 2 1 rfl rfl kv_X1_121 rfl ⟨Nat.le_of_ble_eq_true rfl, Nat.le_of_ble_eq_true rfl⟩ ⟨Nat.le_refl _, Nat.le_refl _⟩ hl.1 rfl (Nat.le_of_ble_eq_true rfl) dX1_readLeap_97 (fun H locs hI => ?_)
  refine lv_pop hx hb dX1_readLeap_100 rfl ?_
  refine lv_iload_n hx hb dX1_readLeap_101 rfl (lv_at hl 3 rfl) ?_
  refine x_eq0 hC 110 hf dX1_readLeap_102 (by decide) (fun hf => ?_) (fun hf => ?_)
  · exact w_X1_readLeap_110 hC hR hI (lv_sub hl [0, 1, 2, 4] rfl) hf
  · refine lv_aload_n hx hb dX1_readLeap_105 rfl (lv_at hl 0 rfl) ?_
    refine lv_iload_n hx hb dX1_readLeap_106 rfl (lv_at hl 1 rfl) ?_
    obtain ⟨S, hc13, hf⟩ := x_b_eq hf
    refine x_callV hC hI (c_X1_wordTest hc13) 2 1 rfl rfl kv_X1_125 rfl ⟨Nat.le_of_ble_eq_true rfl, Nat.le_of_ble_eq_true rfl⟩ ⟨Nat.le_refl _, Nat.le_refl _⟩ hl.1 rfl (Nat.le_of_ble_eq_true rfl) dX1_readLeap_107 (fun H locs hI => ?_)
    exact w_X1_readLeap_110 hC hR hI (lv_sub hl [0, 1, 2, 4] rfl) hf
def f_X1_readLeap_74 (n : Nat) (S : x_S) (a1 : Int32) (a2 : Int32) (a3 : Int32) (a4 : Int32) : Option (Int32 × x_S) :=
if a3 = 0 then
f_X1_readLeap_92 n S a1 a2 a3 a4 a4
else
f_X1_readLeap_92 n S a1 a2 a3 a4 ((a4 - (6 : Int32)) + (9 : Int32))
set_option maxHeartbeats 4000000 in
set_option maxRecDepth 100000 in
theorem w_X1_readLeap_74 {r : Int32 × x_S} {a1 : Int32} {a2 : Int32} {a3 : Int32} {a4 : Int32} (hC : x_C p s m args meth c cX1_readLeap 5 RX1 E A) (hR : x_Ri p l e { frames := 2, cells := 0, slots := 0, locals := 46 } s m args below meth c cX1_readLeap E A Q (cw E ad ap r.2) r.1) (hI : x_I E A s.heap (cw E ad ap S) H locs) (hl : lv_has ls 5 [(0, .ref (ad 199)), (1, .int a1), (2, .int a2), (3, .int a3), (4, .int a4)]) (hf : f_X1_readLeap_74 n S a1 a2 a3 a4 = some r) : W p l e { frames := 2, cells := 0, slots := 0, locals := 46 } s m args below meth c H locs 0 0 Q (F0 m 74 ls []) := by
  obtain ⟨hx, hb, hml, hown, hts, hK, hN, hA⟩ := id hC
  unfold f_X1_readLeap_74 at hf
  refine lv_aload_n hx hb dX1_readLeap_74 rfl (lv_at hl 0 rfl) ?_
  refine lv_iload_n hx hb dX1_readLeap_75 rfl (lv_at hl 3 rfl) ?_
  refine x_eq0 hC 90 hf dX1_readLeap_76 (by decide) (fun hf => ?_) (fun hf => ?_)
  · refine lv_iload hx hb dX1_readLeap_90 (lv_at hl 4 rfl) ?_
    exact w_X1_readLeap_92 hC hR hI (lv_sub hl [0, 1, 2, 3, 4] rfl) hf
  · refine lv_iload hx hb dX1_readLeap_79 (lv_at hl 4 rfl) ?_
    refine lv_bipush (v := (6 : Int32)) hx hb dX1_readLeap_81 (by decide) ?_
    refine lv_isub hx hb dX1_readLeap_83 ?_
    refine lv_bipush (v := (9 : Int32)) hx hb dX1_readLeap_84 (by decide) ?_
    refine lv_iadd hx hb dX1_readLeap_86 ?_
    refine lv_goto (tgt := 92) hx hb dX1_readLeap_87 (by decide) ?_
    exact w_X1_readLeap_92 hC hR hI (lv_sub hl [0, 1, 2, 3, 4] rfl) hf
def f_X1_readLeap_28 (n : Nat) (S : x_S) (a1 : Int32) (a2 : Int32) (t0 : Int32) : Option (Int32 × x_S) :=
x_let (g_sc S 102) (fun v5 =>
x_g (¬ ((v5 - (1 : Int32)) < 0 ∨ 61 ≤ ((v5 - (1 : Int32))).toNatClampNeg)) (x_let (g_ar S 104 ((v5 - (1 : Int32))).toNatClampNeg) (fun v6 =>
if a2 = v6 then
f_X1_readLeap_74 n S a1 a2 t0 (6 : Int32)
else
x_let (g_sc S 102) (fun v7 =>
x_g (¬ ((v7 - (1 : Int32)) < 0 ∨ 61 ≤ ((v7 - (1 : Int32))).toNatClampNeg)) (x_let (g_ar S 105 ((v7 - (1 : Int32))).toNatClampNeg) (fun v8 =>
if a2 = v8 then
f_X1_readLeap_74 n S a1 a2 t0 (7 : Int32)
else
f_X1_readLeap_74 n S a1 a2 t0 (8 : Int32)))))))
set_option maxHeartbeats 4000000 in
set_option maxRecDepth 100000 in
theorem w_X1_readLeap_28 {r : Int32 × x_S} {a1 : Int32} {a2 : Int32} {t0 : Int32} (hC : x_C p s m args meth c cX1_readLeap 5 RX1 E A) (hR : x_Ri p l e { frames := 2, cells := 0, slots := 0, locals := 46 } s m args below meth c cX1_readLeap E A Q (cw E ad ap r.2) r.1) (hI : x_I E A s.heap (cw E ad ap S) H locs) (hl : lv_has ls 5 [(0, .ref (ad 199)), (1, .int a1), (2, .int a2)]) (hf : f_X1_readLeap_28 n S a1 a2 t0 = some r) : W p l e { frames := 2, cells := 0, slots := 0, locals := 46 } s m args below meth c H locs 0 0 Q (F0 m 28 ls [.int t0]) := by
  obtain ⟨hx, hb, hml, hown, hts, hK, hN, hA⟩ := id hC
  unfold f_X1_readLeap_28 at hf
  refine lv_istore_n (lv' := [(3, .int t0), (0, .ref (ad 199)), (1, .int a1), (2, .int a2)]) hx hb dX1_readLeap_28 rfl hl (by decide) rfl (fun ls hl => ?_)
  refine lv_bipush (v := (8 : Int32)) hx hb dX1_readLeap_29 (by decide) ?_
  refine lv_istore (lv' := [(4, .int (8 : Int32)), (3, .int t0), (0, .ref (ad 199)), (1, .int a1), (2, .int a2)]) hx hb dX1_readLeap_31 hl (by decide) rfl (fun ls hl => ?_)
  refine lv_iload_n hx hb dX1_readLeap_33 rfl (lv_at hl 4 rfl) ?_
  refine lv_aload_n hx hb dX1_readLeap_34 rfl (lv_at hl 2 rfl) ?_
  refine gX1_4 hC hI lkf_X1_30 dX1_readLeap_35 ?_
  refine lv_aload_n hx hb dX1_readLeap_38 rfl (lv_at hl 2 rfl) ?_
  refine gX1_2 hC hI hf lkf_X1_22 dX1_readLeap_39 (fun v5 hf => ?_)
  refine lv_iconst (v := (1 : Int32)) hx hb dX1_readLeap_42 (by decide) ?_
  refine lv_isub hx hb dX1_readLeap_43 ?_
  refine aX1_4 hC hI hf dX1_readLeap_44 (fun v6 hf => ?_)
  refine x_ine hC 55 hf dX1_readLeap_45 (by decide) (fun hf => ?_) (fun hf => ?_)
  · refine lv_iload_n hx hb dX1_readLeap_55 rfl (lv_at hl 4 rfl) ?_
    refine lv_aload_n hx hb dX1_readLeap_56 rfl (lv_at hl 2 rfl) ?_
    refine gX1_5 hC hI lkf_X1_33 dX1_readLeap_57 ?_
    refine lv_aload_n hx hb dX1_readLeap_60 rfl (lv_at hl 2 rfl) ?_
    refine gX1_2 hC hI hf lkf_X1_22 dX1_readLeap_61 (fun v7 hf => ?_)
    refine lv_iconst (v := (1 : Int32)) hx hb dX1_readLeap_64 (by decide) ?_
    refine lv_isub hx hb dX1_readLeap_65 ?_
    refine aX1_5 hC hI hf dX1_readLeap_66 (fun v8 hf => ?_)
    refine x_ine hC 74 hf dX1_readLeap_67 (by decide) (fun hf => ?_) (fun hf => ?_)
    · exact w_X1_readLeap_74 hC hR hI (lv_sub hl [2, 3, 4, 1, 0] rfl) hf
    · refine lv_bipush (v := (7 : Int32)) hx hb dX1_readLeap_70 (by decide) ?_
      refine lv_istore (lv' := [(4, .int (7 : Int32)), (3, .int t0), (0, .ref (ad 199)), (1, .int a1), (2, .int a2)]) hx hb dX1_readLeap_72 hl (by decide) rfl (fun ls hl => ?_)
      exact w_X1_readLeap_74 hC hR hI (lv_sub hl [2, 3, 4, 1, 0] rfl) hf
  · refine lv_bipush (v := (6 : Int32)) hx hb dX1_readLeap_48 (by decide) ?_
    refine lv_istore (lv' := [(4, .int (6 : Int32)), (3, .int t0), (0, .ref (ad 199)), (1, .int a1), (2, .int a2)]) hx hb dX1_readLeap_50 hl (by decide) rfl (fun ls hl => ?_)
    refine lv_goto (tgt := 74) hx hb dX1_readLeap_52 (by decide) ?_
    exact w_X1_readLeap_74 hC hR hI (lv_sub hl [2, 3, 4, 1, 0] rfl) hf
def f_X1_readLeap (n : Nat) (S : x_S) (a1 : Int32) : Option (Int32 × x_S) :=
x_o (g_rf S 101) (
none) (fun i1 =>
x_g (i1 < g_np S) (
x_g (i1 < g_np S) (x_g (¬ (a1 < 0 ∨ 60 ≤ (a1).toNatClampNeg)) (x_let (g_pa S 3 i1 (a1).toNatClampNeg) (fun v2 =>
x_o (g_rf S 101) (
none) (fun i3 =>
x_g (i3 < g_np S) (
x_g (i3 < g_np S) (x_g (¬ (a1 < 0 ∨ 60 ≤ (a1).toNatClampNeg)) (x_let (g_pa S 0 i3 (a1).toNatClampNeg) (fun v4 =>
if v4 = (3 : Int32) then
f_X1_readLeap_28 n S a1 v2 (1 : Int32)
else
f_X1_readLeap_28 n S a1 v2 (0 : Int32)))))))))))
set_option maxHeartbeats 4000000 in
set_option maxRecDepth 100000 in
theorem w_X1_readLeap {r : Int32 × x_S} {a1 : Int32} (hC : x_C p s m args meth c cX1_readLeap 5 RX1 E A) (hR : x_Ri p l e { frames := 2, cells := 0, slots := 0, locals := 46 } s m args below meth c cX1_readLeap E A Q (cw E ad ap r.2) r.1) (hI : x_I E A s.heap (cw E ad ap S) H locs) (hl : lv_has ls 5 [(0, .ref (ad 199)), (1, .int a1)]) (hf : f_X1_readLeap n S a1 = some r) : W p l e { frames := 2, cells := 0, slots := 0, locals := 46 } s m args below meth c H locs 0 0 Q (F0 m 0 ls []) := by
  obtain ⟨hx, hb, hml, hown, hts, hK, hN, hA⟩ := id hC
  unfold f_X1_readLeap at hf
  refine lv_aload_n hx hb dX1_readLeap_0 rfl (lv_at hl 0 rfl) ?_
  refine gX1_1 hC hI lkf_X1_18 dX1_readLeap_1 ?_
  refine x_casesR hf (fun hf => ?_) (fun i1 hf => ?_)
  · cases hf
  · refine gX2_3 hC hI hf lkf_X1_128 dX1_readLeap_4 (fun hf => ?_)
    refine lv_iload_n hx hb dX1_readLeap_7 rfl (lv_at hl 1 rfl) ?_
    refine aX2_3 hC hI hf dX1_readLeap_8 (fun v2 hf => ?_)
    refine lv_istore_n (lv' := [(2, .int v2), (0, .ref (ad 199)), (1, .int a1)]) hx hb dX1_readLeap_9 rfl hl (by decide) rfl (fun ls hl => ?_)
    refine lv_aload_n hx hb dX1_readLeap_10 rfl (lv_at hl 1 rfl) ?_
    refine gX1_1 hC hI lkf_X1_18 dX1_readLeap_11 ?_
    refine x_casesR hf (fun hf => ?_) (fun i3 hf => ?_)
    · cases hf
    · refine gX2_0 hC hI hf lkf_X1_102 dX1_readLeap_14 (fun hf => ?_)
      refine lv_iload_n hx hb dX1_readLeap_17 rfl (lv_at hl 2 rfl) ?_
      refine aX2_0 hC hI hf dX1_readLeap_18 (fun v4 hf => ?_)
      refine lv_iconst (v := (3 : Int32)) hx hb dX1_readLeap_19 (by decide) ?_
      refine x_ine hC 27 hf dX1_readLeap_20 (by decide) (fun hf => ?_) (fun hf => ?_)
      · refine lv_iconst (v := (0 : Int32)) hx hb dX1_readLeap_27 (by decide) ?_
        exact w_X1_readLeap_28 hC hR hI (lv_sub hl [1, 2, 0] rfl) hf
      · refine lv_iconst (v := (1 : Int32)) hx hb dX1_readLeap_23 (by decide) ?_
        refine lv_goto (tgt := 28) hx hb dX1_readLeap_24 (by decide) ?_
        exact w_X1_readLeap_28 hC hR hI (lv_sub hl [1, 2, 0] rfl) hf
theorem c_X1_readLeap {a1 : Int32} {v : Int32} {S1 : x_S} (hf : f_X1_readLeap n S a1 = some (v, S1)) : x_M l yX1_readLeap cX1_readLeap 5 (some .int) 2 46 E [.ref (ad 199), .int a1] (cw E ad ap S) (cw E ad ap S1) (some (.int v)) :=
  x_entI (by decide) (Nat.le_of_ble_eq_true rfl) (fun p e s m args below meth c A Q ls hC hI hR hl => w_X1_readLeap (r := (v, S1)) hC hR hI hl hf)
end
