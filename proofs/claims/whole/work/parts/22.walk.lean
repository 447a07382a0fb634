section
variable {p : Program} {l : Launch} {e : Env} {s : State} {m : MethodId} {args : Array Value} {below : List Frame} {meth : Method} {c : Code} {H : Heap} {locs : List Loc} {Q : State → Prop}
variable {E : x_E} {A : Nat → Prop} {ls : Array Slot} {ad : Nat → Nat} {ap : Nat → Nat → Nat} {S : x_S} {w : va_W} {n : Nat}
-- X7_beginBody
def f_X7_beginBody_40 (n : Nat) (S : x_S) (a1 : Int32) (a2 : Int32) (a3 : Int32) (a4 : Int32) (a5 : Int32) : Option (x_S) :=
x_let (g_sc S 737) (fun v4 =>
if v4 = 0 then
x_let (g_sc S 745) (fun v5 =>
x_g (¬ (v5 < 0 ∨ 64 ≤ (v5).toNatClampNeg)) (x_let (s_ar S 746 (v5).toNatClampNeg a5) (fun S =>
x_let (g_sc S 745) (fun v6 =>
x_g (¬ (v6 < 0 ∨ 64 ≤ (v6).toNatClampNeg)) (x_let (s_ar S 747 (v6).toNatClampNeg a1) (fun S =>
x_let (g_sc S 745) (fun v7 =>
x_let (g_sc S 738) (fun v8 =>
x_g (¬ (v7 < 0 ∨ 64 ≤ (v7).toNatClampNeg)) (x_let (s_ar S 748 (v7).toNatClampNeg v8) (fun S =>
x_let (g_sc S 745) (fun v9 =>
x_g (¬ (v9 < 0 ∨ 64 ≤ (v9).toNatClampNeg)) (x_let (s_ar S 749 (v9).toNatClampNeg a2) (fun S =>
x_let (g_sc S 745) (fun v10 =>
x_g (¬ (v10 < 0 ∨ 64 ≤ (v10).toNatClampNeg)) (x_let (s_ar S 750 (v10).toNatClampNeg a3) (fun S =>
x_let (g_sc S 745) (fun v11 =>
x_g (¬ (v11 < 0 ∨ 64 ≤ (v11).toNatClampNeg)) (x_let (s_ar S 751 (v11).toNatClampNeg a4) (fun S =>
x_let (g_sc S 745) (fun v12 =>
x_let (s_sc S 745 (v12 + (1 : Int32))) (fun S =>
some S)))))))))))))))))))))
else
some S)
set_option maxHeartbeats 4000000 in
set_option maxRecDepth 100000 in
theorem w_X7_beginBody_40 {r : x_S} {a1 : Int32} {a2 : Int32} {a3 : Int32} {a4 : Int32} {a5 : Int32} (hC : x_C p s m args meth c cX7_beginBody 6 RX7 E A) (hR : x_Rv p l e { frames := 1, cells := 0, slots := 0, locals := 21 } s m args below meth c cX7_beginBody E A Q (mw E ad r)) (hI : x_I E A s.heap (mw E ad S) H locs) (hl : lv_has ls 6 [(0, .ref (ad 799)), (1, .int a1), (2, .int a2), (3, .int a3), (4, .int a4), (5, .int a5)]) (hf : f_X7_beginBody_40 n S a1 a2 a3 a4 a5 = some r) : W p l e { frames := 1, cells := 0, slots := 0, locals := 21 } s m args below meth c H locs 0 0 Q (F0 m 40 ls []) := by
  obtain ⟨hx, hb, hml, hown, hts, hK, hN, hA⟩ := id hC
  unfold f_X7_beginBody_40 at hf
  refine lv_aload_n hx hb dX7_beginBody_40 rfl (lv_at hl 0 rfl) ?_
  refine gX7_37 hC hI hf lkf_X7_230 dX7_beginBody_41 (fun v4 hf => ?_)
  refine x_ne0 hC 122 hf dX7_beginBody_44 (by decide) (fun hf => ?_) (fun hf => ?_)
  · obtain rfl := Option.some.inj hf
    exact hR _ _ _ _ hI dX7_beginBody_122
  · refine lv_aload_n hx hb dX7_beginBody_47 rfl (lv_at hl 0 rfl) ?_
    refine gX7_46 hC hI lkf_X7_111 dX7_beginBody_48 ?_
    refine lv_aload_n hx hb dX7_beginBody_51 rfl (lv_at hl 0 rfl) ?_
    refine gX7_45 hC hI hf lkf_X7_246 dX7_beginBody_52 (fun v5 hf => ?_)
    refine lv_iload hx hb dX7_beginBody_55 (lv_at hl 5 rfl) ?_
    refine tX7_46 hC hI hf dX7_beginBody_57 (fun S H locs hI hf => ?_)
    refine lv_aload_n hx hb dX7_beginBody_58 rfl (lv_at hl 0 rfl) ?_
    refine gX7_47 hC hI lkf_X7_114 dX7_beginBody_59 ?_
    refine lv_aload_n hx hb dX7_beginBody_62 rfl (lv_at hl 0 rfl) ?_
    refine gX7_45 hC hI hf lkf_X7_246 dX7_beginBody_63 (fun v6 hf => ?_)
    refine lv_iload_n hx hb dX7_beginBody_66 rfl (lv_at hl 1 rfl) ?_
    refine tX7_47 hC hI hf dX7_beginBody_67 (fun S H locs hI hf => ?_)
    refine lv_aload_n hx hb dX7_beginBody_68 rfl (lv_at hl 0 rfl) ?_
    refine gX7_48 hC hI lkf_X7_117 dX7_beginBody_69 ?_
    refine lv_aload_n hx hb dX7_beginBody_72 rfl (lv_at hl 0 rfl) ?_
    refine gX7_45 hC hI hf lkf_X7_246 dX7_beginBody_73 (fun v7 hf => ?_)
    refine lv_aload_n hx hb dX7_beginBody_76 rfl (lv_at hl 0 rfl) ?_
    refine gX7_38 hC hI hf lkf_X7_236 dX7_beginBody_77 (fun v8 hf => ?_)
    refine tX7_48 hC hI hf dX7_beginBody_80 (fun S H locs hI hf => ?_)
    refine lv_aload_n hx hb dX7_beginBody_81 rfl (lv_at hl 0 rfl) ?_
    refine gX7_49 hC hI lkf_X7_120 dX7_beginBody_82 ?_
    refine lv_aload_n hx hb dX7_beginBody_85 rfl (lv_at hl 0 rfl) ?_
    refine gX7_45 hC hI hf lkf_X7_246 dX7_beginBody_86 (fun v9 hf => ?_)
    refine lv_iload_n hx hb dX7_beginBody_89 rfl (lv_at hl 2 rfl) ?_
    refine tX7_49 hC hI hf dX7_beginBody_90 (fun S H locs hI hf => ?_)
    refine lv_aload_n hx hb dX7_beginBody_91 rfl (lv_at hl 0 rfl) ?_
    refine gX7_50 hC hI lkf_X7_123 dX7_beginBody_92 ?_
    refine lv_aload_n hx hb dX7_beginBody_95 rfl (lv_at hl 0 rfl) ?_
    refine gX7_45 hC hI hf lkf_X7_246 dX7_beginBody_96 (fun v10 hf => ?_)
    refine lv_iload_n hx hb dX7_beginBody_99 rfl (lv_at hl 3 rfl) ?_
    refine tX7_50 hC hI hf dX7_beginBody_100 (fun S H locs hI hf => ?_)
    refine lv_aload_n hx hb dX7_beginBody_101 rfl (lv_at hl 0 rfl) ?_
    refine gX7_51 hC hI lkf_X7_126 dX7_beginBody_102 ?_
    refine lv_aload_n hx hb dX7_beginBody_105 rfl (lv_at hl 0 rfl) ?_
    refine gX7_45 hC hI hf lkf_X7_246 dX7_beginBody_106 (fun v11 hf => ?_)
    refine lv_iload hx hb dX7_beginBody_109 (lv_at hl 4 rfl) ?_
    refine tX7_51 hC hI hf dX7_beginBody_111 (fun S H locs hI hf => ?_)
    refine lv_aload_n hx hb dX7_beginBody_112 rfl (lv_at hl 0 rfl) ?_
    refine lv_dup hx hb dX7_beginBody_113 rfl ?_
    refine gX7_45 hC hI hf lkf_X7_246 dX7_beginBody_114 (fun v12 hf => ?_)
    refine lv_iconst (v := (1 : Int32)) hx hb dX7_beginBody_117 (by decide) ?_
    refine lv_iadd hx hb dX7_beginBody_118 ?_
    refine pX7_45 hC hI hf lkf_X7_246 dX7_beginBody_119 (fun S H locs hI hf => ?_)
    obtain rfl := Option.some.inj hf
    exact hR _ _ _ _ hI dX7_beginBody_122
def f_X7_beginBody_30 (n : Nat) (S : x_S) (a1 : Int32) (a2 : Int32) (a3 : Int32) (a4 : Int32) (a5 : Int32) : Option (x_S) :=
if 0 ≤ a5 then
f_X7_beginBody_40 n S a1 a2 a3 a4 a5
else
x_b (f_X7_wrong n S (3 : Int32)) (fun S =>
f_X7_beginBody_40 n S a1 a2 a3 a4 a5)
set_option maxHeartbeats 4000000 in
set_option maxRecDepth 100000 in
theorem w_X7_beginBody_30 {r : x_S} {a1 : Int32} {a2 : Int32} {a3 : Int32} {a4 : Int32} {a5 : Int32} (hC : x_C p s m args meth c cX7_beginBody 6 RX7 E A) (hR : x_Rv p l e { frames := 1, cells := 0, slots := 0, locals := 21 } s m args below meth c cX7_beginBody E A Q (mw E ad r)) (hI : x_I E A s.heap (mw E ad S) H locs) (hl : lv_has ls 6 [(0, .ref (ad 799)), (1, .int a1), (2, .int a2), (3, .int a3), (4, .int a4), (5, .int a5)]) (hf : f_X7_beginBody_30 n S a1 a2 a3 a4 a5 = some r) : W p l e { frames := 1, cells := 0, slots := 0, locals := 21 } s m args below meth c H locs 0 0 Q (F0 m 30 ls []) := by
  obtain ⟨hx, hb, hml, hown, hts, hK, hN, hA⟩ := id hC
  unfold f_X7_beginBody_30 at hf
  refine lv_iload hx hb dX7_beginBody_30 (lv_at hl 5 rfl) ?_
  refine x_ge0 hC 40 hf dX7_beginBody_32 (by decide) (fun hf => ?_) (fun hf => ?_)
  · exact w_X7_beginBody_40 hC hR hI (lv_sub hl [0, 1, 2, 3, 4, 5] rfl) hf
  · refine lv_aload_n hx hb dX7_beginBody_35 rfl (lv_at hl 0 rfl) ?_
    refine lv_iconst (v := (3 : Int32)) hx hb dX7_beginBody_36 (by decide) ?_
    obtain ⟨S, hc13, hf⟩ := x_b_eq hf
    refine x_callV hC hI (c_X7_wrong hc13) 0 7 rfl rfl kv_X7_243 rfl ⟨Nat.le_of_ble_eq_true rfl, Nat.le_of_ble_eq_true rfl⟩ ⟨Nat.le_refl _, Nat.le_refl _⟩ hl.1 rfl (Nat.le_of_ble_eq_true rfl) dX7_beginBody_37 (fun H locs hI => ?_)
    exact w_X7_beginBody_40 hC hR hI (lv_sub hl [0, 1, 2, 3, 4, 5] rfl) hf
def f_X7_beginBody (n : Nat) (S : x_S) (a1 : Int32) (a2 : Int32) (a3 : Int32) (a4 : Int32) : Option (x_S) :=
x_b2 (f_X7_next n S) (fun v2 S =>
x_let (g_sc S 737) (fun v3 =>
if v3 = 0 then
x_let (g_sc S 745) (fun v14 =>
if v14 = (61 : Int32) then
x_b (f_X7_wrong n S (2 : Int32)) (fun S =>
f_X7_beginBody_40 n S a1 a2 a3 a4 v2)
else
f_X7_beginBody_30 n S a1 a2 a3 a4 v2)
else
f_X7_beginBody_30 n S a1 a2 a3 a4 v2))
set_option maxHeartbeats 4000000 in
set_option maxRecDepth 100000 in
theorem w_X7_beginBody {r : x_S} {a1 : Int32} {a2 : Int32} {a3 : Int32} {a4 : Int32} (hC : x_C p s m args meth c cX7_beginBody 6 RX7 E A) (hR : x_Rv p l e { frames := 1, cells := 0, slots := 0, locals := 21 } s m args below meth c cX7_beginBody E A Q (mw E ad r)) (hI : x_I E A s.heap (mw E ad S) H locs) (hl : lv_has ls 6 [(0, .ref (ad 799)), (1, .int a1), (2, .int a2), (3, .int a3), (4, .int a4)]) (hf : f_X7_beginBody n S a1 a2 a3 a4 = some r) : W p l e { frames := 1, cells := 0, slots := 0, locals := 21 } s m args below meth c H locs 0 0 Q (F0 m 0 ls []) := by
  obtain ⟨hx, hb, hml, hown, hts, hK, hN, hA⟩ := id hC
  unfold f_X7_beginBody at hf
  refine lv_aload_n hx hb dX7_beginBody_0 rfl (lv_at hl 0 rfl) ?_
  obtain ⟨v2, S, hc1, hf⟩ := x_b2_eq hf
  refine x_callV hC hI (c_X7_next hc1) 0 7 rfl rfl kv_X7_239 rfl ⟨Nat.le_of_ble_eq_true rfl, Nat.le_of_ble_eq_true rfl⟩ ⟨Nat.le_refl _, Nat.le_refl _⟩ hl.1 rfl (Nat.le_of_ble_eq_true rfl) dX7_beginBody_1 (fun H locs hI => ?_)
  refine lv_istore (lv' := [(5, .int v2), (0, .ref (ad 799)), (1, .int a1), (2, .int a2), (3, .int a3), (4, .int a4)]) hx hb dX7_beginBody_4 hl (by decide) rfl (fun ls hl => ?_)
  refine lv_aload_n hx hb dX7_beginBody_6 rfl (lv_at hl 1 rfl) ?_
  refine gX7_37 hC hI hf lkf_X7_230 dX7_beginBody_7 (fun v3 hf => ?_)
  refine x_ne0 hC 30 hf dX7_beginBody_10 (by decide) (fun hf => ?_) (fun hf => ?_)
  · exact w_X7_beginBody_30 hC hR hI (lv_sub hl [1, 2, 3, 4, 5, 0] rfl) hf
  · refine lv_aload_n hx hb dX7_beginBody_13 rfl (lv_at hl 1 rfl) ?_
    refine gX7_45 hC hI hf lkf_X7_246 dX7_beginBody_14 (fun v14 hf => ?_)
    refine lv_bipush (v := (61 : Int32)) hx hb dX7_beginBody_17 (by decide) ?_
    refine x_ine hC 30 hf dX7_beginBody_19 (by decide) (fun hf => ?_) (fun hf => ?_)
    · exact w_X7_beginBody_30 hC hR hI (lv_sub hl [1, 2, 3, 4, 5, 0] rfl) hf
    · refine lv_aload_n hx hb dX7_beginBody_22 rfl (lv_at hl 1 rfl) ?_
      refine lv_iconst (v := (2 : Int32)) hx hb dX7_beginBody_23 (by decide) ?_
      obtain ⟨S, hc15, hf⟩ := x_b_eq hf
      refine x_callV hC hI (c_X7_wrong hc15) 0 7 rfl rfl kv_X7_243 rfl ⟨Nat.le_of_ble_eq_true rfl, Nat.le_of_ble_eq_true rfl⟩ ⟨Nat.le_refl _, Nat.le_refl _⟩ hl.1 rfl (Nat.le_of_ble_eq_true rfl) dX7_beginBody_24 (fun H locs hI => ?_)
      refine lv_goto (tgt := 40) hx hb dX7_beginBody_27 (by decide) ?_
      exact w_X7_beginBody_40 hC hR hI (lv_sub hl [1, 2, 3, 4, 5, 0] rfl) hf
theorem c_X7_beginBody {a1 : Int32} {a2 : Int32} {a3 : Int32} {a4 : Int32} {S1 : x_S} (hf : f_X7_beginBody n S a1 a2 a3 a4 = some S1) : x_M l yX7_beginBody cX7_beginBody 6 none 1 21 E [.ref (ad 799), .int a1, .int a2, .int a3, .int a4] (mw E ad S) (mw E ad S1) none :=
  x_entV (by decide) (Nat.le_of_ble_eq_true rfl) (fun p e s m args below meth c A Q ls hC hI hR hl => w_X7_beginBody (r := S1) hC hR hI hl hf)
-- X7_make
def f_X7_make (n : Nat) (S : x_S) (a1 : Int32) (a2 : Int32) (a3 : Int32) (a4 : Int32) : Option (x_S) :=
x_let (g_sc S 738) (fun v1 =>
if (400 : Int32) ≤ v1 then
some S
else
x_let (g_sc S 738) (fun v2 =>
x_g (¬ (v2 < 0 ∨ 400 ≤ (v2).toNatClampNeg)) (x_let (s_ar S 739 (v2).toNatClampNeg a1) (fun S =>
x_let (g_sc S 738) (fun v3 =>
x_g (¬ (v3 < 0 ∨ 400 ≤ (v3).toNatClampNeg)) (x_let (s_ar S 740 (v3).toNatClampNeg a2) (fun S =>
x_let (g_sc S 738) (fun v4 =>
x_g (¬ (v4 < 0 ∨ 400 ≤ (v4).toNatClampNeg)) (x_let (s_ar S 741 (v4).toNatClampNeg a3) (fun S =>
x_let (g_sc S 738) (fun v5 =>
x_g (¬ (v5 < 0 ∨ 400 ≤ (v5).toNatClampNeg)) (x_let (s_ar S 742 (v5).toNatClampNeg a4) (fun S =>
x_let (g_sc S 738) (fun v6 =>
x_g (¬ (v6 < 0 ∨ 400 ≤ (v6).toNatClampNeg)) (x_let (s_ar S 743 (v6).toNatClampNeg (0 : Int32)) (fun S =>
x_let (g_sc S 738) (fun v7 =>
x_let (s_sc S 738 (v7 + (1 : Int32))) (fun S =>
some S))))))))))))))))))
set_option maxHeartbeats 4000000 in
set_option maxRecDepth 100000 in
theorem w_X7_make {r : x_S} {a1 : Int32} {a2 : Int32} {a3 : Int32} {a4 : Int32} (hC : x_C p s m args meth c cX7_make 5 RX7 E A) (hR : x_Rv p l e { frames := 0, cells := 0, slots := 0, locals := 0 } s m args below meth c cX7_make E A Q (mw E ad r)) (hI : x_I E A s.heap (mw E ad S) H locs) (hl : lv_has ls 5 [(0, .ref (ad 799)), (1, .int a1), (2, .int a2), (3, .int a3), (4, .int a4)]) (hf : f_X7_make n S a1 a2 a3 a4 = some r) : W p l e { frames := 0, cells := 0, slots := 0, locals := 0 } s m args below meth c H locs 0 0 Q (F0 m 0 ls []) := by
  obtain ⟨hx, hb, hml, hown, hts, hK, hN, hA⟩ := id hC
  unfold f_X7_make at hf
  refine lv_aload_n hx hb dX7_make_0 rfl (lv_at hl 0 rfl) ?_
  refine gX7_38 hC hI hf lkf_X7_236 dX7_make_1 (fun v1 hf => ?_)
  refine lv_sipush (v := (400 : Int32)) hx hb dX7_make_4 (by decide) ?_
  refine x_ige hC 71 hf dX7_make_7 (by decide) (fun hf => ?_) (fun hf => ?_)
  · obtain rfl := Option.some.inj hf
    exact hR _ _ _ _ hI dX7_make_71
  · refine lv_aload_n hx hb dX7_make_10 rfl (lv_at hl 0 rfl) ?_
    refine gX7_39 hC hI lkf_X7_93 dX7_make_11 ?_
    refine lv_aload_n hx hb dX7_make_14 rfl (lv_at hl 0 rfl) ?_
    refine gX7_38 hC hI hf lkf_X7_236 dX7_make_15 (fun v2 hf => ?_)
    refine lv_iload_n hx hb dX7_make_18 rfl (lv_at hl 1 rfl) ?_
    refine tX7_39 hC hI hf dX7_make_19 (fun S H locs hI hf => ?_)
    refine lv_aload_n hx hb dX7_make_20 rfl (lv_at hl 0 rfl) ?_
    refine gX7_40 hC hI lkf_X7_96 dX7_make_21 ?_
    refine lv_aload_n hx hb dX7_make_24 rfl (lv_at hl 0 rfl) ?_
    refine gX7_38 hC hI hf lkf_X7_236 dX7_make_25 (fun v3 hf => ?_)
    refine lv_iload_n hx hb dX7_make_28 rfl (lv_at hl 2 rfl) ?_
    refine tX7_40 hC hI hf dX7_make_29 (fun S H locs hI hf => ?_)
    refine lv_aload_n hx hb dX7_make_30 rfl (lv_at hl 0 rfl) ?_
    refine gX7_41 hC hI lkf_X7_99 dX7_make_31 ?_
    refine lv_aload_n hx hb dX7_make_34 rfl (lv_at hl 0 rfl) ?_
    refine gX7_38 hC hI hf lkf_X7_236 dX7_make_35 (fun v4 hf => ?_)
    refine lv_iload_n hx hb dX7_make_38 rfl (lv_at hl 3 rfl) ?_
    refine tX7_41 hC hI hf dX7_make_39 (fun S H locs hI hf => ?_)
    refine lv_aload_n hx hb dX7_make_40 rfl (lv_at hl 0 rfl) ?_
    refine gX7_42 hC hI lkf_X7_102 dX7_make_41 ?_
    refine lv_aload_n hx hb dX7_make_44 rfl (lv_at hl 0 rfl) ?_
    refine gX7_38 hC hI hf lkf_X7_236 dX7_make_45 (fun v5 hf => ?_)
    refine lv_iload hx hb dX7_make_48 (lv_at hl 4 rfl) ?_
    refine tX7_42 hC hI hf dX7_make_50 (fun S H locs hI hf => ?_)
    refine lv_aload_n hx hb dX7_make_51 rfl (lv_at hl 0 rfl) ?_
    refine gX7_43 hC hI lkf_X7_105 dX7_make_52 ?_
    refine lv_aload_n hx hb dX7_make_55 rfl (lv_at hl 0 rfl) ?_
    refine gX7_38 hC hI hf lkf_X7_236 dX7_make_56 (fun v6 hf => ?_)
    refine lv_iconst (v := (0 : Int32)) hx hb dX7_make_59 (by decide) ?_
    refine tX7_43 hC hI hf dX7_make_60 (fun S H locs hI hf => ?_)
    refine lv_aload_n hx hb dX7_make_61 rfl (lv_at hl 0 rfl) ?_
    refine lv_dup hx hb dX7_make_62 rfl ?_
    refine gX7_38 hC hI hf lkf_X7_236 dX7_make_63 (fun v7 hf => ?_)
    refine lv_iconst (v := (1 : Int32)) hx hb dX7_make_66 (by decide) ?_
    refine lv_iadd hx hb dX7_make_67 ?_
    refine pX7_38 hC hI hf lkf_X7_236 dX7_make_68 (fun S H locs hI hf => ?_)
    obtain rfl := Option.some.inj hf
    exact hR _ _ _ _ hI dX7_make_71
theorem c_X7_make {a1 : Int32} {a2 : Int32} {a3 : Int32} {a4 : Int32} {S1 : x_S} (hf : f_X7_make n S a1 a2 a3 a4 = some S1) : x_M l yX7_make cX7_make 5 none 0 0 E [.ref (ad 799), .int a1, .int a2, .int a3, .int a4] (mw E ad S) (mw E ad S1) none :=
  x_entV (by decide) (Nat.le_of_ble_eq_true rfl) (fun p e s m args below meth c A Q ls hC hI hR hl => w_X7_make (r := S1) hC hR hI hl hf)
-- X7_close
def f_X7_close_62 (n : Nat) (rec2 : x_S × Int32 × Int32 × Int32 → Option (x_S)) (S : x_S) (a1 : Int32) (a2 : Int32) (a3 : Int32) : Option (x_S) :=
rec2 (S, a1, a2, (a3 + (1 : Int32)))
set_option maxHeartbeats 4000000 in
set_option maxRecDepth 100000 in
theorem w_X7_close_62 {r : x_S} {a1 : Int32} {a2 : Int32} {a3 : Int32} {rec2 : x_S × Int32 × Int32 × Int32 → Option (x_S)} (hC : x_C p s m args meth c cX7_close 4 RX7 E A) (hR : x_Rv p l e { frames := 0, cells := 0, slots := 0, locals := 0 } s m args below meth c cX7_close E A Q (mw E ad r)) (hrec2 : ∀ z : x_S × Int32 × Int32 × Int32, rec2 z = some r → ∀ (H : Heap) (locs : List Loc) (ls : Array Slot), x_I E A s.heap (mw E ad z.1) H locs → lv_has ls 4 [(0, .ref (ad 799)), (1, .int z.2.1), (2, .int z.2.2.1), (3, .int z.2.2.2)] → W p l e { frames := 0, cells := 0, slots := 0, locals := 0 } s m args below meth c H locs 0 0 Q (F0 m 2 ls [])) (hI : x_I E A s.heap (mw E ad S) H locs) (hl : lv_has ls 4 [(0, .ref (ad 799)), (1, .int a1), (2, .int a2), (3, .int a3)]) (hf : f_X7_close_62 n rec2 S a1 a2 a3 = some r) : W p l e { frames := 0, cells := 0, slots := 0, locals := 0 } s m args below meth c H locs 0 0 Q (F0 m 62 ls []) := by
  obtain ⟨hx, hb, hml, hown, hts, hK, hN, hA⟩ := id hC
  unfold f_X7_close_62 at hf
  refine lv_iinc (v := (a3 + (1 : Int32))) (lv' := [(3, .int (a3 + (1 : Int32))), (0, .ref (ad 799)), (1, .int a1), (2, .int a2)]) hx hb dX7_close_62 hl (k := 3) rfl rfl (by decide) rfl (fun ls hl => ?_)
  refine lv_goto (tgt := 2) hx hb dX7_close_65 (by decide) ?_
  exact hrec2 _ hf _ _ _ hI (lv_sub hl [1, 2, 3, 0] rfl)
def f_X7_close_54 (n : Nat) (rec2 : x_S × Int32 × Int32 × Int32 → Option (x_S)) (S : x_S) (a1 : Int32) (a2 : Int32) (a3 : Int32) (t0 : Int32) (t1 : Int32) : Option (x_S) :=
x_g (¬ (t1 < 0 ∨ 400 ≤ (t1).toNatClampNeg)) (x_let (s_ar S 742 (t1).toNatClampNeg t0) (fun S =>
x_g (¬ (a3 < 0 ∨ 400 ≤ (a3).toNatClampNeg)) (x_let (s_ar S 743 (a3).toNatClampNeg (0 : Int32)) (fun S =>
f_X7_close_62 n rec2 S a1 a2 a3))))
set_option maxHeartbeats 4000000 in
set_option maxRecDepth 100000 in
theorem w_X7_close_54 {r : x_S} {a1 : Int32} {a2 : Int32} {a3 : Int32} {t0 : Int32} {t1 : Int32} {rec2 : x_S × Int32 × Int32 × Int32 → Option (x_S)} (hC : x_C p s m args meth c cX7_close 4 RX7 E A) (hR : x_Rv p l e { frames := 0, cells := 0, slots := 0, locals := 0 } s m args below meth c cX7_close E A Q (mw E ad r)) (hrec2 : ∀ z : x_S × Int32 × Int32 × Int32, rec2 z = some r → ∀ (H : Heap) (locs : List Loc) (ls : Array Slot), x_I E A s.heap (mw E ad z.1) H locs → lv_has ls 4 [(0, .ref (ad 799)), (1, .int z.2.1), (2, .int z.2.2.1), (3, .int z.2.2.2)] → W p l e { frames := 0, cells := 0, slots := 0, locals := 0 } s m args below meth c H locs 0 0 Q (F0 m 2 ls [])) (hI : x_I E A s.heap (mw E ad S) H locs) (hl : lv_has ls 4 [(0, .ref (ad 799)), (1, .int a1), (2, .int a2), (3, .int a3)]) (hf : f_X7_close_54 n rec2 S a1 a2 a3 t0 t1 = some r) : W p l e { frames := 0, cells := 0, slots := 0, locals := 0 } s m args below meth c H locs 0 0 Q (F0 m 54 ls [.int t0, .int t1, .ref (ad 742)]) := by
  obtain ⟨hx, hb, hml, hown, hts, hK, hN, hA⟩ := id hC
  unfold f_X7_close_54 at hf
  refine tX7_42 hC hI hf dX7_close_54 (fun S H locs hI hf => ?_)
  refine lv_aload_n hx hb dX7_close_55 rfl (lv_at hl 0 rfl) ?_
  refine gX7_43 hC hI lkf_X7_105 dX7_close_56 ?_
  refine lv_iload_n hx hb dX7_close_59 rfl (lv_at hl 3 rfl) ?_
  refine lv_iconst (v := (0 : Int32)) hx hb dX7_close_60 (by decide) ?_
  refine tX7_43 hC hI hf dX7_close_61 (fun S H locs hI hf => ?_)
  exact w_X7_close_62 hC hR hrec2 hI (lv_sub hl [0, 1, 2, 3] rfl) hf
def f_X7_close_2 (n : Nat) (rec2 : x_S × Int32 × Int32 × Int32 → Option (x_S)) (S : x_S) (a1 : Int32) (a2 : Int32) (a3 : Int32) : Option (x_S) :=
x_let (g_sc S 738) (fun v1 =>
if v1 ≤ a3 then
some S
else
x_g (¬ (a3 < 0 ∨ 400 ≤ (a3).toNatClampNeg)) (x_let (g_ar S 743 (a3).toNatClampNeg) (fun v2 =>
if v2 ≤ 0 then
f_X7_close_62 n rec2 S a1 a2 a3
else
x_g (¬ (a3 < 0 ∨ 400 ≤ (a3).toNatClampNeg)) (x_let (g_ar S 744 (a3).toNatClampNeg) (fun v3 =>
x_let (g_sc S 745) (fun v4 =>
if v3 = (v4 - (1 : Int32)) then
x_g (¬ (a3 < 0 ∨ 400 ≤ (a3).toNatClampNeg)) (x_let (g_ar S 743 (a3).toNatClampNeg) (fun v5 =>
if v5 = (1 : Int32) then
f_X7_close_54 n rec2 S a1 a2 a3 a1 a3
else
f_X7_close_54 n rec2 S a1 a2 a3 a2 a3))
else
f_X7_close_62 n rec2 S a1 a2 a3))))))
set_option maxHeartbeats 4000000 in
set_option maxRecDepth 100000 in
theorem w_X7_close_2 {r : x_S} {a1 : Int32} {a2 : Int32} {a3 : Int32} {rec2 : x_S × Int32 × Int32 × Int32 → Option (x_S)} (hC : x_C p s m args meth c cX7_close 4 RX7 E A) (hR : x_Rv p l e { frames := 0, cells := 0, slots := 0, locals := 0 } s m args below meth c cX7_close E A Q (mw E ad r)) (hrec2 : ∀ z : x_S × Int32 × Int32 × Int32, rec2 z = some r → ∀ (H : Heap) (locs : List Loc) (ls : Array Slot), x_I E A s.heap (mw E ad z.1) H locs → lv_has ls 4 [(0, .ref (ad 799)), (1, .int z.2.1), (2, .int z.2.2.1), (3, .int z.2.2.2)] → W p l e { frames := 0, cells := 0, slots := 0, locals := 0 } s m args below meth c H locs 0 0 Q (F0 m 2 ls [])) (hI : x_I E A s.heap (mw E ad S) H locs) (hl : lv_has ls 4 [(0, .ref (ad 799)), (1, .int a1), (2, .int a2), (3, .int a3)]) (hf : f_X7_close_2 n rec2 S a1 a2 a3 = some r) : W p l e { frames := 0, cells := 0, slots := 0, locals := 0 } s m args below meth c H locs 0 0 Q (F0 m 2 ls []) := by
  obtain ⟨hx, hb, hml, hown, hts, hK, hN, hA⟩ := id hC
  unfold f_X7_close_2 at hf
  refine lv_iload_n hx hb dX7_close_2 rfl (lv_at hl 3 rfl) ?_
  refine lv_aload_n hx hb dX7_close_3 rfl (lv_at hl 0 rfl) ?_
  refine gX7_38 hC hI hf lkf_X7_236 dX7_close_4 (fun v1 hf => ?_)
  refine x_ige hC 68 hf dX7_close_7 (by decide) (fun hf => ?_) (fun hf => ?_)
  · obtain rfl := Option.some.inj hf
    exact hR _ _ _ _ hI dX7_close_68
  · refine lv_aload_n hx hb dX7_close_10 rfl (lv_at hl 0 rfl) ?_
    refine gX7_43 hC hI lkf_X7_105 dX7_close_11 ?_
    refine lv_iload_n hx hb dX7_close_14 rfl (lv_at hl 3 rfl) ?_
    refine aX7_43 hC hI hf dX7_close_15 (fun v2 hf => ?_)
    refine x_le0 hC 62 hf dX7_close_16 (by decide) (fun hf => ?_) (fun hf => ?_)
    · exact w_X7_close_62 hC hR hrec2 hI (lv_sub hl [0, 1, 2, 3] rfl) hf
    · refine lv_aload_n hx hb dX7_close_19 rfl (lv_at hl 0 rfl) ?_
      refine gX7_44 hC hI lkf_X7_108 dX7_close_20 ?_
      refine lv_iload_n hx hb dX7_close_23 rfl (lv_at hl 3 rfl) ?_
      refine aX7_44 hC hI hf dX7_close_24 (fun v3 hf => ?_)
      refine lv_aload_n hx hb dX7_close_25 rfl (lv_at hl 0 rfl) ?_
      refine gX7_45 hC hI hf lkf_X7_246 dX7_close_26 (fun v4 hf => ?_)
      refine lv_iconst (v := (1 : Int32)) hx hb dX7_close_29 (by decide) ?_
      refine lv_isub hx hb dX7_close_30 ?_
      refine x_ine hC 62 hf dX7_close_31 (by decide) (fun hf => ?_) (fun hf => ?_)
      · exact w_X7_close_62 hC hR hrec2 hI (lv_sub hl [0, 1, 2, 3] rfl) hf
      · refine lv_aload_n hx hb dX7_close_34 rfl (lv_at hl 0 rfl) ?_
        refine gX7_42 hC hI lkf_X7_102 dX7_close_35 ?_
        refine lv_iload_n hx hb dX7_close_38 rfl (lv_at hl 3 rfl) ?_
        refine lv_aload_n hx hb dX7_close_39 rfl (lv_at hl 0 rfl) ?_
        refine gX7_43 hC hI lkf_X7_105 dX7_close_40 ?_
        refine lv_iload_n hx hb dX7_close_43 rfl (lv_at hl 3 rfl) ?_
        refine aX7_43 hC hI hf dX7_close_44 (fun v5 hf => ?_)
        refine lv_iconst (v := (1 : Int32)) hx hb dX7_close_45 (by decide) ?_
        refine x_ine hC 53 hf dX7_close_46 (by decide) (fun hf => ?_) (fun hf => ?_)
        · refine lv_iload_n hx hb dX7_close_53 rfl (lv_at hl 2 rfl) ?_
          exact w_X7_close_54 hC hR hrec2 hI (lv_sub hl [0, 1, 2, 3] rfl) hf
        · refine lv_iload_n hx hb dX7_close_49 rfl (lv_at hl 1 rfl) ?_
          refine lv_goto (tgt := 54) hx hb dX7_close_50 (by decide) ?_
          exact w_X7_close_54 hC hR hrec2 hI (lv_sub hl [0, 1, 2, 3] rfl) hf
theorem w_X7_close_2_loop {r : x_S} (hC : x_C p s m args meth c cX7_close 4 RX7 E A) (hR : x_Rv p l e { frames := 0, cells := 0, slots := 0, locals := 0 } s m args below meth c cX7_close E A Q (mw E ad r)) : ∀ (k : Nat) (z : x_S × Int32 × Int32 × Int32), x_loop (fun rec z => f_X7_close_2 n rec z.1 z.2.1 z.2.2.1 z.2.2.2) k z = some r → ∀ (H : Heap) (locs : List Loc) (ls : Array Slot), x_I E A s.heap (mw E ad z.1) H locs → lv_has ls 4 [(0, .ref (ad 799)), (1, .int z.2.1), (2, .int z.2.2.1), (3, .int z.2.2.2)] → W p l e { frames := 0, cells := 0, slots := 0, locals := 0 } s m args below meth c H locs 0 0 Q (F0 m 2 ls []) :=
  x_loop_ind (P := fun (z : x_S × Int32 × Int32 × Int32) => ∀ (H : Heap) (locs : List Loc) (ls : Array Slot), x_I E A s.heap (mw E ad z.1) H locs → lv_has ls 4 [(0, .ref (ad 799)), (1, .int z.2.1), (2, .int z.2.2.1), (3, .int z.2.2.2)] → W p l e { frames := 0, cells := 0, slots := 0, locals := 0 } s m args below meth c H locs 0 0 Q (F0 m 2 ls [])) (fun rec hrec z hf H locs ls hI hl => w_X7_close_2 hC hR hrec hI hl hf)
def f_X7_close (n : Nat) (S : x_S) (a1 : Int32) (a2 : Int32) : Option (x_S) :=
x_loop (fun rec z => f_X7_close_2 n rec z.1 z.2.1 z.2.2.1 z.2.2.2) n (S, a1, a2, (0 : Int32))
set_option maxHeartbeats 4000000 in
set_option maxRecDepth 100000 in
theorem w_X7_close {r : x_S} {a1 : Int32} {a2 : Int32} (hC : x_C p s m args meth c cX7_close 4 RX7 E A) (hR : x_Rv p l e { frames := 0, cells := 0, slots := 0, locals := 0 } s m args below meth c cX7_close E A Q (mw E ad r)) (hI : x_I E A s.heap (mw E ad S) H locs) (hl : lv_has ls 4 [(0, .ref (ad 799)), (1, .int a1), (2, .int a2)]) (hf : f_X7_close n S a1 a2 = some r) : W p l e { frames := 0, cells := 0, slots := 0, locals := 0 } s m args below meth c H locs 0 0 Q (F0 m 0 ls []) := by
  obtain ⟨hx, hb, hml, hown, hts, hK, hN, hA⟩ := id hC
  unfold f_X7_close at hf
  refine lv_iconst (v := (0 : Int32)) hx hb dX7_close_0 (by decide) ?_
  refine lv_istore_n (lv' := [(3, .int (0 : Int32)), (0, .ref (ad 799)), (1, .int a1), (2, .int a2)]) hx hb dX7_close_1 rfl hl (by decide) rfl (fun ls hl => ?_)
  exact w_X7_close_2_loop hC hR _ _ hf _ _ _ hI (lv_sub hl [1, 2, 3, 0] rfl)
theorem c_X7_close {a1 : Int32} {a2 : Int32} {S1 : x_S} (hf : f_X7_close n S a1 a2 = some S1) : x_M l yX7_close cX7_close 4 none 0 0 E [.ref (ad 799), .int a1, .int a2] (mw E ad S) (mw E ad S1) none :=
  x_entV (by decide) (Nat.le_of_ble_eq_true rfl) (fun p e s m args below meth c A Q ls hC hI hR hl => w_X7_close (r := S1) hC hR hI hl hf)
-- X7_endBody
def f_X7_endBody (n : Nat) (S : x_S) : Option (x_S) :=
x_let (g_sc S 745) (fun v1 =>
x_g (¬ ((v1 - (1 : Int32)) < 0 ∨ 64 ≤ ((v1 - (1 : Int32))).toNatClampNeg)) (x_let (g_ar S 751 ((v1 - (1 : Int32))).toNatClampNeg) (fun v2 =>
x_g (¬ ((v1 - (1 : Int32)) < 0 ∨ 64 ≤ ((v1 - (1 : Int32))).toNatClampNeg)) (x_let (g_ar S 747 ((v1 - (1 : Int32))).toNatClampNeg) (fun v3 =>
if v3 = (-1 : Int32) then
x_let (g_sc S 738) (fun v4 =>
x_g (¬ (v2 < 0 ∨ 400 ≤ (v2).toNatClampNeg)) (x_let (s_ar S 742 (v2).toNatClampNeg v4) (fun S =>
x_let (g_sc S 745) (fun v5 =>
x_let (s_sc S 745 (v5 - (1 : Int32))) (fun S =>
some S)))))
else
if v3 = (0 : Int32) then
x_let (g_sc S 745) (fun v6 =>
x_let (s_sc S 745 (v6 - (1 : Int32))) (fun S =>
some S))
else
if v3 = (1 : Int32) then
x_let (g_sc S 738) (fun v7 =>
x_g (¬ (v2 < 0 ∨ 400 ≤ (v2).toNatClampNeg)) (x_let (s_ar S 742 (v2).toNatClampNeg v7) (fun S =>
x_let (g_sc S 745) (fun v8 =>
x_let (s_sc S 745 (v8 - (1 : Int32))) (fun S =>
some S)))))
else
if v3 = (2 : Int32) then
x_let (g_sc S 738) (fun v9 =>
x_b (f_X7_make n S (2 : Int32) (0 : Int32) (0 : Int32) (0 : Int32)) (fun S =>
x_let (g_sc S 738) (fun v11 =>
x_g (¬ (v2 < 0 ∨ 400 ≤ (v2).toNatClampNeg)) (x_let (s_ar S 742 (v2).toNatClampNeg v11) (fun S =>
x_let (g_sc S 745) (fun v12 =>
x_let (s_sc S 745 (v12 - (1 : Int32))) (fun S =>
x_b (f_X7_beginBody n S (-1 : Int32) (0 : Int32) (0 : Int32) v9) (fun S =>
some S))))))))
else
if v3 = (3 : Int32) then
x_g (¬ ((v1 - (1 : Int32)) < 0 ∨ 64 ≤ ((v1 - (1 : Int32))).toNatClampNeg)) (x_let (g_ar S 748 ((v1 - (1 : Int32))).toNatClampNeg) (fun v14 =>
x_b (f_X7_make n S (2 : Int32) (0 : Int32) (0 : Int32) v14) (fun S =>
x_let (g_sc S 738) (fun v16 =>
x_g (¬ ((v1 - (1 : Int32)) < 0 ∨ 64 ≤ ((v1 - (1 : Int32))).toNatClampNeg)) (x_let (g_ar S 748 ((v1 - (1 : Int32))).toNatClampNeg) (fun v17 =>
x_b (f_X7_close n S v16 v17) (fun S =>
x_let (g_sc S 745) (fun v19 =>
x_let (s_sc S 745 (v19 - (1 : Int32))) (fun S =>
some S)))))))))
else
if v3 = (4 : Int32) then
x_b (f_X7_make n S (2 : Int32) (0 : Int32) (0 : Int32) v2) (fun S =>
x_let (g_sc S 738) (fun v21 =>
x_g (¬ (v2 < 0 ∨ 400 ≤ (v2).toNatClampNeg)) (x_let (s_ar S 742 (v2).toNatClampNeg v21) (fun S =>
x_let (g_sc S 738) (fun v22 =>
x_b (f_X7_close n S v22 v2) (fun S =>
x_let (g_sc S 745) (fun v24 =>
x_let (s_sc S 745 (v24 - (1 : Int32))) (fun S =>
some S))))))))
else
if v3 = (5 : Int32) then
x_let (g_sc S 738) (fun v25 =>
x_g (¬ ((v1 - (1 : Int32)) < 0 ∨ 64 ≤ ((v1 - (1 : Int32))).toNatClampNeg)) (x_let (g_ar S 749 ((v1 - (1 : Int32))).toNatClampNeg) (fun v26 =>
x_g (¬ ((v1 - (1 : Int32)) < 0 ∨ 64 ≤ ((v1 - (1 : Int32))).toNatClampNeg)) (x_let (g_ar S 750 ((v1 - (1 : Int32))).toNatClampNeg) (fun v27 =>
x_g (¬ ((v1 - (1 : Int32)) < 0 ∨ 64 ≤ ((v1 - (1 : Int32))).toNatClampNeg)) (x_let (g_ar S 748 ((v1 - (1 : Int32))).toNatClampNeg) (fun v28 =>
x_b (f_X7_make n S (3 : Int32) v26 v27 v28) (fun S =>
x_let (g_sc S 738) (fun v30 =>
x_b (f_X7_close n S v30 v25) (fun S =>
x_let (g_sc S 745) (fun v32 =>
x_let (s_sc S 745 (v32 - (1 : Int32))) (fun S =>
some S))))))))))))
else
x_let (g_sc S 745) (fun v33 =>
x_let (s_sc S 745 (v33 - (1 : Int32))) (fun S =>
some S)))))))
set_option maxHeartbeats 4000000 in
set_option maxRecDepth 100000 in
theorem w_X7_endBody {r : x_S} (hC : x_C p s m args meth c cX7_endBody 5 RX7 E A) (hR : x_Rv p l e { frames := 2, cells := 0, slots := 0, locals := 46 } s m args below meth c cX7_endBody E A Q (mw E ad r)) (hI : x_I E A s.heap (mw E ad S) H locs) (hl : lv_has ls 5 [(0, .ref (ad 799))]) (hf : f_X7_endBody n S = some r) : W p l e { frames := 2, cells := 0, slots := 0, locals := 46 } s m args below meth c H locs 0 0 Q (F0 m 0 ls []) := by
  obtain ⟨hx, hb, hml, hown, hts, hK, hN, hA⟩ := id hC
  unfold f_X7_endBody at hf
  refine lv_aload_n hx hb dX7_endBody_0 rfl (lv_at hl 0 rfl) ?_
  refine gX7_45 hC hI hf lkf_X7_246 dX7_endBody_1 (fun v1 hf => ?_)
  refine lv_iconst (v := (1 : Int32)) hx hb dX7_endBody_4 (by decide) ?_
  refine lv_isub hx hb dX7_endBody_5 ?_
  refine lv_istore_n (lv' := [(1, .int (v1 - (1 : Int32))), (0, .ref (ad 799))]) hx hb dX7_endBody_6 rfl hl (by decide) rfl (fun ls hl => ?_)
  refine lv_aload_n hx hb dX7_endBody_7 rfl (lv_at hl 1 rfl) ?_
  refine gX7_51 hC hI lkf_X7_126 dX7_endBody_8 ?_
  refine lv_iload_n hx hb dX7_endBody_11 rfl (lv_at hl 0 rfl) ?_
  refine aX7_51 hC hI hf dX7_endBody_12 (fun v2 hf => ?_)
  refine lv_istore_n (lv' := [(2, .int v2), (1, .int (v1 - (1 : Int32))), (0, .ref (ad 799))]) hx hb dX7_endBody_13 rfl hl (by decide) rfl (fun ls hl => ?_)
  refine lv_aload_n hx hb dX7_endBody_14 rfl (lv_at hl 2 rfl) ?_
  refine gX7_47 hC hI lkf_X7_114 dX7_endBody_15 ?_
  refine lv_iload_n hx hb dX7_endBody_18 rfl (lv_at hl 1 rfl) ?_
  refine aX7_47 hC hI hf dX7_endBody_19 (fun v3 hf => ?_)
  refine x_case hf (fun q9 hf => ?_) (fun q9 hf => ?_)
  · refine lv_tableIn (tgt := 119) hx hb dX7_endBody_20 (by rw [q9]; decide) (by rw [q9]; decide) (by rw [q9]; rfl) (by decide) ?_
    refine lv_aload_n hx hb dX7_endBody_119 rfl (lv_at hl 2 rfl) ?_
    refine gX7_42 hC hI lkf_X7_102 dX7_endBody_120 ?_
    refine lv_iload_n hx hb dX7_endBody_123 rfl (lv_at hl 0 rfl) ?_
    refine lv_aload_n hx hb dX7_endBody_124 rfl (lv_at hl 2 rfl) ?_
    refine gX7_38 hC hI hf lkf_X7_236 dX7_endBody_125 (fun v4 hf => ?_)
    refine tX7_42 hC hI hf dX7_endBody_128 (fun S H locs hI hf => ?_)
    refine lv_goto (tgt := 234) hx hb dX7_endBody_129 (by decide) ?_
    refine lv_aload_n hx hb dX7_endBody_234 rfl (lv_at hl 2 rfl) ?_
    refine lv_dup hx hb dX7_endBody_235 rfl ?_
    refine gX7_45 hC hI hf lkf_X7_246 dX7_endBody_236 (fun v5 hf => ?_)
    refine lv_iconst (v := (1 : Int32)) hx hb dX7_endBody_239 (by decide) ?_
    refine lv_isub hx hb dX7_endBody_240 ?_
    refine pX7_45 hC hI hf lkf_X7_246 dX7_endBody_241 (fun S H locs hI hf => ?_)
    obtain rfl := Option.some.inj hf
    exact hR _ _ _ _ hI dX7_endBody_244
  · refine x_case hf (fun q10 hf => ?_) (fun q10 hf => ?_)
    · refine lv_tableIn (tgt := 234) hx hb dX7_endBody_20 (by rw [q10]; decide) (by rw [q10]; decide) (by rw [q10]; rfl) (by decide) ?_
      refine lv_aload_n hx hb dX7_endBody_234 rfl (lv_at hl 2 rfl) ?_
      refine lv_dup hx hb dX7_endBody_235 rfl ?_
      refine gX7_45 hC hI hf lkf_X7_246 dX7_endBody_236 (fun v6 hf => ?_)
      refine lv_iconst (v := (1 : Int32)) hx hb dX7_endBody_239 (by decide) ?_
      refine lv_isub hx hb dX7_endBody_240 ?_
      refine pX7_45 hC hI hf lkf_X7_246 dX7_endBody_241 (fun S H locs hI hf => ?_)
      obtain rfl := Option.some.inj hf
      exact hR _ _ _ _ hI dX7_endBody_244
    · refine x_case hf (fun q11 hf => ?_) (fun q11 hf => ?_)
      · refine lv_tableIn (tgt := 64) hx hb dX7_endBody_20 (by rw [q11]; decide) (by rw [q11]; decide) (by rw [q11]; rfl) (by decide) ?_
        refine lv_aload_n hx hb dX7_endBody_64 rfl (lv_at hl 2 rfl) ?_
        refine gX7_42 hC hI lkf_X7_102 dX7_endBody_65 ?_
        refine lv_iload_n hx hb dX7_endBody_68 rfl (lv_at hl 0 rfl) ?_
        refine lv_aload_n hx hb dX7_endBody_69 rfl (lv_at hl 2 rfl) ?_
        refine gX7_38 hC hI hf lkf_X7_236 dX7_endBody_70 (fun v7 hf => ?_)
        refine tX7_42 hC hI hf dX7_endBody_73 (fun S H locs hI hf => ?_)
        refine lv_goto (tgt := 234) hx hb dX7_endBody_74 (by decide) ?_
        refine lv_aload_n hx hb dX7_endBody_234 rfl (lv_at hl 2 rfl) ?_
        refine lv_dup hx hb dX7_endBody_235 rfl ?_
        refine gX7_45 hC hI hf lkf_X7_246 dX7_endBody_236 (fun v8 hf => ?_)
        refine lv_iconst (v := (1 : Int32)) hx hb dX7_endBody_239 (by decide) ?_
        refine lv_isub hx hb dX7_endBody_240 ?_
        refine pX7_45 hC hI hf lkf_X7_246 dX7_endBody_241 (fun S H locs hI hf => ?_)
        obtain rfl := Option.some.inj hf
        exact hR _ _ _ _ hI dX7_endBody_244
      · refine x_case hf (fun q12 hf => ?_) (fun q12 hf => ?_)
        · refine lv_tableIn (tgt := 77) hx hb dX7_endBody_20 (by rw [q12]; decide) (by rw [q12]; decide) (by rw [q12]; rfl) (by decide) ?_
          refine lv_aload_n hx hb dX7_endBody_77 rfl (lv_at hl 2 rfl) ?_
          refine gX7_38 hC hI hf lkf_X7_236 dX7_endBody_78 (fun v9 hf => ?_)
          refine lv_istore_n (lv' := [(3, .int v9), (2, .int v2), (1, .int (v1 - (1 : Int32))), (0, .ref (ad 799))]) hx hb dX7_endBody_81 rfl hl (by decide) rfl (fun ls hl => ?_)
          refine lv_aload_n hx hb dX7_endBody_82 rfl (lv_at hl 3 rfl) ?_
          refine lv_iconst (v := (2 : Int32)) hx hb dX7_endBody_83 (by decide) ?_
          refine lv_iconst (v := (0 : Int32)) hx hb dX7_endBody_84 (by decide) ?_
          refine lv_iconst (v := (0 : Int32)) hx hb dX7_endBody_85 (by decide) ?_
          refine lv_iconst (v := (0 : Int32)) hx hb dX7_endBody_86 (by decide) ?_
          obtain ⟨S, hc10, hf⟩ := x_b_eq hf
          refine x_callV hC hI (c_X7_make hc10) 0 7 rfl rfl kv_X7_249 rfl ⟨Nat.le_of_ble_eq_true rfl, Nat.le_of_ble_eq_true rfl⟩ ⟨Nat.le_refl _, Nat.le_refl _⟩ hl.1 rfl (Nat.le_of_ble_eq_true rfl) dX7_endBody_87 (fun H locs hI => ?_)
          refine lv_aload_n hx hb dX7_endBody_90 rfl (lv_at hl 3 rfl) ?_
          refine gX7_42 hC hI lkf_X7_102 dX7_endBody_91 ?_
          refine lv_iload_n hx hb dX7_endBody_94 rfl (lv_at hl 1 rfl) ?_
          refine lv_aload_n hx hb dX7_endBody_95 rfl (lv_at hl 3 rfl) ?_
          refine gX7_38 hC hI hf lkf_X7_236 dX7_endBody_96 (fun v11 hf => ?_)
          refine tX7_42 hC hI hf dX7_endBody_99 (fun S H locs hI hf => ?_)
          refine lv_aload_n hx hb dX7_endBody_100 rfl (lv_at hl 3 rfl) ?_
          refine lv_dup hx hb dX7_endBody_101 rfl ?_
          refine gX7_45 hC hI hf lkf_X7_246 dX7_endBody_102 (fun v12 hf => ?_)
          refine lv_iconst (v := (1 : Int32)) hx hb dX7_endBody_105 (by decide) ?_
          refine lv_isub hx hb dX7_endBody_106 ?_
          refine pX7_45 hC hI hf lkf_X7_246 dX7_endBody_107 (fun S H locs hI hf => ?_)
          refine lv_aload_n hx hb dX7_endBody_110 rfl (lv_at hl 3 rfl) ?_
          refine lv_iconst (v := (-1 : Int32)) hx hb dX7_endBody_111 (by decide) ?_
          refine lv_iconst (v := (0 : Int32)) hx hb dX7_endBody_112 (by decide) ?_
          refine lv_iconst (v := (0 : Int32)) hx hb dX7_endBody_113 (by decide) ?_
          refine lv_iload_n hx hb dX7_endBody_114 rfl (lv_at hl 0 rfl) ?_
          obtain ⟨S, hc13, hf⟩ := x_b_eq hf
          refine x_callV hC hI (c_X7_beginBody hc13) 0 7 rfl rfl kv_X7_266 rfl ⟨Nat.le_of_ble_eq_true rfl, Nat.le_of_ble_eq_true rfl⟩ ⟨Nat.le_refl _, Nat.le_refl _⟩ hl.1 rfl (Nat.le_of_ble_eq_true rfl) dX7_endBody_115 (fun H locs hI => ?_)
          obtain rfl := Option.some.inj hf
          exact hR _ _ _ _ hI dX7_endBody_118
        · refine x_case hf (fun q13 hf => ?_) (fun q13 hf => ?_)
          · refine lv_tableIn (tgt := 132) hx hb dX7_endBody_20 (by rw [q13]; decide) (by rw [q13]; decide) (by rw [q13]; rfl) (by decide) ?_
            refine lv_aload_n hx hb dX7_endBody_132 rfl (lv_at hl 2 rfl) ?_
            refine lv_iconst (v := (2 : Int32)) hx hb dX7_endBody_133 (by decide) ?_
            refine lv_iconst (v := (0 : Int32)) hx hb dX7_endBody_134 (by decide) ?_
            refine lv_iconst (v := (0 : Int32)) hx hb dX7_endBody_135 (by decide) ?_
            refine lv_aload_n hx hb dX7_endBody_136 rfl (lv_at hl 2 rfl) ?_
            refine gX7_48 hC hI lkf_X7_117 dX7_endBody_137 ?_
            refine lv_iload_n hx hb dX7_endBody_140 rfl (lv_at hl 1 rfl) ?_
            refine aX7_48 hC hI hf dX7_endBody_141 (fun v14 hf => ?_)
            obtain ⟨S, hc15, hf⟩ := x_b_eq hf
            refine x_callV hC hI (c_X7_make hc15) 0 7 rfl rfl kv_X7_249 rfl ⟨Nat.le_of_ble_eq_true rfl, Nat.le_of_ble_eq_true rfl⟩ ⟨Nat.le_refl _, Nat.le_refl _⟩ hl.1 rfl (Nat.le_of_ble_eq_true rfl) dX7_endBody_142 (fun H locs hI => ?_)
            refine lv_aload_n hx hb dX7_endBody_145 rfl (lv_at hl 2 rfl) ?_
            refine lv_aload_n hx hb dX7_endBody_146 rfl (lv_at hl 2 rfl) ?_
            refine gX7_38 hC hI hf lkf_X7_236 dX7_endBody_147 (fun v16 hf => ?_)
            refine lv_aload_n hx hb dX7_endBody_150 rfl (lv_at hl 2 rfl) ?_
            refine gX7_48 hC hI lkf_X7_117 dX7_endBody_151 ?_
            refine lv_iload_n hx hb dX7_endBody_154 rfl (lv_at hl 1 rfl) ?_
            refine aX7_48 hC hI hf dX7_endBody_155 (fun v17 hf => ?_)
            obtain ⟨S, hc18, hf⟩ := x_b_eq hf
            refine x_callV hC hI (c_X7_close hc18) 0 7 rfl rfl kv_X7_269 rfl ⟨Nat.le_of_ble_eq_true rfl, Nat.le_of_ble_eq_true rfl⟩ ⟨Nat.le_refl _, Nat.le_refl _⟩ hl.1 rfl (Nat.le_of_ble_eq_true rfl) dX7_endBody_156 (fun H locs hI => ?_)
            refine lv_goto (tgt := 234) hx hb dX7_endBody_159 (by decide) ?_
            refine lv_aload_n hx hb dX7_endBody_234 rfl (lv_at hl 2 rfl) ?_
            refine lv_dup hx hb dX7_endBody_235 rfl ?_
            refine gX7_45 hC hI hf lkf_X7_246 dX7_endBody_236 (fun v19 hf => ?_)
            refine lv_iconst (v := (1 : Int32)) hx hb dX7_endBody_239 (by decide) ?_
            refine lv_isub hx hb dX7_endBody_240 ?_
            refine pX7_45 hC hI hf lkf_X7_246 dX7_endBody_241 (fun S H locs hI hf => ?_)
            obtain rfl := Option.some.inj hf
            exact hR _ _ _ _ hI dX7_endBody_244
          · refine x_case hf (fun q14 hf => ?_) (fun q14 hf => ?_)
            · refine lv_tableIn (tgt := 162) hx hb dX7_endBody_20 (by rw [q14]; decide) (by rw [q14]; decide) (by rw [q14]; rfl) (by decide) ?_
              refine lv_aload_n hx hb dX7_endBody_162 rfl (lv_at hl 2 rfl) ?_
              refine lv_iconst (v := (2 : Int32)) hx hb dX7_endBody_163 (by decide) ?_
              refine lv_iconst (v := (0 : Int32)) hx hb dX7_endBody_164 (by decide) ?_
              refine lv_iconst (v := (0 : Int32)) hx hb dX7_endBody_165 (by decide) ?_
              refine lv_iload_n hx hb dX7_endBody_166 rfl (lv_at hl 0 rfl) ?_
              obtain ⟨S, hc20, hf⟩ := x_b_eq hf
              refine x_callV hC hI (c_X7_make hc20) 0 7 rfl rfl kv_X7_249 rfl ⟨Nat.le_of_ble_eq_true rfl, Nat.le_of_ble_eq_true rfl⟩ ⟨Nat.le_refl _, Nat.le_refl _⟩ hl.1 rfl (Nat.le_of_ble_eq_true rfl) dX7_endBody_167 (fun H locs hI => ?_)
              refine lv_aload_n hx hb dX7_endBody_170 rfl (lv_at hl 2 rfl) ?_
              refine gX7_42 hC hI lkf_X7_102 dX7_endBody_171 ?_
              refine lv_iload_n hx hb dX7_endBody_174 rfl (lv_at hl 0 rfl) ?_
              refine lv_aload_n hx hb dX7_endBody_175 rfl (lv_at hl 2 rfl) ?_
              refine gX7_38 hC hI hf lkf_X7_236 dX7_endBody_176 (fun v21 hf => ?_)
              refine tX7_42 hC hI hf dX7_endBody_179 (fun S H locs hI hf => ?_)
              refine lv_aload_n hx hb dX7_endBody_180 rfl (lv_at hl 2 rfl) ?_
              refine lv_aload_n hx hb dX7_endBody_181 rfl (lv_at hl 2 rfl) ?_
              refine gX7_38 hC hI hf lkf_X7_236 dX7_endBody_182 (fun v22 hf => ?_)
              refine lv_iload_n hx hb dX7_endBody_185 rfl (lv_at hl 0 rfl) ?_
              obtain ⟨S, hc23, hf⟩ := x_b_eq hf
              refine x_callV hC hI (c_X7_close hc23) 0 7 rfl rfl kv_X7_269 rfl ⟨Nat.le_of_ble_eq_true rfl, Nat.le_of_ble_eq_true rfl⟩ ⟨Nat.le_refl _, Nat.le_refl _⟩ hl.1 rfl (Nat.le_of_ble_eq_true rfl) dX7_endBody_186 (fun H locs hI => ?_)
              refine lv_goto (tgt := 234) hx hb dX7_endBody_189 (by decide) ?_
              refine lv_aload_n hx hb dX7_endBody_234 rfl (lv_at hl 2 rfl) ?_
              refine lv_dup hx hb dX7_endBody_235 rfl ?_
              refine gX7_45 hC hI hf lkf_X7_246 dX7_endBody_236 (fun v24 hf => ?_)
              refine lv_iconst (v := (1 : Int32)) hx hb dX7_endBody_239 (by decide) ?_
              refine lv_isub hx hb dX7_endBody_240 ?_
              refine pX7_45 hC hI hf lkf_X7_246 dX7_endBody_241 (fun S H locs hI hf => ?_)
              obtain rfl := Option.some.inj hf
              exact hR _ _ _ _ hI dX7_endBody_244
            · refine x_case hf (fun q15 hf => ?_) (fun q15 hf => ?_)
              · refine lv_tableIn (tgt := 192) hx hb dX7_endBody_20 (by rw [q15]; decide) (by rw [q15]; decide) (by rw [q15]; rfl) (by decide) ?_
                refine lv_aload_n hx hb dX7_endBody_192 rfl (lv_at hl 2 rfl) ?_
                refine gX7_38 hC hI hf lkf_X7_236 dX7_endBody_193 (fun v25 hf => ?_)
                refine lv_istore (lv' := [(4, .int v25), (2, .int v2), (1, .int (v1 - (1 : Int32))), (0, .ref (ad 799))]) hx hb dX7_endBody_196 hl (by decide) rfl (fun ls hl => ?_)
                refine lv_aload_n hx hb dX7_endBody_198 rfl (lv_at hl 3 rfl) ?_
                refine lv_iconst (v := (3 : Int32)) hx hb dX7_endBody_199 (by decide) ?_
                refine lv_aload_n hx hb dX7_endBody_200 rfl (lv_at hl 3 rfl) ?_
                refine gX7_49 hC hI lkf_X7_120 dX7_endBody_201 ?_
                refine lv_iload_n hx hb dX7_endBody_204 rfl (lv_at hl 2 rfl) ?_
                refine aX7_49 hC hI hf dX7_endBody_205 (fun v26 hf => ?_)
                refine lv_aload_n hx hb dX7_endBody_206 rfl (lv_at hl 3 rfl) ?_
                refine gX7_50 hC hI lkf_X7_123 dX7_endBody_207 ?_
                refine lv_iload_n hx hb dX7_endBody_210 rfl (lv_at hl 2 rfl) ?_
                refine aX7_50 hC hI hf dX7_endBody_211 (fun v27 hf => ?_)
                refine lv_aload_n hx hb dX7_endBody_212 rfl (lv_at hl 3 rfl) ?_
                refine gX7_48 hC hI lkf_X7_117 dX7_endBody_213 ?_
                refine lv_iload_n hx hb dX7_endBody_216 rfl (lv_at hl 2 rfl) ?_
                refine aX7_48 hC hI hf dX7_endBody_217 (fun v28 hf => ?_)
                obtain ⟨S, hc29, hf⟩ := x_b_eq hf
                refine x_callV hC hI (c_X7_make hc29) 0 7 rfl rfl kv_X7_249 rfl ⟨Nat.le_of_ble_eq_true rfl, Nat.le_of_ble_eq_true rfl⟩ ⟨Nat.le_refl _, Nat.le_refl _⟩ hl.1 rfl (Nat.le_of_ble_eq_true rfl) dX7_endBody_218 (fun H locs hI => ?_)
                refine lv_aload_n hx hb dX7_endBody_221 rfl (lv_at hl 3 rfl) ?_
                refine lv_aload_n hx hb dX7_endBody_222 rfl (lv_at hl 3 rfl) ?_
                refine gX7_38 hC hI hf lkf_X7_236 dX7_endBody_223 (fun v30 hf => ?_)
                refine lv_iload hx hb dX7_endBody_226 (lv_at hl 0 rfl) ?_
                obtain ⟨S, hc31, hf⟩ := x_b_eq hf
                refine x_callV hC hI (c_X7_close hc31) 0 7 rfl rfl kv_X7_269 rfl ⟨Nat.le_of_ble_eq_true rfl, Nat.le_of_ble_eq_true rfl⟩ ⟨Nat.le_refl _, Nat.le_refl _⟩ hl.1 rfl (Nat.le_of_ble_eq_true rfl) dX7_endBody_228 (fun H locs hI => ?_)
                refine lv_goto (tgt := 234) hx hb dX7_endBody_231 (by decide) ?_
                refine lv_aload_n hx hb dX7_endBody_234 rfl (lv_at hl 3 rfl) ?_
                refine lv_dup hx hb dX7_endBody_235 rfl ?_
                refine gX7_45 hC hI hf lkf_X7_246 dX7_endBody_236 (fun v32 hf => ?_)
                refine lv_iconst (v := (1 : Int32)) hx hb dX7_endBody_239 (by decide) ?_
                refine lv_isub hx hb dX7_endBody_240 ?_
                refine pX7_45 hC hI hf lkf_X7_246 dX7_endBody_241 (fun S H locs hI hf => ?_)
                obtain rfl := Option.some.inj hf
                exact hR _ _ _ _ hI dX7_endBody_244
              · refine lv_tableOut (tgt := 234) hx hb dX7_endBody_20 (by have z9 := lv_neT (a := -1) q9 (by decide); have z10 := lv_neT (a := 0) q10 (by decide); have z11 := lv_neT (a := 1) q11 (by decide); have z12 := lv_neT (a := 2) q12 (by decide); have z13 := lv_neT (a := 3) q13 (by decide); have z14 := lv_neT (a := 4) q14 (by decide); have z15 := lv_neT (a := 5) q15 (by decide); omega) (by decide) ?_
                refine lv_aload_n hx hb dX7_endBody_234 rfl (lv_at hl 2 rfl) ?_
                refine lv_dup hx hb dX7_endBody_235 rfl ?_
                refine gX7_45 hC hI hf lkf_X7_246 dX7_endBody_236 (fun v33 hf => ?_)
                refine lv_iconst (v := (1 : Int32)) hx hb dX7_endBody_239 (by decide) ?_
                refine lv_isub hx hb dX7_endBody_240 ?_
                refine pX7_45 hC hI hf lkf_X7_246 dX7_endBody_241 (fun S H locs hI hf => ?_)
                obtain rfl := Option.some.inj hf
                exact hR _ _ _ _ hI dX7_endBody_244
theorem c_X7_endBody {S1 : x_S} (hf : f_X7_endBody n S = some S1) : x_M l yX7_endBody cX7_endBody 5 none 2 46 E [.ref (ad 799)] (mw E ad S) (mw E ad S1) none :=
  x_entV (by decide) (Nat.le_of_ble_eq_true rfl) (fun p e s m args below meth c A Q ls hC hI hR hl => w_X7_endBody (r := S1) hC hR hI hl hf)
-- X7_innermost
def f_X7_innermost_31 (n : Nat) (rec4 : x_S × Int32 × Int32 → Option (Int32 × x_S)) (S : x_S) (a2 : Int32) (t0 : Int32) : Option (Int32 × x_S) :=
rec4 (S, t0, (a2 + (1 : Int32)))
set_option maxHeartbeats 4000000 in
set_option maxRecDepth 100000 in
theorem w_X7_innermost_31 {r : Int32 × x_S} {a2 : Int32} {t0 : Int32} {rec4 : x_S × Int32 × Int32 → Option (Int32 × x_S)} (hC : x_C p s m args meth c cX7_innermost 3 RX7 E A) (hR : x_Ri p l e { frames := 1, cells := 0, slots := 0, locals := 22 } s m args below meth c cX7_innermost E A Q (mw E ad r.2) r.1) (hrec4 : ∀ z : x_S × Int32 × Int32, rec4 z = some r → ∀ (H : Heap) (locs : List Loc) (ls : Array Slot), x_I E A s.heap (mw E ad z.1) H locs → lv_has ls 3 [(0, .ref (ad 799)), (1, .int z.2.1), (2, .int z.2.2)] → W p l e { frames := 1, cells := 0, slots := 0, locals := 22 } s m args below meth c H locs 0 0 Q (F0 m 4 ls [])) (hI : x_I E A s.heap (mw E ad S) H locs) (hl : lv_has ls 3 [(0, .ref (ad 799)), (2, .int a2)]) (hf : f_X7_innermost_31 n rec4 S a2 t0 = some r) : W p l e { frames := 1, cells := 0, slots := 0, locals := 22 } s m args below meth c H locs 0 0 Q (F0 m 31 ls [.int t0]) := by
  obtain ⟨hx, hb, hml, hown, hts, hK, hN, hA⟩ := id hC
  unfold f_X7_innermost_31 at hf
  refine lv_istore_n (lv' := [(1, .int t0), (0, .ref (ad 799)), (2, .int a2)]) hx hb dX7_innermost_31 rfl hl (by decide) rfl (fun ls hl => ?_)
  refine lv_iinc (v := (a2 + (1 : Int32))) (lv' := [(2, .int (a2 + (1 : Int32))), (1, .int t0), (0, .ref (ad 799))]) hx hb dX7_innermost_32 hl (k := 2) rfl rfl (by decide) rfl (fun ls hl => ?_)
  refine lv_goto (tgt := 4) hx hb dX7_innermost_35 (by decide) ?_
  exact hrec4 _ hf _ _ _ hI (lv_sub hl [2, 1, 0] rfl)
def f_X7_innermost_4 (n : Nat) (rec4 : x_S × Int32 × Int32 → Option (Int32 × x_S)) (S : x_S) (a1 : Int32) (a2 : Int32) : Option (Int32 × x_S) :=
x_let (g_sc S 745) (fun v1 =>
if v1 ≤ a2 then
some (a1, S)
else
x_g (¬ (a2 < 0 ∨ 64 ≤ (a2).toNatClampNeg)) (x_let (g_ar S 747 (a2).toNatClampNeg) (fun v2 =>
x_b (f_X7_in n v2 (3 : Int32) (5 : Int32)) (fun v4 =>
if v4 = 0 then
f_X7_innermost_31 n rec4 S a2 a1
else
f_X7_innermost_31 n rec4 S a2 a2))))
set_option maxHeartbeats 4000000 in
set_option maxRecDepth 100000 in
theorem w_X7_innermost_4 {r : Int32 × x_S} {a1 : Int32} {a2 : Int32} {rec4 : x_S × Int32 × Int32 → Option (Int32 × x_S)} (hC : x_C p s m args meth c cX7_innermost 3 RX7 E A) (hR : x_Ri p l e { frames := 1, cells := 0, slots := 0, locals := 22 } s m args below meth c cX7_innermost E A Q (mw E ad r.2) r.1) (hrec4 : ∀ z : x_S × Int32 × Int32, rec4 z = some r → ∀ (H : Heap) (locs : List Loc) (ls : Array Slot), x_I E A s.heap (mw E ad z.1) H locs → lv_has ls 3 [(0, .ref (ad 799)), (1, .int z.2.1), (2, .int z.2.2)] → W p l e { frames := 1, cells := 0, slots := 0, locals := 22 } s m args below meth c H locs 0 0 Q (F0 m 4 ls [])) (hI : x_I E A s.heap (mw E ad S) H locs) (hl : lv_has ls 3 [(0, .ref (ad 799)), (1, .int a1), (2, .int a2)]) (hf : f_X7_innermost_4 n rec4 S a1 a2 = some r) : W p l e { frames := 1, cells := 0, slots := 0, locals := 22 } s m args below meth c H locs 0 0 Q (F0 m 4 ls []) := by
  obtain ⟨hx, hb, hml, hown, hts, hK, hN, hA⟩ := id hC
  unfold f_X7_innermost_4 at hf
  refine lv_iload_n hx hb dX7_innermost_4 rfl (lv_at hl 2 rfl) ?_
  refine lv_aload_n hx hb dX7_innermost_5 rfl (lv_at hl 0 rfl) ?_
  refine gX7_45 hC hI hf lkf_X7_246 dX7_innermost_6 (fun v1 hf => ?_)
  refine x_ige hC 38 hf dX7_innermost_9 (by decide) (fun hf => ?_) (fun hf => ?_)
  · refine lv_iload_n hx hb dX7_innermost_38 rfl (lv_at hl 1 rfl) ?_
    obtain rfl := Option.some.inj hf
    exact hR _ _ _ _ hI dX7_innermost_39
  · refine lv_aload_n hx hb dX7_innermost_12 rfl (lv_at hl 0 rfl) ?_
    refine gX7_47 hC hI lkf_X7_114 dX7_innermost_13 ?_
    refine lv_iload_n hx hb dX7_innermost_16 rfl (lv_at hl 2 rfl) ?_
    refine aX7_47 hC hI hf dX7_innermost_17 (fun v2 hf => ?_)
    refine lv_iconst (v := (3 : Int32)) hx hb dX7_innermost_18 (by decide) ?_
    refine lv_iconst (v := (5 : Int32)) hx hb dX7_innermost_19 (by decide) ?_
    obtain ⟨v4, hc3, hf⟩ := x_b_eq hf
    refine x_callS hC hI (c_X7_in hc3) ks_X7_138 rfl ⟨Nat.le_of_ble_eq_true rfl, Nat.le_of_ble_eq_true rfl⟩ ⟨Nat.le_refl _, Nat.le_refl _⟩ hl.1 rfl (Nat.le_of_ble_eq_true rfl) dX7_innermost_20 (fun H locs hI => ?_)
    refine x_eq0 hC 30 hf dX7_innermost_23 (by decide) (fun hf => ?_) (fun hf => ?_)
    · refine lv_iload_n hx hb dX7_innermost_30 rfl (lv_at hl 1 rfl) ?_
      exact w_X7_innermost_31 hC hR hrec4 hI (lv_sub hl [0, 2] rfl) hf
    · refine lv_iload_n hx hb dX7_innermost_26 rfl (lv_at hl 2 rfl) ?_
      refine lv_goto (tgt := 31) hx hb dX7_innermost_27 (by decide) ?_
      exact w_X7_innermost_31 hC hR hrec4 hI (lv_sub hl [0, 2] rfl) hf
theorem w_X7_innermost_4_loop {r : Int32 × x_S} (hC : x_C p s m args meth c cX7_innermost 3 RX7 E A) (hR : x_Ri p l e { frames := 1, cells := 0, slots := 0, locals := 22 } s m args below meth c cX7_innermost E A Q (mw E ad r.2) r.1) : ∀ (k : Nat) (z : x_S × Int32 × Int32), x_loop (fun rec z => f_X7_innermost_4 n rec z.1 z.2.1 z.2.2) k z = some r → ∀ (H : Heap) (locs : List Loc) (ls : Array Slot), x_I E A s.heap (mw E ad z.1) H locs → lv_has ls 3 [(0, .ref (ad 799)), (1, .int z.2.1), (2, .int z.2.2)] → W p l e { frames := 1, cells := 0, slots := 0, locals := 22 } s m args below meth c H locs 0 0 Q (F0 m 4 ls []) :=
  x_loop_ind (P := fun (z : x_S × Int32 × Int32) => ∀ (H : Heap) (locs : List Loc) (ls : Array Slot), x_I E A s.heap (mw E ad z.1) H locs → lv_has ls 3 [(0, .ref (ad 799)), (1, .int z.2.1), (2, .int z.2.2)] → W p l e { frames := 1, cells := 0, slots := 0, locals := 22 } s m args below meth c H locs 0 0 Q (F0 m 4 ls [])) (fun rec hrec z hf H locs ls hI hl => w_X7_innermost_4 hC hR hrec hI hl hf)
def f_X7_innermost (n : Nat) (S : x_S) : Option (Int32 × x_S) :=
x_loop (fun rec z => f_X7_innermost_4 n rec z.1 z.2.1 z.2.2) n (S, (-1 : Int32), (0 : Int32))
set_option maxHeartbeats 4000000 in
set_option maxRecDepth 100000 in
theorem w_X7_innermost {r : Int32 × x_S} (hC : x_C p s m args meth c cX7_innermost 3 RX7 E A) (hR : x_Ri p l e { frames := 1, cells := 0, slots := 0, locals := 22 } s m args below meth c cX7_innermost E A Q (mw E ad r.2) r.1) (hI : x_I E A s.heap (mw E ad S) H locs) (hl : lv_has ls 3 [(0, .ref (ad 799))]) (hf : f_X7_innermost n S = some r) : W p l e { frames := 1, cells := 0, slots := 0, locals := 22 } s m args below meth c H locs 0 0 Q (F0 m 0 ls []) := by
  obtain ⟨hx, hb, hml, hown, hts, hK, hN, hA⟩ := id hC
  unfold f_X7_innermost at hf
  refine lv_iconst (v := (-1 : Int32)) hx hb dX7_innermost_0 (by decide) ?_
  refine lv_istore_n (lv' := [(1, .int (-1 : Int32)), (0, .ref (ad 799))]) hx hb dX7_innermost_1 rfl hl (by decide) rfl (fun ls hl => ?_)
  refine lv_iconst (v := (0 : Int32)) hx hb dX7_innermost_2 (by decide) ?_
  refine lv_istore_n (lv' := [(2, .int (0 : Int32)), (1, .int (-1 : Int32)), (0, .ref (ad 799))]) hx hb dX7_innermost_3 rfl hl (by decide) rfl (fun ls hl => ?_)
  exact w_X7_innermost_4_loop hC hR _ _ hf _ _ _ hI (lv_sub hl [2, 1, 0] rfl)
theorem c_X7_innermost {v : Int32} {S1 : x_S} (hf : f_X7_innermost n S = some (v, S1)) : x_M l yX7_innermost cX7_innermost 3 (some .int) 1 22 E [.ref (ad 799)] (mw E ad S) (mw E ad S1) (some (.int v)) :=
  x_entI (by decide) (Nat.le_of_ble_eq_true rfl) (fun p e s m args below meth c A Q ls hC hI hR hl => w_X7_innermost (r := (v, S1)) hC hR hI hl hf)
-- X7_leave
def f_X7_leave_10 (n : Nat) (S : x_S) (a1 : Int32) (a3 : Int32) (a4 : Int32) (t0 : Int32) : Option (x_S) :=
x_b (f_X7_make n S t0 a3 a4 (0 : Int32)) (fun S =>
x_let (g_sc S 738) (fun v2 =>
x_g (¬ ((v2 - (1 : Int32)) < 0 ∨ 400 ≤ ((v2 - (1 : Int32))).toNatClampNeg)) (x_let (s_ar S 743 ((v2 - (1 : Int32))).toNatClampNeg a1) (fun S =>
x_let (g_sc S 738) (fun v3 =>
x_b2 (f_X7_innermost n S) (fun v5 S =>
x_g (¬ ((v3 - (1 : Int32)) < 0 ∨ 400 ≤ ((v3 - (1 : Int32))).toNatClampNeg)) (x_let (s_ar S 744 ((v3 - (1 : Int32))).toNatClampNeg v5) (fun S =>
some S))))))))
set_option maxHeartbeats 4000000 in
set_option maxRecDepth 100000 in
theorem w_X7_leave_10 {r : x_S} {a1 : Int32} {a3 : Int32} {a4 : Int32} {t0 : Int32} (hC : x_C p s m args meth c cX7_leave 5 RX7 E A) (hR : x_Rv p l e { frames := 2, cells := 0, slots := 0, locals := 44 } s m args below meth c cX7_leave E A Q (mw E ad r)) (hI : x_I E A s.heap (mw E ad S) H locs) (hl : lv_has ls 5 [(0, .ref (ad 799)), (1, .int a1), (3, .int a3), (4, .int a4)]) (hf : f_X7_leave_10 n S a1 a3 a4 t0 = some r) : W p l e { frames := 2, cells := 0, slots := 0, locals := 44 } s m args below meth c H locs 0 0 Q (F0 m 10 ls [.int t0, .ref (ad 799)]) := by
  obtain ⟨hx, hb, hml, hown, hts, hK, hN, hA⟩ := id hC
  unfold f_X7_leave_10 at hf
  refine lv_iload_n hx hb dX7_leave_10 rfl (lv_at hl 2 rfl) ?_
  refine lv_iload hx hb dX7_leave_11 (lv_at hl 3 rfl) ?_
  refine lv_iconst (v := (0 : Int32)) hx hb dX7_leave_13 (by decide) ?_
  obtain ⟨S, hc1, hf⟩ := x_b_eq hf
  refine x_callV hC hI (c_X7_make hc1) 0 7 rfl rfl kv_X7_249 rfl ⟨Nat.le_of_ble_eq_true rfl, Nat.le_of_ble_eq_true rfl⟩ ⟨Nat.le_refl _, Nat.le_refl _⟩ hl.1 rfl (Nat.le_of_ble_eq_true rfl) dX7_leave_14 (fun H locs hI => ?_)
  refine lv_aload_n hx hb dX7_leave_17 rfl (lv_at hl 0 rfl) ?_
  refine gX7_43 hC hI lkf_X7_105 dX7_leave_18 ?_
  refine lv_aload_n hx hb dX7_leave_21 rfl (lv_at hl 0 rfl) ?_
  refine gX7_38 hC hI hf lkf_X7_236 dX7_leave_22 (fun v2 hf => ?_)
  refine lv_iconst (v := (1 : Int32)) hx hb dX7_leave_25 (by decide) ?_
  refine lv_isub hx hb dX7_leave_26 ?_
  refine lv_iload_n hx hb dX7_leave_27 rfl (lv_at hl 1 rfl) ?_
  refine tX7_43 hC hI hf dX7_leave_28 (fun S H locs hI hf => ?_)
  refine lv_aload_n hx hb dX7_leave_29 rfl (lv_at hl 0 rfl) ?_
  refine gX7_44 hC hI lkf_X7_108 dX7_leave_30 ?_
  refine lv_aload_n hx hb dX7_leave_33 rfl (lv_at hl 0 rfl) ?_
  refine gX7_38 hC hI hf lkf_X7_236 dX7_leave_34 (fun v3 hf => ?_)
  refine lv_iconst (v := (1 : Int32)) hx hb dX7_leave_37 (by decide) ?_
  refine lv_isub hx hb dX7_leave_38 ?_
  refine lv_aload_n hx hb dX7_leave_39 rfl (lv_at hl 0 rfl) ?_
  obtain ⟨v5, S, hc4, hf⟩ := x_b2_eq hf
  refine x_callV hC hI (c_X7_innermost hc4) 0 7 rfl rfl kv_X7_253 rfl ⟨Nat.le_of_ble_eq_true rfl, Nat.le_of_ble_eq_true rfl⟩ ⟨Nat.le_refl _, Nat.le_refl _⟩ hl.1 rfl (Nat.le_of_ble_eq_true rfl) dX7_leave_40 (fun H locs hI => ?_)
  refine tX7_44 hC hI hf dX7_leave_43 (fun S H locs hI hf => ?_)
  obtain rfl := Option.some.inj hf
  exact hR _ _ _ _ hI dX7_leave_44
def f_X7_leave (n : Nat) (S : x_S) (a1 : Int32) (a2 : Int32) (a3 : Int32) (a4 : Int32) : Option (x_S) :=
if a2 = 0 then
f_X7_leave_10 n S a1 a3 a4 (2 : Int32)
else
f_X7_leave_10 n S a1 a3 a4 (3 : Int32)
set_option maxHeartbeats 4000000 in
set_option maxRecDepth 100000 in
theorem w_X7_leave {r : x_S} {a1 : Int32} {a2 : Int32} {a3 : Int32} {a4 : Int32} (hC : x_C p s m args meth c cX7_leave 5 RX7 E A) (hR : x_Rv p l e { frames := 2, cells := 0, slots := 0, locals := 44 } s m args below meth c cX7_leave E A Q (mw E ad r)) (hI : x_I E A s.heap (mw E ad S) H locs) (hl : lv_has ls 5 [(0, .ref (ad 799)), (1, .int a1), (2, .int a2), (3, .int a3), (4, .int a4)]) (hf : f_X7_leave n S a1 a2 a3 a4 = some r) : W p l e { frames := 2, cells := 0, slots := 0, locals := 44 } s m args below meth c H locs 0 0 Q (F0 m 0 ls []) := by
  obtain ⟨hx, hb, hml, hown, hts, hK, hN, hA⟩ := id hC
  unfold f_X7_leave at hf
  refine lv_aload_n hx hb dX7_leave_0 rfl (lv_at hl 0 rfl) ?_
  refine lv_iload_n hx hb dX7_leave_1 rfl (lv_at hl 2 rfl) ?_
  refine x_eq0 hC 9 hf dX7_leave_2 (by decide) (fun hf => ?_) (fun hf => ?_)
  · refine lv_iconst (v := (2 : Int32)) hx hb dX7_leave_9 (by decide) ?_
    exact w_X7_leave_10 hC hR hI (lv_sub hl [0, 1, 3, 4] rfl) hf
  · refine lv_iconst (v := (3 : Int32)) hx hb dX7_leave_5 (by decide) ?_
    refine lv_goto (tgt := 10) hx hb dX7_leave_6 (by decide) ?_
    exact w_X7_leave_10 hC hR hI (lv_sub hl [0, 1, 3, 4] rfl) hf
theorem c_X7_leave {a1 : Int32} {a2 : Int32} {a3 : Int32} {a4 : Int32} {S1 : x_S} (hf : f_X7_leave n S a1 a2 a3 a4 = some S1) : x_M l yX7_leave cX7_leave 5 none 2 44 E [.ref (ad 799), .int a1, .int a2, .int a3, .int a4] (mw E ad S) (mw E ad S1) none :=
  x_entV (by decide) (Nat.le_of_ble_eq_true rfl) (fun p e s m args below meth c A Q ls hC hI hR hl => w_X7_leave (r := S1) hC hR hI hl hf)
-- X7_testing
def f_X7_testing_16 (n : Nat) (S : x_S) (a2 : Int32) (t0 : Int32) (t1 : Int32) (t2 : Int32) : Option (Int32 × x_S) :=
x_b (f_X7_in n t2 t1 t0) (fun v4 =>
if v4 = 0 then
x_b (f_X7_wrong n S (4 : Int32)) (fun S =>
some (a2, S))
else
some (a2, S))
set_option maxHeartbeats 4000000 in
set_option maxRecDepth 100000 in
theorem w_X7_testing_16 {r : Int32 × x_S} {a2 : Int32} {t0 : Int32} {t1 : Int32} {t2 : Int32} (hC : x_C p s m args meth c cX7_testing 3 RX7 E A) (hR : x_Ri p l e { frames := 1, cells := 0, slots := 0, locals := 22 } s m args below meth c cX7_testing E A Q (mw E ad r.2) r.1) (hI : x_I E A s.heap (mw E ad S) H locs) (hl : lv_has ls 3 [(0, .ref (ad 799)), (2, .int a2)]) (hf : f_X7_testing_16 n S a2 t0 t1 t2 = some r) : W p l e { frames := 1, cells := 0, slots := 0, locals := 22 } s m args below meth c H locs 0 0 Q (F0 m 16 ls [.int t0, .int t1, .int t2]) := by
  obtain ⟨hx, hb, hml, hown, hts, hK, hN, hA⟩ := id hC
  unfold f_X7_testing_16 at hf
  obtain ⟨v4, hc3, hf⟩ := x_b_eq hf
  refine x_callS hC hI (c_X7_in hc3) ks_X7_138 rfl ⟨Nat.le_of_ble_eq_true rfl, Nat.le_of_ble_eq_true rfl⟩ ⟨Nat.le_refl _, Nat.le_refl _⟩ hl.1 rfl (Nat.le_of_ble_eq_true rfl) dX7_testing_16 (fun H locs hI => ?_)
  refine x_ne0 hC 27 hf dX7_testing_19 (by decide) (fun hf => ?_) (fun hf => ?_)
  · refine lv_iload_n hx hb dX7_testing_27 rfl (lv_at hl 1 rfl) ?_
    obtain rfl := Option.some.inj hf
    exact hR _ _ _ _ hI dX7_testing_28
  · refine lv_aload_n hx hb dX7_testing_22 rfl (lv_at hl 0 rfl) ?_
    refine lv_iconst (v := (4 : Int32)) hx hb dX7_testing_23 (by decide) ?_
    obtain ⟨S, hc5, hf⟩ := x_b_eq hf
    refine x_callV hC hI (c_X7_wrong hc5) 0 7 rfl rfl kv_X7_243 rfl ⟨Nat.le_of_ble_eq_true rfl, Nat.le_of_ble_eq_true rfl⟩ ⟨Nat.le_refl _, Nat.le_refl _⟩ hl.1 rfl (Nat.le_of_ble_eq_true rfl) dX7_testing_24 (fun H locs hI => ?_)
    refine lv_iload_n hx hb dX7_testing_27 rfl (lv_at hl 1 rfl) ?_
    obtain rfl := Option.some.inj hf
    exact hR _ _ _ _ hI dX7_testing_28
def f_X7_testing (n : Nat) (S : x_S) (a1 : Int32) : Option (Int32 × x_S) :=
x_b2 (f_X7_next n S) (fun v2 S =>
if a1 = 0 then
f_X7_testing_16 n S v2 (3 : Int32) (0 : Int32) v2
else
f_X7_testing_16 n S v2 (5 : Int32) (0 : Int32) v2)
set_option maxHeartbeats 4000000 in
set_option maxRecDepth 100000 in
theorem w_X7_testing {r : Int32 × x_S} {a1 : Int32} (hC : x_C p s m args meth c cX7_testing 3 RX7 E A) (hR : x_Ri p l e { frames := 1, cells := 0, slots := 0, locals := 22 } s m args below meth c cX7_testing E A Q (mw E ad r.2) r.1) (hI : x_I E A s.heap (mw E ad S) H locs) (hl : lv_has ls 3 [(0, .ref (ad 799)), (1, .int a1)]) (hf : f_X7_testing n S a1 = some r) : W p l e { frames := 1, cells := 0, slots := 0, locals := 22 } s m args below meth c H locs 0 0 Q (F0 m 0 ls []) := by
  obtain ⟨hx, hb, hml, hown, hts, hK, hN, hA⟩ := id hC
  unfold f_X7_testing at hf
  refine lv_aload_n hx hb dX7_testing_0 rfl (lv_at hl 0 rfl) ?_
  obtain ⟨v2, S, hc1, hf⟩ := x_b2_eq hf
  refine x_callV hC hI (c_X7_next hc1) 0 7 rfl rfl kv_X7_239 rfl ⟨Nat.le_of_ble_eq_true rfl, Nat.le_of_ble_eq_true rfl⟩ ⟨Nat.le_refl _, Nat.le_refl _⟩ hl.1 rfl (Nat.le_of_ble_eq_true rfl) dX7_testing_1 (fun H locs hI => ?_)
  refine lv_istore_n (lv' := [(2, .int v2), (0, .ref (ad 799)), (1, .int a1)]) hx hb dX7_testing_4 rfl hl (by decide) rfl (fun ls hl => ?_)
  refine lv_iload_n hx hb dX7_testing_5 rfl (lv_at hl 0 rfl) ?_
  refine lv_iconst (v := (0 : Int32)) hx hb dX7_testing_6 (by decide) ?_
  refine lv_iload_n hx hb dX7_testing_7 rfl (lv_at hl 2 rfl) ?_
  refine x_ne0 hC 15 hf dX7_testing_8 (by decide) (fun hf => ?_) (fun hf => ?_)
  · refine lv_iconst (v := (5 : Int32)) hx hb dX7_testing_15 (by decide) ?_
    exact w_X7_testing_16 hC hR hI (lv_sub hl [1, 0] rfl) hf
  · refine lv_iconst (v := (3 : Int32)) hx hb dX7_testing_11 (by decide) ?_
    refine lv_goto (tgt := 16) hx hb dX7_testing_12 (by decide) ?_
    exact w_X7_testing_16 hC hR hI (lv_sub hl [1, 0] rfl) hf
theorem c_X7_testing {a1 : Int32} {v : Int32} {S1 : x_S} (hf : f_X7_testing n S a1 = some (v, S1)) : x_M l yX7_testing cX7_testing 3 (some .int) 1 22 E [.ref (ad 799), .int a1] (mw E ad S) (mw E ad S1) (some (.int v)) :=
  x_entI (by decide) (Nat.le_of_ble_eq_true rfl) (fun p e s m args below meth c A Q ls hC hI hR hl => w_X7_testing (r := (v, S1)) hC hR hI hl hf)
end
