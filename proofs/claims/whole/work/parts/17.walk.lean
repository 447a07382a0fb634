section
variable {p : Program} {l : Launch} {e : Env} {s : State} {m : MethodId} {args : Array Value} {below : List Frame} {meth : Method} {c : Code} {H : Heap} {locs : List Loc} {Q : State → Prop}
variable {E : x_E} {A : Nat → Prop} {ls : Array Slot} {ad : Nat → Nat} {ap : Nat → Nat → Nat} {S : x_S} {w : va_W} {n : Nat}
-- X7_readLoop
def f_X7_readLoop_152 (n : Nat) (S : x_S) (a2 : Int32) (a3 : Int32) : Option (x_S) :=
x_b2 (f_X7_state n S (3 : Int32) a2 (a3 + (1 : Int32)) (0 : Int32) (0 : Int32) a2) (fun v5 S =>
x_b (f_X7_range n S a2 a3 (a3 + (1 : Int32)) a2 v5 (0 : Int32)) (fun S =>
some S))
set_option maxHeartbeats 4000000 in
set_option maxRecDepth 100000 in
theorem w_X7_readLoop_152 {r : x_S} {a2 : Int32} {a3 : Int32} (hC : x_C p s m args meth c cX7_readLoop 7 RX7 E A) (hR : x_Rv p l e { frames := 1, cells := 0, slots := 0, locals := 27 } s m args below meth c cX7_readLoop E A Q (mw E ad r)) (hI : x_I E A s.heap (mw E ad S) H locs) (hl : lv_has ls 7 [(0, .ref (ad 799)), (2, .int a2), (3, .int a3)]) (hf : f_X7_readLoop_152 n S a2 a3 = some r) : W p l e { frames := 1, cells := 0, slots := 0, locals := 27 } s m args below meth c H locs 0 0 Q (F0 m 152 ls []) := by
  obtain ⟨hx, hb, hml, hown, hts, hK, hN, hA⟩ := id hC
  unfold f_X7_readLoop_152 at hf
  refine lv_aload_n hx hb dX7_readLoop_152 rfl (lv_at hl 0 rfl) ?_
  refine lv_iconst (v := (3 : Int32)) hx hb dX7_readLoop_153 (by decide) ?_
  refine lv_iload_n hx hb dX7_readLoop_154 rfl (lv_at hl 1 rfl) ?_
  refine lv_iload_n hx hb dX7_readLoop_155 rfl (lv_at hl 2 rfl) ?_
  refine lv_iconst (v := (1 : Int32)) hx hb dX7_readLoop_156 (by decide) ?_
  refine lv_iadd hx hb dX7_readLoop_157 ?_
  refine lv_iconst (v := (0 : Int32)) hx hb dX7_readLoop_158 (by decide) ?_
  refine lv_iconst (v := (0 : Int32)) hx hb dX7_readLoop_159 (by decide) ?_
  refine lv_iload_n hx hb dX7_readLoop_160 rfl (lv_at hl 1 rfl) ?_
  obtain ⟨v5, S, hc4, hf⟩ := x_b2_eq hf
  refine x_callV hC hI (c_X7_state hc4) 0 7 rfl rfl kv_X7_177 rfl ⟨Nat.le_of_ble_eq_true rfl, Nat.le_of_ble_eq_true rfl⟩ ⟨Nat.le_refl _, Nat.le_refl _⟩ hl.1 rfl (Nat.le_of_ble_eq_true rfl) dX7_readLoop_161 (fun H locs hI => ?_)
  refine lv_istore (lv' := [(6, .int v5), (0, .ref (ad 799)), (2, .int a2), (3, .int a3)]) hx hb dX7_readLoop_164 hl (by decide) rfl (fun ls hl => ?_)
  refine lv_aload_n hx hb dX7_readLoop_166 rfl (lv_at hl 1 rfl) ?_
  refine lv_iload_n hx hb dX7_readLoop_167 rfl (lv_at hl 2 rfl) ?_
  refine lv_iload_n hx hb dX7_readLoop_168 rfl (lv_at hl 3 rfl) ?_
  refine lv_iload_n hx hb dX7_readLoop_169 rfl (lv_at hl 3 rfl) ?_
  refine lv_iconst (v := (1 : Int32)) hx hb dX7_readLoop_170 (by decide) ?_
  refine lv_iadd hx hb dX7_readLoop_171 ?_
  refine lv_iload_n hx hb dX7_readLoop_172 rfl (lv_at hl 2 rfl) ?_
  refine lv_iload hx hb dX7_readLoop_173 (lv_at hl 0 rfl) ?_
  refine lv_iconst (v := (0 : Int32)) hx hb dX7_readLoop_175 (by decide) ?_
  obtain ⟨S, hc6, hf⟩ := x_b_eq hf
  refine x_callV hC hI (c_X7_range hc6) 0 7 rfl rfl kv_X7_163 rfl ⟨Nat.le_of_ble_eq_true rfl, Nat.le_of_ble_eq_true rfl⟩ ⟨Nat.le_refl _, Nat.le_refl _⟩ hl.1 rfl (Nat.le_of_ble_eq_true rfl) dX7_readLoop_176 (fun H locs hI => ?_)
  obtain rfl := Option.some.inj hf
  exact hR _ _ _ _ hI dX7_readLoop_179
def f_X7_readLoop (n : Nat) (S : x_S) (a1 : Int32) (a2 : Int32) (a3 : Int32) : Option (x_S) :=
x_let (g_sc S 724) (fun v1 =>
x_g (¬ ((v1 - (1 : Int32)) < 0 ∨ 200 ≤ ((v1 - (1 : Int32))).toNatClampNeg)) (x_let (s_ar S 725 ((v1 - (1 : Int32))).toNatClampNeg (a3 + (1 : Int32))) (fun S =>
x_g (¬ ((a1 + a3) < 0 ∨ 720 ≤ ((a1 + a3)).toNatClampNeg)) (x_let (g_ar S 702 ((a1 + a3)).toNatClampNeg) (fun v2 =>
if v2 = (3 : Int32) then
x_g (¬ ((a1 + a3) < 0 ∨ 720 ≤ ((a1 + a3)).toNatClampNeg)) (x_let (g_ar S 703 ((a1 + a3)).toNatClampNeg) (fun v13 =>
x_g (¬ ((a1 + a3) < 0 ∨ 720 ≤ ((a1 + a3)).toNatClampNeg)) (x_let (g_ar S 704 ((a1 + a3)).toNatClampNeg) (fun v14 =>
x_b2 (f_X7_state n S (5 : Int32) a2 (a3 + (1 : Int32)) v13 v14 a2) (fun v16 S =>
x_b (f_X7_range n S a2 a3 (a3 + (1 : Int32)) a3 v16 (0 : Int32)) (fun S =>
some S))))))
else
x_g (¬ ((a1 + a2) < 0 ∨ 720 ≤ ((a1 + a2)).toNatClampNeg)) (x_let (g_ar S 702 ((a1 + a2)).toNatClampNeg) (fun v3 =>
if v3 = (3 : Int32) then
x_g (¬ ((a1 + a2) < 0 ∨ 720 ≤ ((a1 + a2)).toNatClampNeg)) (x_let (g_ar S 705 ((a1 + a2)).toNatClampNeg) (fun v7 =>
if v7 = (a3 + (1 : Int32)) then
if a2 = a3 then
f_X7_readLoop_152 n S a2 a3
else
x_g (¬ ((a1 + a2) < 0 ∨ 720 ≤ ((a1 + a2)).toNatClampNeg)) (x_let (g_ar S 703 ((a1 + a2)).toNatClampNeg) (fun v8 =>
x_g (¬ ((a1 + a2) < 0 ∨ 720 ≤ ((a1 + a2)).toNatClampNeg)) (x_let (g_ar S 704 ((a1 + a2)).toNatClampNeg) (fun v9 =>
x_b2 (f_X7_state n S (4 : Int32) a2 (a3 + (1 : Int32)) v8 v9 (a3 + (1 : Int32))) (fun v11 S =>
x_b (f_X7_range n S (a2 + (1 : Int32)) a3 (a3 + (1 : Int32)) a2 v11 (0 : Int32)) (fun S =>
some S))))))
else
f_X7_readLoop_152 n S a2 a3))
else
f_X7_readLoop_152 n S a2 a3)))))))
set_option maxHeartbeats 4000000 in
set_option maxRecDepth 100000 in
theorem w_X7_readLoop {r : x_S} {a1 : Int32} {a2 : Int32} {a3 : Int32} (hC : x_C p s m args meth c cX7_readLoop 7 RX7 E A) (hR : x_Rv p l e { frames := 1, cells := 0, slots := 0, locals := 27 } s m args below meth c cX7_readLoop E A Q (mw E ad r)) (hI : x_I E A s.heap (mw E ad S) H locs) (hl : lv_has ls 7 [(0, .ref (ad 799)), (1, .int a1), (2, .int a2), (3, .int a3)]) (hf : f_X7_readLoop n S a1 a2 a3 = some r) : W p l e { frames := 1, cells := 0, slots := 0, locals := 27 } s m args below meth c H locs 0 0 Q (F0 m 0 ls []) := by
  obtain ⟨hx, hb, hml, hown, hts, hK, hN, hA⟩ := id hC
  unfold f_X7_readLoop at hf
  refine lv_iload_n hx hb dX7_readLoop_0 rfl (lv_at hl 1 rfl) ?_
  refine lv_iload_n hx hb dX7_readLoop_1 rfl (lv_at hl 3 rfl) ?_
  refine lv_iadd hx hb dX7_readLoop_2 ?_
  refine lv_istore (lv' := [(4, .int (a1 + a3)), (0, .ref (ad 799)), (1, .int a1), (2, .int a2), (3, .int a3)]) hx hb dX7_readLoop_3 hl (by decide) rfl (fun ls hl => ?_)
  refine lv_iload_n hx hb dX7_readLoop_5 rfl (lv_at hl 2 rfl) ?_
  refine lv_iload_n hx hb dX7_readLoop_6 rfl (lv_at hl 3 rfl) ?_
  refine lv_iadd hx hb dX7_readLoop_7 ?_
  refine lv_istore (lv' := [(5, .int (a1 + a2)), (4, .int (a1 + a3)), (0, .ref (ad 799)), (1, .int a1), (2, .int a2), (3, .int a3)]) hx hb dX7_readLoop_8 hl (by decide) rfl (fun ls hl => ?_)
  refine lv_aload_n hx hb dX7_readLoop_10 rfl (lv_at hl 2 rfl) ?_
  refine gX7_25 hC hI lkf_X7_65 dX7_readLoop_11 ?_
  refine lv_aload_n hx hb dX7_readLoop_14 rfl (lv_at hl 2 rfl) ?_
  refine gX7_24 hC hI hf lkf_X7_157 dX7_readLoop_15 (fun v1 hf => ?_)
  refine lv_iconst (v := (1 : Int32)) hx hb dX7_readLoop_18 (by decide) ?_
  refine lv_isub hx hb dX7_readLoop_19 ?_
  refine lv_iload_n hx hb dX7_readLoop_20 rfl (lv_at hl 5 rfl) ?_
  refine lv_iconst (v := (1 : Int32)) hx hb dX7_readLoop_21 (by decide) ?_
  refine lv_iadd hx hb dX7_readLoop_22 ?_
  refine tX7_25 hC hI hf dX7_readLoop_23 (fun S H locs hI hf => ?_)
  refine lv_aload_n hx hb dX7_readLoop_24 rfl (lv_at hl 2 rfl) ?_
  refine gX7_2 hC hI lkf_X7_13 dX7_readLoop_25 ?_
  refine lv_iload hx hb dX7_readLoop_28 (lv_at hl 1 rfl) ?_
  refine aX7_2 hC hI hf dX7_readLoop_30 (fun v2 hf => ?_)
  refine lv_iconst (v := (3 : Int32)) hx hb dX7_readLoop_31 (by decide) ?_
  refine x_ine hC 77 hf dX7_readLoop_32 (by decide) (fun hf => ?_) (fun hf => ?_)
  · refine lv_aload_n hx hb dX7_readLoop_77 rfl (lv_at hl 2 rfl) ?_
    refine gX7_2 hC hI lkf_X7_13 dX7_readLoop_78 ?_
    refine lv_iload hx hb dX7_readLoop_81 (lv_at hl 0 rfl) ?_
    refine aX7_2 hC hI hf dX7_readLoop_83 (fun v3 hf => ?_)
    refine lv_iconst (v := (3 : Int32)) hx hb dX7_readLoop_84 (by decide) ?_
    refine x_ine hC 152 hf dX7_readLoop_85 (by decide) (fun hf => ?_) (fun hf => ?_)
    · exact w_X7_readLoop_152 hC hR hI (lv_sub hl [2, 4, 5] rfl) hf
    · refine lv_aload_n hx hb dX7_readLoop_88 rfl (lv_at hl 2 rfl) ?_
      refine gX7_5 hC hI lkf_X7_22 dX7_readLoop_89 ?_
      refine lv_iload hx hb dX7_readLoop_92 (lv_at hl 0 rfl) ?_
      refine aX7_5 hC hI hf dX7_readLoop_94 (fun v7 hf => ?_)
      refine lv_iload_n hx hb dX7_readLoop_95 rfl (lv_at hl 5 rfl) ?_
      refine lv_iconst (v := (1 : Int32)) hx hb dX7_readLoop_96 (by decide) ?_
      refine lv_iadd hx hb dX7_readLoop_97 ?_
      refine x_ine hC 152 hf dX7_readLoop_98 (by decide) (fun hf => ?_) (fun hf => ?_)
      · exact w_X7_readLoop_152 hC hR hI (lv_sub hl [2, 4, 5] rfl) hf
      · refine lv_iload_n hx hb dX7_readLoop_101 rfl (lv_at hl 4 rfl) ?_
        refine lv_iload_n hx hb dX7_readLoop_102 rfl (lv_at hl 5 rfl) ?_
        refine x_ieq hC 152 hf dX7_readLoop_103 (by decide) (fun hf => ?_) (fun hf => ?_)
        · exact w_X7_readLoop_152 hC hR hI (lv_sub hl [2, 4, 5] rfl) hf
        · refine lv_aload_n hx hb dX7_readLoop_106 rfl (lv_at hl 2 rfl) ?_
          refine lv_iconst (v := (4 : Int32)) hx hb dX7_readLoop_107 (by decide) ?_
          refine lv_iload_n hx hb dX7_readLoop_108 rfl (lv_at hl 4 rfl) ?_
          refine lv_iload_n hx hb dX7_readLoop_109 rfl (lv_at hl 5 rfl) ?_
          refine lv_iconst (v := (1 : Int32)) hx hb dX7_readLoop_110 (by decide) ?_
          refine lv_iadd hx hb dX7_readLoop_111 ?_
          refine lv_aload_n hx hb dX7_readLoop_112 rfl (lv_at hl 2 rfl) ?_
          refine gX7_3 hC hI lkf_X7_16 dX7_readLoop_113 ?_
          refine lv_iload hx hb dX7_readLoop_116 (lv_at hl 0 rfl) ?_
          refine aX7_3 hC hI hf dX7_readLoop_118 (fun v8 hf => ?_)
          refine lv_aload_n hx hb dX7_readLoop_119 rfl (lv_at hl 2 rfl) ?_
          refine gX7_4 hC hI lkf_X7_19 dX7_readLoop_120 ?_
          refine lv_iload hx hb dX7_readLoop_123 (lv_at hl 0 rfl) ?_
          refine aX7_4 hC hI hf dX7_readLoop_125 (fun v9 hf => ?_)
          refine lv_iload_n hx hb dX7_readLoop_126 rfl (lv_at hl 5 rfl) ?_
          refine lv_iconst (v := (1 : Int32)) hx hb dX7_readLoop_127 (by decide) ?_
          refine lv_iadd hx hb dX7_readLoop_128 ?_
          obtain ⟨v11, S, hc10, hf⟩ := x_b2_eq hf
          refine x_callV hC hI (c_X7_state hc10) 0 7 rfl rfl kv_X7_177 rfl ⟨Nat.le_of_ble_eq_true rfl, Nat.le_of_ble_eq_true rfl⟩ ⟨Nat.le_refl _, Nat.le_refl _⟩ hl.1 rfl (Nat.le_of_ble_eq_true rfl) dX7_readLoop_129 (fun H locs hI => ?_)
          refine lv_istore (lv' := [(6, .int v11), (5, .int (a1 + a2)), (4, .int (a1 + a3)), (0, .ref (ad 799)), (1, .int a1), (2, .int a2), (3, .int a3)]) hx hb dX7_readLoop_132 hl (by decide) rfl (fun ls hl => ?_)
          refine lv_aload_n hx hb dX7_readLoop_134 rfl (lv_at hl 3 rfl) ?_
          refine lv_iload_n hx hb dX7_readLoop_135 rfl (lv_at hl 5 rfl) ?_
          refine lv_iconst (v := (1 : Int32)) hx hb dX7_readLoop_136 (by decide) ?_
          refine lv_iadd hx hb dX7_readLoop_137 ?_
          refine lv_iload_n hx hb dX7_readLoop_138 rfl (lv_at hl 6 rfl) ?_
          refine lv_iload_n hx hb dX7_readLoop_139 rfl (lv_at hl 6 rfl) ?_
          refine lv_iconst (v := (1 : Int32)) hx hb dX7_readLoop_140 (by decide) ?_
          refine lv_iadd hx hb dX7_readLoop_141 ?_
          refine lv_iload_n hx hb dX7_readLoop_142 rfl (lv_at hl 5 rfl) ?_
          refine lv_iload hx hb dX7_readLoop_143 (lv_at hl 0 rfl) ?_
          refine lv_iconst (v := (0 : Int32)) hx hb dX7_readLoop_145 (by decide) ?_
          obtain ⟨S, hc12, hf⟩ := x_b_eq hf
          refine x_callV hC hI (c_X7_range hc12) 0 7 rfl rfl kv_X7_163 rfl ⟨Nat.le_of_ble_eq_true rfl, Nat.le_of_ble_eq_true rfl⟩ ⟨Nat.le_refl _, Nat.le_refl _⟩ hl.1 rfl (Nat.le_of_ble_eq_true rfl) dX7_readLoop_146 (fun H locs hI => ?_)
          refine lv_goto (tgt := 179) hx hb dX7_readLoop_149 (by decide) ?_
          obtain rfl := Option.some.inj hf
          exact hR _ _ _ _ hI dX7_readLoop_179
  · refine lv_aload_n hx hb dX7_readLoop_35 rfl (lv_at hl 2 rfl) ?_
    refine lv_iconst (v := (5 : Int32)) hx hb dX7_readLoop_36 (by decide) ?_
    refine lv_iload_n hx hb dX7_readLoop_37 rfl (lv_at hl 4 rfl) ?_
    refine lv_iload_n hx hb dX7_readLoop_38 rfl (lv_at hl 5 rfl) ?_
    refine lv_iconst (v := (1 : Int32)) hx hb dX7_readLoop_39 (by decide) ?_
    refine lv_iadd hx hb dX7_readLoop_40 ?_
    refine lv_aload_n hx hb dX7_readLoop_41 rfl (lv_at hl 2 rfl) ?_
    refine gX7_3 hC hI lkf_X7_16 dX7_readLoop_42 ?_
    refine lv_iload hx hb dX7_readLoop_45 (lv_at hl 1 rfl) ?_
    refine aX7_3 hC hI hf dX7_readLoop_47 (fun v13 hf => ?_)
    refine lv_aload_n hx hb dX7_readLoop_48 rfl (lv_at hl 2 rfl) ?_
    refine gX7_4 hC hI lkf_X7_19 dX7_readLoop_49 ?_
    refine lv_iload hx hb dX7_readLoop_52 (lv_at hl 1 rfl) ?_
    refine aX7_4 hC hI hf dX7_readLoop_54 (fun v14 hf => ?_)
    refine lv_iload_n hx hb dX7_readLoop_55 rfl (lv_at hl 4 rfl) ?_
    obtain ⟨v16, S, hc15, hf⟩ := x_b2_eq hf
    refine x_callV hC hI (c_X7_state hc15) 0 7 rfl rfl kv_X7_177 rfl ⟨Nat.le_of_ble_eq_true rfl, Nat.le_of_ble_eq_true rfl⟩ ⟨Nat.le_refl _, Nat.le_refl _⟩ hl.1 rfl (Nat.le_of_ble_eq_true rfl) dX7_readLoop_56 (fun H locs hI => ?_)
    refine lv_istore (lv' := [(6, .int v16), (5, .int (a1 + a2)), (4, .int (a1 + a3)), (0, .ref (ad 799)), (1, .int a1), (2, .int a2), (3, .int a3)]) hx hb dX7_readLoop_59 hl (by decide) rfl (fun ls hl => ?_)
    refine lv_aload_n hx hb dX7_readLoop_61 rfl (lv_at hl 3 rfl) ?_
    refine lv_iload_n hx hb dX7_readLoop_62 rfl (lv_at hl 5 rfl) ?_
    refine lv_iload_n hx hb dX7_readLoop_63 rfl (lv_at hl 6 rfl) ?_
    refine lv_iload_n hx hb dX7_readLoop_64 rfl (lv_at hl 6 rfl) ?_
    refine lv_iconst (v := (1 : Int32)) hx hb dX7_readLoop_65 (by decide) ?_
    refine lv_iadd hx hb dX7_readLoop_66 ?_
    refine lv_iload_n hx hb dX7_readLoop_67 rfl (lv_at hl 6 rfl) ?_
    refine lv_iload hx hb dX7_readLoop_68 (lv_at hl 0 rfl) ?_
    refine lv_iconst (v := (0 : Int32)) hx hb dX7_readLoop_70 (by decide) ?_
    obtain ⟨S, hc17, hf⟩ := x_b_eq hf
    refine x_callV hC hI (c_X7_range hc17) 0 7 rfl rfl kv_X7_163 rfl ⟨Nat.le_of_ble_eq_true rfl, Nat.le_of_ble_eq_true rfl⟩ ⟨Nat.le_refl _, Nat.le_refl _⟩ hl.1 rfl (Nat.le_of_ble_eq_true rfl) dX7_readLoop_71 (fun H locs hI => ?_)
    refine lv_goto (tgt := 179) hx hb dX7_readLoop_74 (by decide) ?_
    obtain rfl := Option.some.inj hf
    exact hR _ _ _ _ hI dX7_readLoop_179
theorem c_X7_readLoop {a1 : Int32} {a2 : Int32} {a3 : Int32} {S1 : x_S} (hf : f_X7_readLoop n S a1 a2 a3 = some S1) : x_M l yX7_readLoop cX7_readLoop 7 none 1 27 E [.ref (ad 799), .int a1, .int a2, .int a3] (mw E ad S) (mw E ad S1) none :=
  x_entV (by decide) (Nat.le_of_ble_eq_true rfl) (fun p e s m args below meth c A Q ls hC hI hR hl => w_X7_readLoop (r := S1) hC hR hI hl hf)
-- X7_readAt
def f_X7_readAt_320 (n : Nat) (S : x_S) (a2 : Int32) (a7 : Int32) (a8 : Int32) (a9 : Int32) (t0 : Int32) : Option (x_S) :=
x_b2 (f_X7_state n S t0 a2 (a2 + (1 : Int32)) a7 a8 a9) (fun v13 S =>
some S)
set_option maxHeartbeats 4000000 in
set_option maxRecDepth 100000 in
theorem w_X7_readAt_320 {r : x_S} {a2 : Int32} {a7 : Int32} {a8 : Int32} {a9 : Int32} {t0 : Int32} (hC : x_C p s m args meth c cX7_readAt 13 RX7 E A) (hR : x_Rv p l e { frames := 2, cells := 0, slots := 0, locals := 57 } s m args below meth c cX7_readAt E A Q (mw E ad r)) (hI : x_I E A s.heap (mw E ad S) H locs) (hl : lv_has ls 13 [(2, .int a2), (7, .int a7), (8, .int a8), (9, .int a9)]) (hf : f_X7_readAt_320 n S a2 a7 a8 a9 t0 = some r) : W p l e { frames := 2, cells := 0, slots := 0, locals := 57 } s m args below meth c H locs 0 0 Q (F0 m 320 ls [.int t0, .ref (ad 799)]) := by
  obtain ⟨hx, hb, hml, hown, hts, hK, hN, hA⟩ := id hC
  unfold f_X7_readAt_320 at hf
  refine lv_iload_n hx hb dX7_readAt_320 rfl (lv_at hl 0 rfl) ?_
  refine lv_iload_n hx hb dX7_readAt_321 rfl (lv_at hl 0 rfl) ?_
  refine lv_iconst (v := (1 : Int32)) hx hb dX7_readAt_322 (by decide) ?_
  refine lv_iadd hx hb dX7_readAt_323 ?_
  refine lv_iload hx hb dX7_readAt_324 (lv_at hl 1 rfl) ?_
  refine lv_iload hx hb dX7_readAt_326 (lv_at hl 2 rfl) ?_
  refine lv_iload hx hb dX7_readAt_328 (lv_at hl 3 rfl) ?_
  obtain ⟨v13, S, hc12, hf⟩ := x_b2_eq hf
  refine x_callV hC hI (c_X7_state hc12) 0 7 rfl rfl kv_X7_177 rfl ⟨Nat.le_of_ble_eq_true rfl, Nat.le_of_ble_eq_true rfl⟩ ⟨Nat.le_refl _, Nat.le_refl _⟩ hl.1 rfl (Nat.le_of_ble_eq_true rfl) dX7_readAt_330 (fun H locs hI => ?_)
  refine lv_istore (lv' := [(12, .int v13), (2, .int a2), (7, .int a7), (8, .int a8), (9, .int a9)]) hx hb dX7_readAt_333 hl (by decide) rfl (fun ls hl => ?_)
  refine lv_goto (tgt := 346) hx hb dX7_readAt_335 (by decide) ?_
  obtain rfl := Option.some.inj hf
  exact hR _ _ _ _ hI dX7_readAt_346
def f_X7_readAt_297 (n : Nat) (S : x_S) (a2 : Int32) (a7 : Int32) (a8 : Int32) (a9 : Int32) (a10 : Int32) (a11 : Int32) : Option (x_S) :=
if a10 = 0 then
if a11 = 0 then
f_X7_readAt_320 n S a2 a7 a8 a9 (11 : Int32)
else
f_X7_readAt_320 n S a2 a7 a8 a9 (10 : Int32)
else
f_X7_readAt_320 n S a2 a7 a8 a9 (9 : Int32)
set_option maxHeartbeats 4000000 in
set_option maxRecDepth 100000 in
theorem w_X7_readAt_297 {r : x_S} {a2 : Int32} {a7 : Int32} {a8 : Int32} {a9 : Int32} {a10 : Int32} {a11 : Int32} (hC : x_C p s m args meth c cX7_readAt 13 RX7 E A) (hR : x_Rv p l e { frames := 2, cells := 0, slots := 0, locals := 57 } s m args below meth c cX7_readAt E A Q (mw E ad r)) (hI : x_I E A s.heap (mw E ad S) H locs) (hl : lv_has ls 13 [(0, .ref (ad 799)), (2, .int a2), (7, .int a7), (8, .int a8), (9, .int a9), (10, .int a10), (11, .int a11)]) (hf : f_X7_readAt_297 n S a2 a7 a8 a9 a10 a11 = some r) : W p l e { frames := 2, cells := 0, slots := 0, locals := 57 } s m args below meth c H locs 0 0 Q (F0 m 297 ls []) := by
  obtain ⟨hx, hb, hml, hown, hts, hK, hN, hA⟩ := id hC
  unfold f_X7_readAt_297 at hf
  refine lv_aload_n hx hb dX7_readAt_297 rfl (lv_at hl 0 rfl) ?_
  refine lv_iload hx hb dX7_readAt_298 (lv_at hl 5 rfl) ?_
  refine x_eq0 hC 308 hf dX7_readAt_300 (by decide) (fun hf => ?_) (fun hf => ?_)
  · refine lv_iload hx hb dX7_readAt_308 (lv_at hl 6 rfl) ?_
    refine x_eq0 hC 318 hf dX7_readAt_310 (by decide) (fun hf => ?_) (fun hf => ?_)
    · refine lv_bipush (v := (11 : Int32)) hx hb dX7_readAt_318 (by decide) ?_
      exact w_X7_readAt_320 hC hR hI (lv_sub hl [1, 2, 3, 4] rfl) hf
    · refine lv_bipush (v := (10 : Int32)) hx hb dX7_readAt_313 (by decide) ?_
      refine lv_goto (tgt := 320) hx hb dX7_readAt_315 (by decide) ?_
      exact w_X7_readAt_320 hC hR hI (lv_sub hl [1, 2, 3, 4] rfl) hf
  · refine lv_bipush (v := (9 : Int32)) hx hb dX7_readAt_303 (by decide) ?_
    refine lv_goto (tgt := 320) hx hb dX7_readAt_305 (by decide) ?_
    exact w_X7_readAt_320 hC hR hI (lv_sub hl [1, 2, 3, 4] rfl) hf
def f_X7_readAt_222 (n : Nat) (S : x_S) (a2 : Int32) (a9 : Int32) (t0 : Int32) : Option (x_S) :=
x_b2 (f_X7_state n S t0 a2 (a2 + (1 : Int32)) (0 : Int32) (0 : Int32) a9) (fun v19 S =>
some S)
set_option maxHeartbeats 4000000 in
set_option maxRecDepth 100000 in
theorem w_X7_readAt_222 {r : x_S} {a2 : Int32} {a9 : Int32} {t0 : Int32} (hC : x_C p s m args meth c cX7_readAt 13 RX7 E A) (hR : x_Rv p l e { frames := 2, cells := 0, slots := 0, locals := 57 } s m args below meth c cX7_readAt E A Q (mw E ad r)) (hI : x_I E A s.heap (mw E ad S) H locs) (hl : lv_has ls 13 [(2, .int a2), (9, .int a9)]) (hf : f_X7_readAt_222 n S a2 a9 t0 = some r) : W p l e { frames := 2, cells := 0, slots := 0, locals := 57 } s m args below meth c H locs 0 0 Q (F0 m 222 ls [.int t0, .ref (ad 799)]) := by
  obtain ⟨hx, hb, hml, hown, hts, hK, hN, hA⟩ := id hC
  unfold f_X7_readAt_222 at hf
  refine lv_iload_n hx hb dX7_readAt_222 rfl (lv_at hl 0 rfl) ?_
  refine lv_iload_n hx hb dX7_readAt_223 rfl (lv_at hl 0 rfl) ?_
  refine lv_iconst (v := (1 : Int32)) hx hb dX7_readAt_224 (by decide) ?_
  refine lv_iadd hx hb dX7_readAt_225 ?_
  refine lv_iconst (v := (0 : Int32)) hx hb dX7_readAt_226 (by decide) ?_
  refine lv_iconst (v := (0 : Int32)) hx hb dX7_readAt_227 (by decide) ?_
  refine lv_iload hx hb dX7_readAt_228 (lv_at hl 1 rfl) ?_
  obtain ⟨v19, S, hc18, hf⟩ := x_b2_eq hf
  refine x_callV hC hI (c_X7_state hc18) 0 7 rfl rfl kv_X7_177 rfl ⟨Nat.le_of_ble_eq_true rfl, Nat.le_of_ble_eq_true rfl⟩ ⟨Nat.le_refl _, Nat.le_refl _⟩ hl.1 rfl (Nat.le_of_ble_eq_true rfl) dX7_readAt_230 (fun H locs hI => ?_)
  refine lv_istore (lv' := [(12, .int v19), (2, .int a2), (9, .int a9)]) hx hb dX7_readAt_233 hl (by decide) rfl (fun ls hl => ?_)
  refine lv_goto (tgt := 346) hx hb dX7_readAt_235 (by decide) ?_
  obtain rfl := Option.some.inj hf
  exact hR _ _ _ _ hI dX7_readAt_346
def f_X7_readAt_174 (n : Nat) (S : x_S) (a1 : Int32) (a2 : Int32) (a3 : Int32) (a4 : Int32) (a6 : Int32) (a7 : Int32) (a8 : Int32) (a9 : Int32) (a10 : Int32) (t0 : Int32) : Option (x_S) :=
x_g (¬ (a3 < 0 ∨ 200 ≤ (a3).toNatClampNeg)) (x_let (s_ar S 725 (a3).toNatClampNeg (a2 + (1 : Int32))) (fun S =>
x_g (¬ (a6 < 0 ∨ 720 ≤ (a6).toNatClampNeg)) (x_let (g_ar S 702 (a6).toNatClampNeg) (fun v10 =>
if v10 = (2 : Int32) then
if a10 = 0 then
if t0 = 0 then
f_X7_readAt_222 n S a2 a9 (8 : Int32)
else
f_X7_readAt_222 n S a2 a9 (7 : Int32)
else
f_X7_readAt_222 n S a2 a9 (6 : Int32)
else
x_g (¬ (a6 < 0 ∨ 720 ≤ (a6).toNatClampNeg)) (x_let (g_ar S 702 (a6).toNatClampNeg) (fun v11 =>
if v11 = (3 : Int32) then
if a10 = 0 then
if t0 = 0 then
if a9 ≤ a2 then
f_X7_readAt_297 n S a2 a7 a8 a9 a10 t0
else
if a9 ≤ a4 then
x_b (f_X7_readIf n S a1 a2 a9) (fun S =>
some S)
else
f_X7_readAt_297 n S a2 a7 a8 a9 a10 t0
else
f_X7_readAt_297 n S a2 a7 a8 a9 a10 t0
else
f_X7_readAt_297 n S a2 a7 a8 a9 a10 t0
else
x_g (¬ (a6 < 0 ∨ 720 ≤ (a6).toNatClampNeg)) (x_let (g_ar S 702 (a6).toNatClampNeg) (fun v15 =>
x_b2 (f_X7_state n S (0 : Int32) a2 (a2 + (1 : Int32)) a7 a8 v15) (fun v17 S =>
some S)))))))))
set_option maxHeartbeats 4000000 in
set_option maxRecDepth 100000 in
theorem w_X7_readAt_174 {r : x_S} {a1 : Int32} {a2 : Int32} {a3 : Int32} {a4 : Int32} {a6 : Int32} {a7 : Int32} {a8 : Int32} {a9 : Int32} {a10 : Int32} {t0 : Int32} (hC : x_C p s m args meth c cX7_readAt 13 RX7 E A) (hR : x_Rv p l e { frames := 2, cells := 0, slots := 0, locals := 57 } s m args below meth c cX7_readAt E A Q (mw E ad r)) (hI : x_I E A s.heap (mw E ad S) H locs) (hl : lv_has ls 13 [(0, .ref (ad 799)), (1, .int a1), (2, .int a2), (3, .int a3), (4, .int a4), (6, .int a6), (7, .int a7), (8, .int a8), (9, .int a9), (10, .int a10)]) (hf : f_X7_readAt_174 n S a1 a2 a3 a4 a6 a7 a8 a9 a10 t0 = some r) : W p l e { frames := 2, cells := 0, slots := 0, locals := 57 } s m args below meth c H locs 0 0 Q (F0 m 174 ls [.int t0]) := by
  obtain ⟨hx, hb, hml, hown, hts, hK, hN, hA⟩ := id hC
  unfold f_X7_readAt_174 at hf
  refine lv_istore (lv' := [(11, .int t0), (0, .ref (ad 799)), (1, .int a1), (2, .int a2), (3, .int a3), (4, .int a4), (6, .int a6), (7, .int a7), (8, .int a8), (9, .int a9), (10, .int a10)]) hx hb dX7_readAt_174 hl (by decide) rfl (fun ls hl => ?_)
  refine lv_aload_n hx hb dX7_readAt_176 rfl (lv_at hl 1 rfl) ?_
  refine gX7_25 hC hI lkf_X7_65 dX7_readAt_177 ?_
  refine lv_iload_n hx hb dX7_readAt_180 rfl (lv_at hl 4 rfl) ?_
  refine lv_iload_n hx hb dX7_readAt_181 rfl (lv_at hl 3 rfl) ?_
  refine lv_iconst (v := (1 : Int32)) hx hb dX7_readAt_182 (by decide) ?_
  refine lv_iadd hx hb dX7_readAt_183 ?_
  refine tX7_25 hC hI hf dX7_readAt_184 (fun S H locs hI hf => ?_)
  refine lv_iconst (v := (-1 : Int32)) hx hb dX7_readAt_185 (by decide) ?_
  refine lv_istore (lv' := [(12, .int (-1 : Int32)), (11, .int t0), (0, .ref (ad 799)), (1, .int a1), (2, .int a2), (3, .int a3), (4, .int a4), (6, .int a6), (7, .int a7), (8, .int a8), (9, .int a9), (10, .int a10)]) hx hb dX7_readAt_186 hl (by decide) rfl (fun ls hl => ?_)
  refine lv_aload_n hx hb dX7_readAt_188 rfl (lv_at hl 2 rfl) ?_
  refine gX7_2 hC hI lkf_X7_13 dX7_readAt_189 ?_
  refine lv_iload hx hb dX7_readAt_192 (lv_at hl 7 rfl) ?_
  refine aX7_2 hC hI hf dX7_readAt_194 (fun v10 hf => ?_)
  refine lv_iconst (v := (2 : Int32)) hx hb dX7_readAt_195 (by decide) ?_
  refine x_ine hC 238 hf dX7_readAt_196 (by decide) (fun hf => ?_) (fun hf => ?_)
  · refine lv_aload_n hx hb dX7_readAt_238 rfl (lv_at hl 2 rfl) ?_
    refine gX7_2 hC hI lkf_X7_13 dX7_readAt_239 ?_
    refine lv_iload hx hb dX7_readAt_242 (lv_at hl 7 rfl) ?_
    refine aX7_2 hC hI hf dX7_readAt_244 (fun v11 hf => ?_)
    refine lv_iconst (v := (3 : Int32)) hx hb dX7_readAt_245 (by decide) ?_
    refine x_ieq hC 274 hf dX7_readAt_246 (by decide) (fun hf => ?_) (fun hf => ?_)
    · refine lv_iload hx hb dX7_readAt_274 (lv_at hl 11 rfl) ?_
      refine x_ne0 hC 297 hf dX7_readAt_276 (by decide) (fun hf => ?_) (fun hf => ?_)
      · exact w_X7_readAt_297 hC hR hI (lv_sub hl [2, 4, 8, 9, 10, 11, 1] rfl) hf
      · refine lv_iload hx hb dX7_readAt_279 (lv_at hl 1 rfl) ?_
        refine x_ne0 hC 297 hf dX7_readAt_281 (by decide) (fun hf => ?_) (fun hf => ?_)
        · exact w_X7_readAt_297 hC hR hI (lv_sub hl [2, 4, 8, 9, 10, 11, 1] rfl) hf
        · refine lv_iload hx hb dX7_readAt_284 (lv_at hl 10 rfl) ?_
          refine lv_iload_n hx hb dX7_readAt_286 rfl (lv_at hl 4 rfl) ?_
          refine x_ile hC 297 hf dX7_readAt_287 (by decide) (fun hf => ?_) (fun hf => ?_)
          · exact w_X7_readAt_297 hC hR hI (lv_sub hl [2, 4, 8, 9, 10, 11, 1] rfl) hf
          · refine lv_iload hx hb dX7_readAt_290 (lv_at hl 10 rfl) ?_
            refine lv_iload hx hb dX7_readAt_292 (lv_at hl 6 rfl) ?_
            refine x_ile hC 338 hf dX7_readAt_294 (by decide) (fun hf => ?_) (fun hf => ?_)
            · refine lv_aload_n hx hb dX7_readAt_338 rfl (lv_at hl 2 rfl) ?_
              refine lv_iload_n hx hb dX7_readAt_339 rfl (lv_at hl 3 rfl) ?_
              refine lv_iload_n hx hb dX7_readAt_340 rfl (lv_at hl 4 rfl) ?_
              refine lv_iload hx hb dX7_readAt_341 (lv_at hl 10 rfl) ?_
              obtain ⟨S, hc14, hf⟩ := x_b_eq hf
              refine x_callV hC hI (c_X7_readIf hc14) 0 7 rfl rfl kv_X7_181 rfl ⟨Nat.le_of_ble_eq_true rfl, Nat.le_of_ble_eq_true rfl⟩ ⟨Nat.le_refl _, Nat.le_refl _⟩ hl.1 rfl (Nat.le_of_ble_eq_true rfl) dX7_readAt_343 (fun H locs hI => ?_)
              obtain rfl := Option.some.inj hf
              exact hR _ _ _ _ hI dX7_readAt_346
            · exact w_X7_readAt_297 hC hR hI (lv_sub hl [2, 4, 8, 9, 10, 11, 1] rfl) hf
    · refine lv_aload_n hx hb dX7_readAt_249 rfl (lv_at hl 2 rfl) ?_
      refine lv_iconst (v := (0 : Int32)) hx hb dX7_readAt_250 (by decide) ?_
      refine lv_iload_n hx hb dX7_readAt_251 rfl (lv_at hl 4 rfl) ?_
      refine lv_iload_n hx hb dX7_readAt_252 rfl (lv_at hl 4 rfl) ?_
      refine lv_iconst (v := (1 : Int32)) hx hb dX7_readAt_253 (by decide) ?_
      refine lv_iadd hx hb dX7_readAt_254 ?_
      refine lv_iload hx hb dX7_readAt_255 (lv_at hl 8 rfl) ?_
      refine lv_iload hx hb dX7_readAt_257 (lv_at hl 9 rfl) ?_
      refine lv_aload_n hx hb dX7_readAt_259 rfl (lv_at hl 2 rfl) ?_
      refine gX7_2 hC hI lkf_X7_13 dX7_readAt_260 ?_
      refine lv_iload hx hb dX7_readAt_263 (lv_at hl 7 rfl) ?_
      refine aX7_2 hC hI hf dX7_readAt_265 (fun v15 hf => ?_)
      obtain ⟨v17, S, hc16, hf⟩ := x_b2_eq hf
      refine x_callV hC hI (c_X7_state hc16) 0 7 rfl rfl kv_X7_177 rfl ⟨Nat.le_of_ble_eq_true rfl, Nat.le_of_ble_eq_true rfl⟩ ⟨Nat.le_refl _, Nat.le_refl _⟩ hl.1 rfl (Nat.le_of_ble_eq_true rfl) dX7_readAt_266 (fun H locs hI => ?_)
      refine lv_istore (lv' := [(12, .int v17), (11, .int t0), (0, .ref (ad 799)), (1, .int a1), (2, .int a2), (3, .int a3), (4, .int a4), (6, .int a6), (7, .int a7), (8, .int a8), (9, .int a9), (10, .int a10)]) hx hb dX7_readAt_269 hl (by decide) rfl (fun ls hl => ?_)
      refine lv_goto (tgt := 346) hx hb dX7_readAt_271 (by decide) ?_
      obtain rfl := Option.some.inj hf
      exact hR _ _ _ _ hI dX7_readAt_346
  · refine lv_aload_n hx hb dX7_readAt_199 rfl (lv_at hl 2 rfl) ?_
    refine lv_iload hx hb dX7_readAt_200 (lv_at hl 11 rfl) ?_
    refine x_eq0 hC 210 hf dX7_readAt_202 (by decide) (fun hf => ?_) (fun hf => ?_)
    · refine lv_iload hx hb dX7_readAt_210 (lv_at hl 1 rfl) ?_
      refine x_eq0 hC 220 hf dX7_readAt_212 (by decide) (fun hf => ?_) (fun hf => ?_)
      · refine lv_bipush (v := (8 : Int32)) hx hb dX7_readAt_220 (by decide) ?_
        exact w_X7_readAt_222 hC hR hI (lv_sub hl [4, 10] rfl) hf
      · refine lv_bipush (v := (7 : Int32)) hx hb dX7_readAt_215 (by decide) ?_
        refine lv_goto (tgt := 222) hx hb dX7_readAt_217 (by decide) ?_
        exact w_X7_readAt_222 hC hR hI (lv_sub hl [4, 10] rfl) hf
    · refine lv_bipush (v := (6 : Int32)) hx hb dX7_readAt_205 (by decide) ?_
      refine lv_goto (tgt := 222) hx hb dX7_readAt_207 (by decide) ?_
      exact w_X7_readAt_222 hC hR hI (lv_sub hl [4, 10] rfl) hf
def f_X7_readAt_173 (n : Nat) (S : x_S) (a1 : Int32) (a2 : Int32) (a3 : Int32) (a4 : Int32) (a6 : Int32) (a7 : Int32) (a8 : Int32) (a9 : Int32) (a10 : Int32) : Option (x_S) :=
f_X7_readAt_174 n S a1 a2 a3 a4 a6 a7 a8 a9 a10 (0 : Int32)
set_option maxHeartbeats 4000000 in
set_option maxRecDepth 100000 in
theorem w_X7_readAt_173 {r : x_S} {a1 : Int32} {a2 : Int32} {a3 : Int32} {a4 : Int32} {a6 : Int32} {a7 : Int32} {a8 : Int32} {a9 : Int32} {a10 : Int32} (hC : x_C p s m args meth c cX7_readAt 13 RX7 E A) (hR : x_Rv p l e { frames := 2, cells := 0, slots := 0, locals := 57 } s m args below meth c cX7_readAt E A Q (mw E ad r)) (hI : x_I E A s.heap (mw E ad S) H locs) (hl : lv_has ls 13 [(0, .ref (ad 799)), (1, .int a1), (2, .int a2), (3, .int a3), (4, .int a4), (6, .int a6), (7, .int a7), (8, .int a8), (9, .int a9), (10, .int a10)]) (hf : f_X7_readAt_173 n S a1 a2 a3 a4 a6 a7 a8 a9 a10 = some r) : W p l e { frames := 2, cells := 0, slots := 0, locals := 57 } s m args below meth c H locs 0 0 Q (F0 m 173 ls []) := by
  obtain ⟨hx, hb, hml, hown, hts, hK, hN, hA⟩ := id hC
  unfold f_X7_readAt_173 at hf
  refine lv_iconst (v := (0 : Int32)) hx hb dX7_readAt_173 (by decide) ?_
  exact w_X7_readAt_174 hC hR hI (lv_sub hl [0, 1, 2, 3, 4, 5, 6, 7, 8, 9] rfl) hf
def f_X7_readAt_147 (n : Nat) (S : x_S) (a1 : Int32) (a2 : Int32) (a3 : Int32) (a4 : Int32) (a6 : Int32) (a7 : Int32) (a8 : Int32) (a9 : Int32) (t0 : Int32) : Option (x_S) :=
x_b2 (f_X7_leads n S a6) (fun v9 S =>
if v9 = 0 then
f_X7_readAt_173 n S a1 a2 a3 a4 a6 a7 a8 a9 t0
else
x_g (¬ (a3 < 0 ∨ 200 ≤ (a3).toNatClampNeg)) (x_let (g_ar S 728 (a3).toNatClampNeg) (fun v20 =>
if a9 = v20 then
f_X7_readAt_174 n S a1 a2 a3 a4 a6 a7 a8 a9 t0 (1 : Int32)
else
f_X7_readAt_173 n S a1 a2 a3 a4 a6 a7 a8 a9 t0)))
set_option maxHeartbeats 4000000 in
set_option maxRecDepth 100000 in
theorem w_X7_readAt_147 {r : x_S} {a1 : Int32} {a2 : Int32} {a3 : Int32} {a4 : Int32} {a6 : Int32} {a7 : Int32} {a8 : Int32} {a9 : Int32} {t0 : Int32} (hC : x_C p s m args meth c cX7_readAt 13 RX7 E A) (hR : x_Rv p l e { frames := 2, cells := 0, slots := 0, locals := 57 } s m args below meth c cX7_readAt E A Q (mw E ad r)) (hI : x_I E A s.heap (mw E ad S) H locs) (hl : lv_has ls 13 [(0, .ref (ad 799)), (1, .int a1), (2, .int a2), (3, .int a3), (4, .int a4), (6, .int a6), (7, .int a7), (8, .int a8), (9, .int a9)]) (hf : f_X7_readAt_147 n S a1 a2 a3 a4 a6 a7 a8 a9 t0 = some r) : W p l e { frames := 2, cells := 0, slots := 0, locals := 57 } s m args below meth c H locs 0 0 Q (F0 m 147 ls [.int t0]) := by
  obtain ⟨hx, hb, hml, hown, hts, hK, hN, hA⟩ := id hC
  unfold f_X7_readAt_147 at hf
  refine lv_istore (lv' := [(10, .int t0), (0, .ref (ad 799)), (1, .int a1), (2, .int a2), (3, .int a3), (4, .int a4), (6, .int a6), (7, .int a7), (8, .int a8), (9, .int a9)]) hx hb dX7_readAt_147 hl (by decide) rfl (fun ls hl => ?_)
  refine lv_aload_n hx hb dX7_readAt_149 rfl (lv_at hl 1 rfl) ?_
  refine lv_iload hx hb dX7_readAt_150 (lv_at hl 6 rfl) ?_
  obtain ⟨v9, S, hc8, hf⟩ := x_b2_eq hf
  refine x_callV hC hI (c_X7_leads hc8) 0 7 rfl rfl kv_X7_154 rfl ⟨Nat.le_of_ble_eq_true rfl, Nat.le_of_ble_eq_true rfl⟩ ⟨Nat.le_refl _, Nat.le_refl _⟩ hl.1 rfl (Nat.le_of_ble_eq_true rfl) dX7_readAt_152 (fun H locs hI => ?_)
  refine x_eq0 hC 173 hf dX7_readAt_155 (by decide) (fun hf => ?_) (fun hf => ?_)
  · exact w_X7_readAt_173 hC hR hI (lv_sub hl [1, 2, 3, 4, 5, 6, 7, 8, 9, 0] rfl) hf
  · refine lv_iload hx hb dX7_readAt_158 (lv_at hl 9 rfl) ?_
    refine lv_aload_n hx hb dX7_readAt_160 rfl (lv_at hl 1 rfl) ?_
    refine gX7_28 hC hI lkf_X7_74 dX7_readAt_161 ?_
    refine lv_iload_n hx hb dX7_readAt_164 rfl (lv_at hl 4 rfl) ?_
    refine aX7_28 hC hI hf dX7_readAt_165 (fun v20 hf => ?_)
    refine x_ine hC 173 hf dX7_readAt_166 (by decide) (fun hf => ?_) (fun hf => ?_)
    · exact w_X7_readAt_173 hC hR hI (lv_sub hl [1, 2, 3, 4, 5, 6, 7, 8, 9, 0] rfl) hf
    · refine lv_iconst (v := (1 : Int32)) hx hb dX7_readAt_169 (by decide) ?_
      refine lv_goto (tgt := 174) hx hb dX7_readAt_170 (by decide) ?_
      exact w_X7_readAt_174 hC hR hI (lv_sub hl [1, 2, 3, 4, 5, 6, 7, 8, 9, 0] rfl) hf
def f_X7_readAt_146 (n : Nat) (S : x_S) (a1 : Int32) (a2 : Int32) (a3 : Int32) (a4 : Int32) (a6 : Int32) (a7 : Int32) (a8 : Int32) (a9 : Int32) : Option (x_S) :=
f_X7_readAt_147 n S a1 a2 a3 a4 a6 a7 a8 a9 (0 : Int32)
set_option maxHeartbeats 4000000 in
set_option maxRecDepth 100000 in
theorem w_X7_readAt_146 {r : x_S} {a1 : Int32} {a2 : Int32} {a3 : Int32} {a4 : Int32} {a6 : Int32} {a7 : Int32} {a8 : Int32} {a9 : Int32} (hC : x_C p s m args meth c cX7_readAt 13 RX7 E A) (hR : x_Rv p l e { frames := 2, cells := 0, slots := 0, locals := 57 } s m args below meth c cX7_readAt E A Q (mw E ad r)) (hI : x_I E A s.heap (mw E ad S) H locs) (hl : lv_has ls 13 [(0, .ref (ad 799)), (1, .int a1), (2, .int a2), (3, .int a3), (4, .int a4), (6, .int a6), (7, .int a7), (8, .int a8), (9, .int a9)]) (hf : f_X7_readAt_146 n S a1 a2 a3 a4 a6 a7 a8 a9 = some r) : W p l e { frames := 2, cells := 0, slots := 0, locals := 57 } s m args below meth c H locs 0 0 Q (F0 m 146 ls []) := by
  obtain ⟨hx, hb, hml, hown, hts, hK, hN, hA⟩ := id hC
  unfold f_X7_readAt_146 at hf
  refine lv_iconst (v := (0 : Int32)) hx hb dX7_readAt_146 (by decide) ?_
  exact w_X7_readAt_147 hC hR hI (lv_sub hl [0, 1, 2, 3, 4, 5, 6, 7, 8] rfl) hf
def f_X7_readAt_90 (n : Nat) (S : x_S) (a1 : Int32) (a2 : Int32) (a3 : Int32) (a4 : Int32) : Option (x_S) :=
x_g (¬ ((a1 + a2) < 0 ∨ 720 ≤ ((a1 + a2)).toNatClampNeg)) (x_let (g_ar S 703 ((a1 + a2)).toNatClampNeg) (fun v3 =>
x_g (¬ ((a1 + a2) < 0 ∨ 720 ≤ ((a1 + a2)).toNatClampNeg)) (x_let (g_ar S 704 ((a1 + a2)).toNatClampNeg) (fun v4 =>
x_g (¬ ((a1 + a2) < 0 ∨ 720 ≤ ((a1 + a2)).toNatClampNeg)) (x_let (g_ar S 705 ((a1 + a2)).toNatClampNeg) (fun v5 =>
x_b2 (f_X7_leads n S (a1 + a2)) (fun v7 S =>
if v7 = 0 then
f_X7_readAt_146 n S a1 a2 a3 a4 (a1 + a2) v3 v4 v5
else
x_g (¬ (a3 < 0 ∨ 200 ≤ (a3).toNatClampNeg)) (x_let (g_ar S 727 (a3).toNatClampNeg) (fun v21 =>
if v5 = v21 then
f_X7_readAt_147 n S a1 a2 a3 a4 (a1 + a2) v3 v4 v5 (1 : Int32)
else
f_X7_readAt_146 n S a1 a2 a3 a4 (a1 + a2) v3 v4 v5)))))))))
set_option maxHeartbeats 4000000 in
set_option maxRecDepth 100000 in
theorem w_X7_readAt_90 {r : x_S} {a1 : Int32} {a2 : Int32} {a3 : Int32} {a4 : Int32} (hC : x_C p s m args meth c cX7_readAt 13 RX7 E A) (hR : x_Rv p l e { frames := 2, cells := 0, slots := 0, locals := 57 } s m args below meth c cX7_readAt E A Q (mw E ad r)) (hI : x_I E A s.heap (mw E ad S) H locs) (hl : lv_has ls 13 [(0, .ref (ad 799)), (1, .int a1), (2, .int a2), (3, .int a3), (4, .int a4)]) (hf : f_X7_readAt_90 n S a1 a2 a3 a4 = some r) : W p l e { frames := 2, cells := 0, slots := 0, locals := 57 } s m args below meth c H locs 0 0 Q (F0 m 90 ls []) := by
  obtain ⟨hx, hb, hml, hown, hts, hK, hN, hA⟩ := id hC
  unfold f_X7_readAt_90 at hf
  refine lv_iload_n hx hb dX7_readAt_90 rfl (lv_at hl 1 rfl) ?_
  refine lv_iload_n hx hb dX7_readAt_91 rfl (lv_at hl 2 rfl) ?_
  refine lv_iadd hx hb dX7_readAt_92 ?_
  refine lv_istore (lv' := [(6, .int (a1 + a2)), (0, .ref (ad 799)), (1, .int a1), (2, .int a2), (3, .int a3), (4, .int a4)]) hx hb dX7_readAt_93 hl (by decide) rfl (fun ls hl => ?_)
  refine lv_aload_n hx hb dX7_readAt_95 rfl (lv_at hl 1 rfl) ?_
  refine gX7_3 hC hI lkf_X7_16 dX7_readAt_96 ?_
  refine lv_iload hx hb dX7_readAt_99 (lv_at hl 0 rfl) ?_
  refine aX7_3 hC hI hf dX7_readAt_101 (fun v3 hf => ?_)
  refine lv_istore (lv' := [(7, .int v3), (6, .int (a1 + a2)), (0, .ref (ad 799)), (1, .int a1), (2, .int a2), (3, .int a3), (4, .int a4)]) hx hb dX7_readAt_102 hl (by decide) rfl (fun ls hl => ?_)
  refine lv_aload_n hx hb dX7_readAt_104 rfl (lv_at hl 2 rfl) ?_
  refine gX7_4 hC hI lkf_X7_19 dX7_readAt_105 ?_
  refine lv_iload hx hb dX7_readAt_108 (lv_at hl 1 rfl) ?_
  refine aX7_4 hC hI hf dX7_readAt_110 (fun v4 hf => ?_)
  refine lv_istore (lv' := [(8, .int v4), (7, .int v3), (6, .int (a1 + a2)), (0, .ref (ad 799)), (1, .int a1), (2, .int a2), (3, .int a3), (4, .int a4)]) hx hb dX7_readAt_111 hl (by decide) rfl (fun ls hl => ?_)
  refine lv_aload_n hx hb dX7_readAt_113 rfl (lv_at hl 3 rfl) ?_
  refine gX7_5 hC hI lkf_X7_22 dX7_readAt_114 ?_
  refine lv_iload hx hb dX7_readAt_117 (lv_at hl 2 rfl) ?_
  refine aX7_5 hC hI hf dX7_readAt_119 (fun v5 hf => ?_)
  refine lv_istore (lv' := [(9, .int v5), (8, .int v4), (7, .int v3), (6, .int (a1 + a2)), (0, .ref (ad 799)), (1, .int a1), (2, .int a2), (3, .int a3), (4, .int a4)]) hx hb dX7_readAt_120 hl (by decide) rfl (fun ls hl => ?_)
  refine lv_aload_n hx hb dX7_readAt_122 rfl (lv_at hl 4 rfl) ?_
  refine lv_iload hx hb dX7_readAt_123 (lv_at hl 3 rfl) ?_
  obtain ⟨v7, S, hc6, hf⟩ := x_b2_eq hf
  refine x_callV hC hI (c_X7_leads hc6) 0 7 rfl rfl kv_X7_154 rfl ⟨Nat.le_of_ble_eq_true rfl, Nat.le_of_ble_eq_true rfl⟩ ⟨Nat.le_refl _, Nat.le_refl _⟩ hl.1 rfl (Nat.le_of_ble_eq_true rfl) dX7_readAt_125 (fun H locs hI => ?_)
  refine x_eq0 hC 146 hf dX7_readAt_128 (by decide) (fun hf => ?_) (fun hf => ?_)
  · exact w_X7_readAt_146 hC hR hI (lv_sub hl [4, 5, 6, 7, 8, 3, 2, 1, 0] rfl) hf
  · refine lv_iload hx hb dX7_readAt_131 (lv_at hl 0 rfl) ?_
    refine lv_aload_n hx hb dX7_readAt_133 rfl (lv_at hl 4 rfl) ?_
    refine gX7_27 hC hI lkf_X7_71 dX7_readAt_134 ?_
    refine lv_iload_n hx hb dX7_readAt_137 rfl (lv_at hl 7 rfl) ?_
    refine aX7_27 hC hI hf dX7_readAt_138 (fun v21 hf => ?_)
    refine x_ine hC 146 hf dX7_readAt_139 (by decide) (fun hf => ?_) (fun hf => ?_)
    · exact w_X7_readAt_146 hC hR hI (lv_sub hl [4, 5, 6, 7, 8, 3, 2, 1, 0] rfl) hf
    · refine lv_iconst (v := (1 : Int32)) hx hb dX7_readAt_142 (by decide) ?_
      refine lv_goto (tgt := 147) hx hb dX7_readAt_143 (by decide) ?_
      exact w_X7_readAt_147 hC hR hI (lv_sub hl [4, 5, 6, 7, 8, 3, 2, 1, 0] rfl) hf
def f_X7_readAt_59 (n : Nat) (rec21 : x_S × Int32 × Int32 × Int32 × Int32 × Int32 × Int32 → Option (x_S)) (S : x_S) (a1 : Int32) (a2 : Int32) (a3 : Int32) (a4 : Int32) (a6 : Int32) (t0 : Int32) : Option (x_S) :=
rec21 (S, a1, a2, a3, a4, t0, (a6 + (1 : Int32)))
set_option maxHeartbeats 4000000 in
set_option maxRecDepth 100000 in
theorem w_X7_readAt_59 {r : x_S} {a1 : Int32} {a2 : Int32} {a3 : Int32} {a4 : Int32} {a6 : Int32} {t0 : Int32} {rec21 : x_S × Int32 × Int32 × Int32 × Int32 × Int32 × Int32 → Option (x_S)} (hC : x_C p s m args meth c cX7_readAt 13 RX7 E A) (hR : x_Rv p l e { frames := 2, cells := 0, slots := 0, locals := 57 } s m args below meth c cX7_readAt E A Q (mw E ad r)) (hrec21 : ∀ z : x_S × Int32 × Int32 × Int32 × Int32 × Int32 × Int32, rec21 z = some r → ∀ (H : Heap) (locs : List Loc) (ls : Array Slot), x_I E A s.heap (mw E ad z.1) H locs → lv_has ls 13 [(0, .ref (ad 799)), (1, .int z.2.1), (2, .int z.2.2.1), (3, .int z.2.2.2.1), (4, .int z.2.2.2.2.1), (5, .int z.2.2.2.2.2.1), (6, .int z.2.2.2.2.2.2)] → W p l e { frames := 2, cells := 0, slots := 0, locals := 57 } s m args below meth c H locs 0 0 Q (F0 m 21 ls [])) (hI : x_I E A s.heap (mw E ad S) H locs) (hl : lv_has ls 13 [(0, .ref (ad 799)), (1, .int a1), (2, .int a2), (3, .int a3), (4, .int a4), (6, .int a6)]) (hf : f_X7_readAt_59 n rec21 S a1 a2 a3 a4 a6 t0 = some r) : W p l e { frames := 2, cells := 0, slots := 0, locals := 57 } s m args below meth c H locs 0 0 Q (F0 m 59 ls [.int t0]) := by
  obtain ⟨hx, hb, hml, hown, hts, hK, hN, hA⟩ := id hC
  unfold f_X7_readAt_59 at hf
  refine lv_istore (lv' := [(5, .int t0), (0, .ref (ad 799)), (1, .int a1), (2, .int a2), (3, .int a3), (4, .int a4), (6, .int a6)]) hx hb dX7_readAt_59 hl (by decide) rfl (fun ls hl => ?_)
  refine lv_iinc (v := (a6 + (1 : Int32))) (lv' := [(6, .int (a6 + (1 : Int32))), (5, .int t0), (0, .ref (ad 799)), (1, .int a1), (2, .int a2), (3, .int a3), (4, .int a4)]) hx hb dX7_readAt_61 hl (k := 6) rfl rfl (by decide) rfl (fun ls hl => ?_)
  refine lv_goto (tgt := 21) hx hb dX7_readAt_64 (by decide) ?_
  exact hrec21 _ hf _ _ _ hI (lv_sub hl [2, 3, 4, 5, 6, 1, 0] rfl)
def f_X7_readAt_57 (n : Nat) (rec21 : x_S × Int32 × Int32 × Int32 × Int32 × Int32 × Int32 → Option (x_S)) (S : x_S) (a1 : Int32) (a2 : Int32) (a3 : Int32) (a4 : Int32) (a5 : Int32) (a6 : Int32) : Option (x_S) :=
f_X7_readAt_59 n rec21 S a1 a2 a3 a4 a6 a5
set_option maxHeartbeats 4000000 in
set_option maxRecDepth 100000 in
theorem w_X7_readAt_57 {r : x_S} {a1 : Int32} {a2 : Int32} {a3 : Int32} {a4 : Int32} {a5 : Int32} {a6 : Int32} {rec21 : x_S × Int32 × Int32 × Int32 × Int32 × Int32 × Int32 → Option (x_S)} (hC : x_C p s m args meth c cX7_readAt 13 RX7 E A) (hR : x_Rv p l e { frames := 2, cells := 0, slots := 0, locals := 57 } s m args below meth c cX7_readAt E A Q (mw E ad r)) (hrec21 : ∀ z : x_S × Int32 × Int32 × Int32 × Int32 × Int32 × Int32, rec21 z = some r → ∀ (H : Heap) (locs : List Loc) (ls : Array Slot), x_I E A s.heap (mw E ad z.1) H locs → lv_has ls 13 [(0, .ref (ad 799)), (1, .int z.2.1), (2, .int z.2.2.1), (3, .int z.2.2.2.1), (4, .int z.2.2.2.2.1), (5, .int z.2.2.2.2.2.1), (6, .int z.2.2.2.2.2.2)] → W p l e { frames := 2, cells := 0, slots := 0, locals := 57 } s m args below meth c H locs 0 0 Q (F0 m 21 ls [])) (hI : x_I E A s.heap (mw E ad S) H locs) (hl : lv_has ls 13 [(0, .ref (ad 799)), (1, .int a1), (2, .int a2), (3, .int a3), (4, .int a4), (5, .int a5), (6, .int a6)]) (hf : f_X7_readAt_57 n rec21 S a1 a2 a3 a4 a5 a6 = some r) : W p l e { frames := 2, cells := 0, slots := 0, locals := 57 } s m args below meth c H locs 0 0 Q (F0 m 57 ls []) := by
  obtain ⟨hx, hb, hml, hown, hts, hK, hN, hA⟩ := id hC
  unfold f_X7_readAt_57 at hf
  refine lv_iload hx hb dX7_readAt_57 (lv_at hl 5 rfl) ?_
  exact w_X7_readAt_59 hC hR hrec21 hI (lv_sub hl [0, 1, 2, 3, 4, 6] rfl) hf
def f_X7_readAt_21 (n : Nat) (rec21 : x_S × Int32 × Int32 × Int32 × Int32 × Int32 × Int32 → Option (x_S)) (S : x_S) (a1 : Int32) (a2 : Int32) (a3 : Int32) (a4 : Int32) (a5 : Int32) (a6 : Int32) : Option (x_S) :=
if a4 ≤ a6 then
if a5 = (-1 : Int32) then
f_X7_readAt_90 n S a1 a2 a3 a4
else
x_b2 (f_X7_isBeingRead n S a2) (fun v23 S =>
if v23 = 0 then
x_b (f_X7_readLoop n S a1 a2 a5) (fun S =>
some S)
else
f_X7_readAt_90 n S a1 a2 a3 a4)
else
x_b2 (f_X7_leads n S (a1 + a6)) (fun v26 S =>
if v26 = 0 then
f_X7_readAt_57 n rec21 S a1 a2 a3 a4 a5 a6
else
x_g (¬ ((a1 + a6) < 0 ∨ 720 ≤ ((a1 + a6)).toNatClampNeg)) (x_let (g_ar S 705 ((a1 + a6)).toNatClampNeg) (fun v27 =>
if v27 = a2 then
f_X7_readAt_59 n rec21 S a1 a2 a3 a4 a6 a6
else
f_X7_readAt_57 n rec21 S a1 a2 a3 a4 a5 a6)))
set_option maxHeartbeats 4000000 in
set_option maxRecDepth 100000 in
theorem w_X7_readAt_21 {r : x_S} {a1 : Int32} {a2 : Int32} {a3 : Int32} {a4 : Int32} {a5 : Int32} {a6 : Int32} {rec21 : x_S × Int32 × Int32 × Int32 × Int32 × Int32 × Int32 → Option (x_S)} (hC : x_C p s m args meth c cX7_readAt 13 RX7 E A) (hR : x_Rv p l e { frames := 2, cells := 0, slots := 0, locals := 57 } s m args below meth c cX7_readAt E A Q (mw E ad r)) (hrec21 : ∀ z : x_S × Int32 × Int32 × Int32 × Int32 × Int32 × Int32, rec21 z = some r → ∀ (H : Heap) (locs : List Loc) (ls : Array Slot), x_I E A s.heap (mw E ad z.1) H locs → lv_has ls 13 [(0, .ref (ad 799)), (1, .int z.2.1), (2, .int z.2.2.1), (3, .int z.2.2.2.1), (4, .int z.2.2.2.2.1), (5, .int z.2.2.2.2.2.1), (6, .int z.2.2.2.2.2.2)] → W p l e { frames := 2, cells := 0, slots := 0, locals := 57 } s m args below meth c H locs 0 0 Q (F0 m 21 ls [])) (hI : x_I E A s.heap (mw E ad S) H locs) (hl : lv_has ls 13 [(0, .ref (ad 799)), (1, .int a1), (2, .int a2), (3, .int a3), (4, .int a4), (5, .int a5), (6, .int a6)]) (hf : f_X7_readAt_21 n rec21 S a1 a2 a3 a4 a5 a6 = some r) : W p l e { frames := 2, cells := 0, slots := 0, locals := 57 } s m args below meth c H locs 0 0 Q (F0 m 21 ls []) := by
  obtain ⟨hx, hb, hml, hown, hts, hK, hN, hA⟩ := id hC
  unfold f_X7_readAt_21 at hf
  refine lv_iload hx hb dX7_readAt_21 (lv_at hl 6 rfl) ?_
  refine lv_iload hx hb dX7_readAt_23 (lv_at hl 4 rfl) ?_
  refine x_ige hC 67 hf dX7_readAt_25 (by decide) (fun hf => ?_) (fun hf => ?_)
  · refine lv_iload hx hb dX7_readAt_67 (lv_at hl 5 rfl) ?_
    refine lv_iconst (v := (-1 : Int32)) hx hb dX7_readAt_69 (by decide) ?_
    refine x_ieq hC 90 hf dX7_readAt_70 (by decide) (fun hf => ?_) (fun hf => ?_)
    · exact w_X7_readAt_90 hC hR hI (lv_sub hl [0, 1, 2, 3, 4] rfl) hf
    · refine lv_aload_n hx hb dX7_readAt_73 rfl (lv_at hl 0 rfl) ?_
      refine lv_iload_n hx hb dX7_readAt_74 rfl (lv_at hl 2 rfl) ?_
      obtain ⟨v23, S, hc22, hf⟩ := x_b2_eq hf
      refine x_callV hC hI (c_X7_isBeingRead hc22) 0 7 rfl rfl kv_X7_170 rfl ⟨Nat.le_of_ble_eq_true rfl, Nat.le_of_ble_eq_true rfl⟩ ⟨Nat.le_refl _, Nat.le_refl _⟩ hl.1 rfl (Nat.le_of_ble_eq_true rfl) dX7_readAt_75 (fun H locs hI => ?_)
      refine x_ne0 hC 90 hf dX7_readAt_78 (by decide) (fun hf => ?_) (fun hf => ?_)
      · exact w_X7_readAt_90 hC hR hI (lv_sub hl [0, 1, 2, 3, 4] rfl) hf
      · refine lv_aload_n hx hb dX7_readAt_81 rfl (lv_at hl 0 rfl) ?_
        refine lv_iload_n hx hb dX7_readAt_82 rfl (lv_at hl 1 rfl) ?_
        refine lv_iload_n hx hb dX7_readAt_83 rfl (lv_at hl 2 rfl) ?_
        refine lv_iload hx hb dX7_readAt_84 (lv_at hl 5 rfl) ?_
        obtain ⟨S, hc24, hf⟩ := x_b_eq hf
        refine x_callV hC hI (c_X7_readLoop hc24) 0 7 rfl rfl kv_X7_173 rfl ⟨Nat.le_of_ble_eq_true rfl, Nat.le_of_ble_eq_true rfl⟩ ⟨Nat.le_refl _, Nat.le_refl _⟩ hl.1 rfl (Nat.le_of_ble_eq_true rfl) dX7_readAt_86 (fun H locs hI => ?_)
        obtain rfl := Option.some.inj hf
        exact hR _ _ _ _ hI dX7_readAt_89
  · refine lv_aload_n hx hb dX7_readAt_28 rfl (lv_at hl 0 rfl) ?_
    refine lv_iload_n hx hb dX7_readAt_29 rfl (lv_at hl 1 rfl) ?_
    refine lv_iload hx hb dX7_readAt_30 (lv_at hl 6 rfl) ?_
    refine lv_iadd hx hb dX7_readAt_32 ?_
    obtain ⟨v26, S, hc25, hf⟩ := x_b2_eq hf
    refine x_callV hC hI (c_X7_leads hc25) 0 7 rfl rfl kv_X7_154 rfl ⟨Nat.le_of_ble_eq_true rfl, Nat.le_of_ble_eq_true rfl⟩ ⟨Nat.le_refl _, Nat.le_refl _⟩ hl.1 rfl (Nat.le_of_ble_eq_true rfl) dX7_readAt_33 (fun H locs hI => ?_)
    refine x_eq0 hC 57 hf dX7_readAt_36 (by decide) (fun hf => ?_) (fun hf => ?_)
    · exact w_X7_readAt_57 hC hR hrec21 hI (lv_sub hl [0, 1, 2, 3, 4, 5, 6] rfl) hf
    · refine lv_aload_n hx hb dX7_readAt_39 rfl (lv_at hl 0 rfl) ?_
      refine gX7_5 hC hI lkf_X7_22 dX7_readAt_40 ?_
      refine lv_iload_n hx hb dX7_readAt_43 rfl (lv_at hl 1 rfl) ?_
      refine lv_iload hx hb dX7_readAt_44 (lv_at hl 6 rfl) ?_
      refine lv_iadd hx hb dX7_readAt_46 ?_
      refine aX7_5 hC hI hf dX7_readAt_47 (fun v27 hf => ?_)
      refine lv_iload_n hx hb dX7_readAt_48 rfl (lv_at hl 2 rfl) ?_
      refine x_ine hC 57 hf dX7_readAt_49 (by decide) (fun hf => ?_) (fun hf => ?_)
      · exact w_X7_readAt_57 hC hR hrec21 hI (lv_sub hl [0, 1, 2, 3, 4, 5, 6] rfl) hf
      · refine lv_iload hx hb dX7_readAt_52 (lv_at hl 6 rfl) ?_
        refine lv_goto (tgt := 59) hx hb dX7_readAt_54 (by decide) ?_
        exact w_X7_readAt_59 hC hR hrec21 hI (lv_sub hl [0, 1, 2, 3, 4, 6] rfl) hf
theorem w_X7_readAt_21_loop {r : x_S} (hC : x_C p s m args meth c cX7_readAt 13 RX7 E A) (hR : x_Rv p l e { frames := 2, cells := 0, slots := 0, locals := 57 } s m args below meth c cX7_readAt E A Q (mw E ad r)) : ∀ (k : Nat) (z : x_S × Int32 × Int32 × Int32 × Int32 × Int32 × Int32), x_loop (fun rec z => f_X7_readAt_21 n rec z.1 z.2.1 z.2.2.1 z.2.2.2.1 z.2.2.2.2.1 z.2.2.2.2.2.1 z.2.2.2.2.2.2) k z = some r → ∀ (H : Heap) (locs : List Loc) (ls : Array Slot), x_I E A s.heap (mw E ad z.1) H locs → lv_has ls 13 [(0, .ref (ad 799)), (1, .int z.2.1), (2, .int z.2.2.1), (3, .int z.2.2.2.1), (4, .int z.2.2.2.2.1), (5, .int z.2.2.2.2.2.1), (6, .int z.2.2.2.2.2.2)] → W p l e { frames := 2, cells := 0, slots := 0, locals := 57 } s m args below meth c H locs 0 0 Q (F0 m 21 ls []) :=
  x_loop_ind (P := fun (z : x_S × Int32 × Int32 × Int32 × Int32 × Int32 × Int32) => ∀ (H : Heap) (locs : List Loc) (ls : Array Slot), x_I E A s.heap (mw E ad z.1) H locs → lv_has ls 13 [(0, .ref (ad 799)), (1, .int z.2.1), (2, .int z.2.2.1), (3, .int z.2.2.2.1), (4, .int z.2.2.2.2.1), (5, .int z.2.2.2.2.2.1), (6, .int z.2.2.2.2.2.2)] → W p l e { frames := 2, cells := 0, slots := 0, locals := 57 } s m args below meth c H locs 0 0 Q (F0 m 21 ls [])) (fun rec hrec z hf H locs ls hI hl => w_X7_readAt_21 hC hR hrec hI hl hf)
def f_X7_readAt (n : Nat) (S : x_S) (a1 : Int32) (a2 : Int32) : Option (x_S) :=
x_let (g_sc S 724) (fun v1 =>
x_g (¬ ((v1 - (1 : Int32)) < 0 ∨ 200 ≤ ((v1 - (1 : Int32))).toNatClampNeg)) (x_let (g_ar S 726 ((v1 - (1 : Int32))).toNatClampNeg) (fun v2 =>
x_loop (fun rec z => f_X7_readAt_21 n rec z.1 z.2.1 z.2.2.1 z.2.2.2.1 z.2.2.2.2.1 z.2.2.2.2.2.1 z.2.2.2.2.2.2) n (S, a1, a2, (v1 - (1 : Int32)), v2, (-1 : Int32), a2))))
set_option maxHeartbeats 4000000 in
set_option maxRecDepth 100000 in
theorem w_X7_readAt {r : x_S} {a1 : Int32} {a2 : Int32} (hC : x_C p s m args meth c cX7_readAt 13 RX7 E A) (hR : x_Rv p l e { frames := 2, cells := 0, slots := 0, locals := 57 } s m args below meth c cX7_readAt E A Q (mw E ad r)) (hI : x_I E A s.heap (mw E ad S) H locs) (hl : lv_has ls 13 [(0, .ref (ad 799)), (1, .int a1), (2, .int a2)]) (hf : f_X7_readAt n S a1 a2 = some r) : W p l e { frames := 2, cells := 0, slots := 0, locals := 57 } s m args below meth c H locs 0 0 Q (F0 m 0 ls []) := by
  obtain ⟨hx, hb, hml, hown, hts, hK, hN, hA⟩ := id hC
  unfold f_X7_readAt at hf
  refine lv_aload_n hx hb dX7_readAt_0 rfl (lv_at hl 0 rfl) ?_
  refine gX7_24 hC hI hf lkf_X7_157 dX7_readAt_1 (fun v1 hf => ?_)
  refine lv_iconst (v := (1 : Int32)) hx hb dX7_readAt_4 (by decide) ?_
  refine lv_isub hx hb dX7_readAt_5 ?_
  refine lv_istore_n (lv' := [(3, .int (v1 - (1 : Int32))), (0, .ref (ad 799)), (1, .int a1), (2, .int a2)]) hx hb dX7_readAt_6 rfl hl (by decide) rfl (fun ls hl => ?_)
  refine lv_aload_n hx hb dX7_readAt_7 rfl (lv_at hl 1 rfl) ?_
  refine gX7_26 hC hI lkf_X7_68 dX7_readAt_8 ?_
  refine lv_iload_n hx hb dX7_readAt_11 rfl (lv_at hl 0 rfl) ?_
  refine aX7_26 hC hI hf dX7_readAt_12 (fun v2 hf => ?_)
  refine lv_istore (lv' := [(4, .int v2), (3, .int (v1 - (1 : Int32))), (0, .ref (ad 799)), (1, .int a1), (2, .int a2)]) hx hb dX7_readAt_13 hl (by decide) rfl (fun ls hl => ?_)
  refine lv_iconst (v := (-1 : Int32)) hx hb dX7_readAt_15 (by decide) ?_
  refine lv_istore (lv' := [(5, .int (-1 : Int32)), (4, .int v2), (3, .int (v1 - (1 : Int32))), (0, .ref (ad 799)), (1, .int a1), (2, .int a2)]) hx hb dX7_readAt_16 hl (by decide) rfl (fun ls hl => ?_)
  refine lv_iload_n hx hb dX7_readAt_18 rfl (lv_at hl 5 rfl) ?_
  refine lv_istore (lv' := [(6, .int a2), (5, .int (-1 : Int32)), (4, .int v2), (3, .int (v1 - (1 : Int32))), (0, .ref (ad 799)), (1, .int a1), (2, .int a2)]) hx hb dX7_readAt_19 hl (by decide) rfl (fun ls hl => ?_)
  exact w_X7_readAt_21_loop hC hR _ _ hf _ _ _ hI (lv_sub hl [4, 5, 6, 3, 2, 1, 0] rfl)
theorem c_X7_readAt {a1 : Int32} {a2 : Int32} {S1 : x_S} (hf : f_X7_readAt n S a1 a2 = some S1) : x_M l yX7_readAt cX7_readAt 13 none 2 57 E [.ref (ad 799), .int a1, .int a2] (mw E ad S) (mw E ad S1) none :=
  x_entV (by decide) (Nat.le_of_ble_eq_true rfl) (fun p e s m args below meth c A Q ls hC hI hR hl => w_X7_readAt (r := S1) hC hR hI hl hf)
-- X7_read
def f_X7_read_81 (n : Nat) (rec25 : x_S × Int32 → Option (x_S)) (S : x_S) (a1 : Int32) : Option (x_S) :=
rec25 (S, a1)
set_option maxHeartbeats 4000000 in
set_option maxRecDepth 100000 in
theorem w_X7_read_81 {r : x_S} {a1 : Int32} {rec25 : x_S × Int32 → Option (x_S)} (hC : x_C p s m args meth c cX7_read 3 RX7 E A) (hR : x_Rv p l e { frames := 3, cells := 0, slots := 0, locals := 89 } s m args below meth c cX7_read E A Q (mw E ad r)) (hrec25 : ∀ z : x_S × Int32, rec25 z = some r → ∀ (H : Heap) (locs : List Loc) (ls : Array Slot), x_I E A s.heap (mw E ad z.1) H locs → lv_has ls 3 [(0, .ref (ad 799)), (1, .int z.2)] → W p l e { frames := 3, cells := 0, slots := 0, locals := 89 } s m args below meth c H locs 0 0 Q (F0 m 25 ls [])) (hI : x_I E A s.heap (mw E ad S) H locs) (hl : lv_has ls 3 [(0, .ref (ad 799)), (1, .int a1)]) (hf : f_X7_read_81 n rec25 S a1 = some r) : W p l e { frames := 3, cells := 0, slots := 0, locals := 89 } s m args below meth c H locs 0 0 Q (F0 m 81 ls []) := by
  obtain ⟨hx, hb, hml, hown, hts, hK, hN, hA⟩ := id hC
  unfold f_X7_read_81 at hf
  refine lv_goto (tgt := 25) hx hb dX7_read_81 (by decide) ?_
  exact hrec25 _ hf _ _ _ hI (lv_sub hl [0, 1] rfl)
def f_X7_read_25 (n : Nat) (rec25 : x_S × Int32 → Option (x_S)) (S : x_S) (a1 : Int32) : Option (x_S) :=
x_let (g_sc S 724) (fun v3 =>
if v3 ≤ 0 then
some S
else
x_let (g_sc S 724) (fun v4 =>
x_g (¬ ((v4 - (1 : Int32)) < 0 ∨ 200 ≤ ((v4 - (1 : Int32))).toNatClampNeg)) (x_let (g_ar S 725 ((v4 - (1 : Int32))).toNatClampNeg) (fun v5 =>
x_let (g_sc S 724) (fun v6 =>
x_g (¬ ((v6 - (1 : Int32)) < 0 ∨ 200 ≤ ((v6 - (1 : Int32))).toNatClampNeg)) (x_let (g_ar S 726 ((v6 - (1 : Int32))).toNatClampNeg) (fun v7 =>
if v7 ≤ v5 then
x_let (g_sc S 724) (fun v8 =>
x_let (s_sc S 724 (v8 - (1 : Int32))) (fun S =>
f_X7_read_81 n rec25 S a1))
else
x_b (f_X7_readAt n S ((60 : Int32) * a1) v5) (fun S =>
f_X7_read_81 n rec25 S a1))))))))
set_option maxHeartbeats 4000000 in
set_option maxRecDepth 100000 in
theorem w_X7_read_25 {r : x_S} {a1 : Int32} {rec25 : x_S × Int32 → Option (x_S)} (hC : x_C p s m args meth c cX7_read 3 RX7 E A) (hR : x_Rv p l e { frames := 3, cells := 0, slots := 0, locals := 89 } s m args below meth c cX7_read E A Q (mw E ad r)) (hrec25 : ∀ z : x_S × Int32, rec25 z = some r → ∀ (H : Heap) (locs : List Loc) (ls : Array Slot), x_I E A s.heap (mw E ad z.1) H locs → lv_has ls 3 [(0, .ref (ad 799)), (1, .int z.2)] → W p l e { frames := 3, cells := 0, slots := 0, locals := 89 } s m args below meth c H locs 0 0 Q (F0 m 25 ls [])) (hI : x_I E A s.heap (mw E ad S) H locs) (hl : lv_has ls 3 [(0, .ref (ad 799)), (1, .int a1)]) (hf : f_X7_read_25 n rec25 S a1 = some r) : W p l e { frames := 3, cells := 0, slots := 0, locals := 89 } s m args below meth c H locs 0 0 Q (F0 m 25 ls []) := by
  obtain ⟨hx, hb, hml, hown, hts, hK, hN, hA⟩ := id hC
  unfold f_X7_read_25 at hf
  refine lv_aload_n hx hb dX7_read_25 rfl (lv_at hl 0 rfl) ?_
  refine gX7_24 hC hI hf lkf_X7_157 dX7_read_26 (fun v3 hf => ?_)
  refine x_le0 hC 84 hf dX7_read_29 (by decide) (fun hf => ?_) (fun hf => ?_)
  · obtain rfl := Option.some.inj hf
    exact hR _ _ _ _ hI dX7_read_84
  · refine lv_aload_n hx hb dX7_read_32 rfl (lv_at hl 0 rfl) ?_
    refine gX7_25 hC hI lkf_X7_65 dX7_read_33 ?_
    refine lv_aload_n hx hb dX7_read_36 rfl (lv_at hl 0 rfl) ?_
    refine gX7_24 hC hI hf lkf_X7_157 dX7_read_37 (fun v4 hf => ?_)
    refine lv_iconst (v := (1 : Int32)) hx hb dX7_read_40 (by decide) ?_
    refine lv_isub hx hb dX7_read_41 ?_
    refine aX7_25 hC hI hf dX7_read_42 (fun v5 hf => ?_)
    refine lv_istore_n (lv' := [(2, .int v5), (0, .ref (ad 799)), (1, .int a1)]) hx hb dX7_read_43 rfl hl (by decide) rfl (fun ls hl => ?_)
    refine lv_iload_n hx hb dX7_read_44 rfl (lv_at hl 0 rfl) ?_
    refine lv_aload_n hx hb dX7_read_45 rfl (lv_at hl 1 rfl) ?_
    refine gX7_26 hC hI lkf_X7_68 dX7_read_46 ?_
    refine lv_aload_n hx hb dX7_read_49 rfl (lv_at hl 1 rfl) ?_
    refine gX7_24 hC hI hf lkf_X7_157 dX7_read_50 (fun v6 hf => ?_)
    refine lv_iconst (v := (1 : Int32)) hx hb dX7_read_53 (by decide) ?_
    refine lv_isub hx hb dX7_read_54 ?_
    refine aX7_26 hC hI hf dX7_read_55 (fun v7 hf => ?_)
    refine x_ige hC 71 hf dX7_read_56 (by decide) (fun hf => ?_) (fun hf => ?_)
    · refine lv_aload_n hx hb dX7_read_71 rfl (lv_at hl 1 rfl) ?_
      refine lv_dup hx hb dX7_read_72 rfl ?_
      refine gX7_24 hC hI hf lkf_X7_157 dX7_read_73 (fun v8 hf => ?_)
      refine lv_iconst (v := (1 : Int32)) hx hb dX7_read_76 (by decide) ?_
      refine lv_isub hx hb dX7_read_77 ?_
      refine pX7_24 hC hI hf lkf_X7_157 dX7_read_78 (fun S H locs hI hf => ?_)
      exact w_X7_read_81 hC hR hrec25 hI (lv_sub hl [1, 2] rfl) hf
    · refine lv_aload_n hx hb dX7_read_59 rfl (lv_at hl 1 rfl) ?_
      refine lv_bipush (v := (60 : Int32)) hx hb dX7_read_60 (by decide) ?_
      refine lv_iload_n hx hb dX7_read_62 rfl (lv_at hl 2 rfl) ?_
      refine lv_imul hx hb dX7_read_63 ?_
      refine lv_iload_n hx hb dX7_read_64 rfl (lv_at hl 0 rfl) ?_
      obtain ⟨S, hc9, hf⟩ := x_b_eq hf
      refine x_callV hC hI (c_X7_readAt hc9) 0 7 rfl rfl kv_X7_166 rfl ⟨Nat.le_of_ble_eq_true rfl, Nat.le_of_ble_eq_true rfl⟩ ⟨Nat.le_refl _, Nat.le_refl _⟩ hl.1 rfl (Nat.le_of_ble_eq_true rfl) dX7_read_65 (fun H locs hI => ?_)
      refine lv_goto (tgt := 81) hx hb dX7_read_68 (by decide) ?_
      exact w_X7_read_81 hC hR hrec25 hI (lv_sub hl [1, 2] rfl) hf
theorem w_X7_read_25_loop {r : x_S} (hC : x_C p s m args meth c cX7_read 3 RX7 E A) (hR : x_Rv p l e { frames := 3, cells := 0, slots := 0, locals := 89 } s m args below meth c cX7_read E A Q (mw E ad r)) : ∀ (k : Nat) (z : x_S × Int32), x_loop (fun rec z => f_X7_read_25 n rec z.1 z.2) k z = some r → ∀ (H : Heap) (locs : List Loc) (ls : Array Slot), x_I E A s.heap (mw E ad z.1) H locs → lv_has ls 3 [(0, .ref (ad 799)), (1, .int z.2)] → W p l e { frames := 3, cells := 0, slots := 0, locals := 89 } s m args below meth c H locs 0 0 Q (F0 m 25 ls []) :=
  x_loop_ind (P := fun (z : x_S × Int32) => ∀ (H : Heap) (locs : List Loc) (ls : Array Slot), x_I E A s.heap (mw E ad z.1) H locs → lv_has ls 3 [(0, .ref (ad 799)), (1, .int z.2)] → W p l e { frames := 3, cells := 0, slots := 0, locals := 89 } s m args below meth c H locs 0 0 Q (F0 m 25 ls [])) (fun rec hrec z hf H locs ls hI hl => w_X7_read_25 hC hR hrec hI hl hf)
def f_X7_read (n : Nat) (S : x_S) (a1 : Int32) : Option (x_S) :=
x_let (s_sc S 715 (0 : Int32)) (fun S =>
x_let (s_sc S 724 (0 : Int32)) (fun S =>
x_g (¬ (a1 < 0 ∨ 12 ≤ (a1).toNatClampNeg)) (x_let (g_ar S 701 (a1).toNatClampNeg) (fun v1 =>
x_b (f_X7_range n S (0 : Int32) v1 (-1 : Int32) (-1 : Int32) (-1 : Int32) (-1 : Int32)) (fun S =>
x_loop (fun rec z => f_X7_read_25 n rec z.1 z.2) n (S, a1))))))
set_option maxHeartbeats 4000000 in
set_option maxRecDepth 100000 in
theorem w_X7_read {r : x_S} {a1 : Int32} (hC : x_C p s m args meth c cX7_read 3 RX7 E A) (hR : x_Rv p l e { frames := 3, cells := 0, slots := 0, locals := 89 } s m args below meth c cX7_read E A Q (mw E ad r)) (hI : x_I E A s.heap (mw E ad S) H locs) (hl : lv_has ls 3 [(0, .ref (ad 799)), (1, .int a1)]) (hf : f_X7_read n S a1 = some r) : W p l e { frames := 3, cells := 0, slots := 0, locals := 89 } s m args below meth c H locs 0 0 Q (F0 m 0 ls []) := by
  obtain ⟨hx, hb, hml, hown, hts, hK, hN, hA⟩ := id hC
  unfold f_X7_read at hf
  refine lv_aload_n hx hb dX7_read_0 rfl (lv_at hl 0 rfl) ?_
  refine lv_iconst (v := (0 : Int32)) hx hb dX7_read_1 (by decide) ?_
  refine pX7_15 hC hI hf lkf_X7_160 dX7_read_2 (fun S H locs hI hf => ?_)
  refine lv_aload_n hx hb dX7_read_5 rfl (lv_at hl 0 rfl) ?_
  refine lv_iconst (v := (0 : Int32)) hx hb dX7_read_6 (by decide) ?_
  refine pX7_24 hC hI hf lkf_X7_157 dX7_read_7 (fun S H locs hI hf => ?_)
  refine lv_aload_n hx hb dX7_read_10 rfl (lv_at hl 0 rfl) ?_
  refine lv_iconst (v := (0 : Int32)) hx hb dX7_read_11 (by decide) ?_
  refine lv_aload_n hx hb dX7_read_12 rfl (lv_at hl 0 rfl) ?_
  refine gX7_1 hC hI lkf_X7_7 dX7_read_13 ?_
  refine lv_iload_n hx hb dX7_read_16 rfl (lv_at hl 1 rfl) ?_
  refine aX7_1 hC hI hf dX7_read_17 (fun v1 hf => ?_)
  refine lv_iconst (v := (-1 : Int32)) hx hb dX7_read_18 (by decide) ?_
  refine lv_iconst (v := (-1 : Int32)) hx hb dX7_read_19 (by decide) ?_
  refine lv_iconst (v := (-1 : Int32)) hx hb dX7_read_20 (by decide) ?_
  refine lv_iconst (v := (-1 : Int32)) hx hb dX7_read_21 (by decide) ?_
  obtain ⟨S, hc2, hf⟩ := x_b_eq hf
  refine x_callV hC hI (c_X7_range hc2) 0 7 rfl rfl kv_X7_163 rfl ⟨Nat.le_of_ble_eq_true rfl, Nat.le_of_ble_eq_true rfl⟩ ⟨Nat.le_refl _, Nat.le_refl _⟩ hl.1 rfl (Nat.le_of_ble_eq_true rfl) dX7_read_22 (fun H locs hI => ?_)
  exact w_X7_read_25_loop hC hR _ _ hf _ _ _ hI (lv_sub hl [0, 1] rfl)
theorem c_X7_read {a1 : Int32} {S1 : x_S} (hf : f_X7_read n S a1 = some S1) : x_M l yX7_read cX7_read 3 none 3 89 E [.ref (ad 799), .int a1] (mw E ad S) (mw E ad S1) none :=
  x_entV (by decide) (Nat.le_of_ble_eq_true rfl) (fun p e s m args below meth c A Q ls hC hI hR hl => w_X7_read (r := S1) hC hR hI hl hf)
end
