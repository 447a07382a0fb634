section
variable {p : Program} {l : Launch} {e : Env} {s : State} {m : MethodId} {args : Array Value} {below : List Frame} {meth : Method} {c : Code} {H : Heap} {locs : List Loc} {Q : State → Prop}
variable {E : x_E} {A : Nat → Prop} {ls : Array Slot} {ad : Nat → Nat} {ap : Nat → Nat → Nat} {S : x_S} {w : va_W} {n : Nat}
-- X3_perform
def f_X3_perform (n : Nat) (S : x_S) (a2 : Nat) (a3 : Int32) : Option (Int32 × x_S) :=
x_g (a2 < g_np S) (
x_g (a2 < g_np S) (x_g (¬ (a3 < 0 ∨ 60 ≤ (a3).toNatClampNeg)) (x_let (g_pa S 1 a2 (a3).toNatClampNeg) (fun v1 =>
x_g (a2 < g_np S) (
x_g (a2 < g_np S) (x_g (¬ (a3 < 0 ∨ 60 ≤ (a3).toNatClampNeg)) (x_let (g_pa S 2 a2 (a3).toNatClampNeg) (fun v2 =>
x_let (g_sc S 305) (fun v3 =>
x_g (¬ ((v3 - (1 : Int32)) < 0 ∨ 8 ≤ ((v3 - (1 : Int32))).toNatClampNeg)) (x_let (s_ar S 307 ((v3 - (1 : Int32))).toNatClampNeg (a3 + (1 : Int32))) (fun S =>
x_g (a2 < g_np S) (
x_g (a2 < g_np S) (x_g (¬ (a3 < 0 ∨ 60 ≤ (a3).toNatClampNeg)) (x_let (g_pa S 0 a2 (a3).toNatClampNeg) (fun v4 =>
if v4 = (0 : Int32) then
x_b2 (f_X3_say n S v1) (fun v6 S =>
some (v6, S))
else
if v4 = (1 : Int32) then
x_g (¬ (v1 < 0 ∨ 4 ≤ (v1).toNatClampNeg)) (x_let (g_ar S 304 (v1).toNatClampNeg) (fun v7 =>
x_g (¬ (v1 < 0 ∨ 4 ≤ (v1).toNatClampNeg)) (x_let (s_ar S 304 (v1).toNatClampNeg (v7 + v2)) (fun S =>
some ((-1 : Int32), S)))))
else
if v4 = (2 : Int32) then
x_let (g_sc S 305) (fun v8 =>
x_g (a2 < g_np S) (
x_g (a2 < g_np S) (x_g (¬ (a3 < 0 ∨ 60 ≤ (a3).toNatClampNeg)) (x_let (g_pa S 3 a2 (a3).toNatClampNeg) (fun v9 =>
x_g (¬ ((v8 - (1 : Int32)) < 0 ∨ 8 ≤ ((v8 - (1 : Int32))).toNatClampNeg)) (x_let (s_ar S 307 ((v8 - (1 : Int32))).toNatClampNeg v9) (fun S =>
some ((-1 : Int32), S))))))))
else
if v4 = (3 : Int32) then
x_g (¬ (v1 < 0 ∨ 4 ≤ (v1).toNatClampNeg)) (x_let (g_ar S 304 (v1).toNatClampNeg) (fun v10 =>
x_b (f_X3_holds n v10 v2) (fun v12 =>
if v12 = 0 then
some ((-1 : Int32), S)
else
x_let (g_sc S 305) (fun v13 =>
x_g (a2 < g_np S) (
x_g (a2 < g_np S) (x_g (¬ (a3 < 0 ∨ 60 ≤ (a3).toNatClampNeg)) (x_let (g_pa S 3 a2 (a3).toNatClampNeg) (fun v14 =>
x_g (¬ ((v13 - (1 : Int32)) < 0 ∨ 8 ≤ ((v13 - (1 : Int32))).toNatClampNeg)) (x_let (s_ar S 307 ((v13 - (1 : Int32))).toNatClampNeg v14) (fun S =>
some ((-1 : Int32), S)))))))))))
else
if v4 = (4 : Int32) then
x_let (g_sc S 305) (fun v15 =>
x_g (a2 < g_np S) (x_let (g_ps S 4 a2) (fun v16 =>
x_g (¬ ((v15 - (1 : Int32)) < 0 ∨ 8 ≤ ((v15 - (1 : Int32))).toNatClampNeg)) (x_let (s_ar S 307 ((v15 - (1 : Int32))).toNatClampNeg v16) (fun S =>
some ((-1 : Int32), S))))))
else
x_g (¬ (v1 < 0 ∨ 12 ≤ (v1).toNatClampNeg)) (x_let (g_ra S 600 (v1).toNatClampNeg) (fun o17 => x_o o17 (
x_b2 (f_X3_callOfN n S) (fun v20 S =>
some (v20, S))) (fun i18 =>
x_b2 (f_X3_callOf n S i18) (fun v22 S =>
some (v22, S))))))))))))))))))))
set_option maxHeartbeats 4000000 in
set_option maxRecDepth 100000 in
theorem w_X3_perform {r : Int32 × x_S} {a2 : Nat} {a3 : Int32} (hC : x_C p s m args meth c cX3_perform 6 RX3 E A) (hR : x_Ri p l e { frames := 2, cells := 0, slots := 0, locals := 42 } s m args below meth c cX3_perform E A Q (cw E ad ap r.2) r.1) (hI : x_I E A s.heap (cw E ad ap S) H locs) (hl : lv_has ls 6 [(0, .ref (ad 399)), (1, .ref (ad 600)), (2, .ref (ap a2 0)), (3, .int a3)]) (hf : f_X3_perform n S a2 a3 = some r) : W p l e { frames := 2, cells := 0, slots := 0, locals := 42 } s m args below meth c H locs 0 0 Q (F0 m 0 ls []) := by
  obtain ⟨hx, hb, hml, hown, hts, hK, hN, hA⟩ := id hC
  unfold f_X3_perform at hf
  refine lv_aload_n hx hb dX3_perform_0 rfl (lv_at hl 2 rfl) ?_
  refine gX2_1 hC hI hf lkf_X3_61 dX3_perform_1 (fun hf => ?_)
  refine lv_iload_n hx hb dX3_perform_4 rfl (lv_at hl 3 rfl) ?_
  refine aX2_1 hC hI hf dX3_perform_5 (fun v1 hf => ?_)
  refine lv_istore (lv' := [(4, .int v1), (0, .ref (ad 399)), (1, .ref (ad 600)), (2, .ref (ap a2 0)), (3, .int a3)]) hx hb dX3_perform_6 hl (by decide) rfl (fun ls hl => ?_)
  refine lv_aload_n hx hb dX3_perform_8 rfl (lv_at hl 3 rfl) ?_
  refine gX2_2 hC hI hf lkf_X3_64 dX3_perform_9 (fun hf => ?_)
  refine lv_iload_n hx hb dX3_perform_12 rfl (lv_at hl 4 rfl) ?_
  refine aX2_2 hC hI hf dX3_perform_13 (fun v2 hf => ?_)
  refine lv_istore (lv' := [(5, .int v2), (4, .int v1), (0, .ref (ad 399)), (1, .ref (ad 600)), (2, .ref (ap a2 0)), (3, .int a3)]) hx hb dX3_perform_14 hl (by decide) rfl (fun ls hl => ?_)
  refine lv_aload_n hx hb dX3_perform_16 rfl (lv_at hl 2 rfl) ?_
  refine gX3_7 hC hI lkf_X3_37 dX3_perform_17 ?_
  refine lv_aload_n hx hb dX3_perform_20 rfl (lv_at hl 2 rfl) ?_
  refine gX3_5 hC hI hf lkf_X3_28 dX3_perform_21 (fun v3 hf => ?_)
  refine lv_iconst (v := (1 : Int32)) hx hb dX3_perform_24 (by decide) ?_
  refine lv_isub hx hb dX3_perform_25 ?_
  refine lv_iload_n hx hb dX3_perform_26 rfl (lv_at hl 5 rfl) ?_
  refine lv_iconst (v := (1 : Int32)) hx hb dX3_perform_27 (by decide) ?_
  refine lv_iadd hx hb dX3_perform_28 ?_
  refine tX3_7 hC hI hf dX3_perform_29 (fun S H locs hI hf => ?_)
  refine lv_aload_n hx hb dX3_perform_30 rfl (lv_at hl 4 rfl) ?_
  refine gX2_0 hC hI hf lkf_X3_67 dX3_perform_31 (fun hf => ?_)
  refine lv_iload_n hx hb dX3_perform_34 rfl (lv_at hl 5 rfl) ?_
  refine aX2_0 hC hI hf dX3_perform_35 (fun v4 hf => ?_)
  refine x_case hf (fun q10 hf => ?_) (fun q10 hf => ?_)
  · refine lv_tableIn (tgt := 72) hx hb dX3_perform_36 (by rw [q10]; decide) (by rw [q10]; decide) (by rw [q10]; rfl) (by decide) ?_
    refine lv_aload_n hx hb dX3_perform_72 rfl (lv_at hl 2 rfl) ?_
    refine lv_iload hx hb dX3_perform_73 (lv_at hl 1 rfl) ?_
    obtain ⟨v6, S, hc5, hf⟩ := x_b2_eq hf
    refine x_callV hC hI (c_X3_say hc5) 3 3 rfl rfl kv_X3_70 rfl ⟨Nat.le_of_ble_eq_true rfl, Nat.le_of_ble_eq_true rfl⟩ ⟨Nat.le_refl _, Nat.le_refl _⟩ hl.1 rfl (Nat.le_of_ble_eq_true rfl) dX3_perform_75 (fun H locs hI => ?_)
    obtain rfl := Option.some.inj hf
    exact hR _ _ _ _ hI dX3_perform_78
  · refine x_case hf (fun q11 hf => ?_) (fun q11 hf => ?_)
    · refine lv_tableIn (tgt := 79) hx hb dX3_perform_36 (by rw [q11]; decide) (by rw [q11]; decide) (by rw [q11]; rfl) (by decide) ?_
      refine lv_aload_n hx hb dX3_perform_79 rfl (lv_at hl 2 rfl) ?_
      refine gX3_4 hC hI lkf_X3_25 dX3_perform_80 ?_
      refine lv_iload hx hb dX3_perform_83 (lv_at hl 1 rfl) ?_
      refine lv_dup2_11 hx hb dX3_perform_85 rfl rfl ?_
      refine aX3_4 hC hI hf dX3_perform_86 (fun v7 hf => ?_)
      refine lv_iload hx hb dX3_perform_87 (lv_at hl 0 rfl) ?_
      refine lv_iadd hx hb dX3_perform_89 ?_
      refine tX3_4 hC hI hf dX3_perform_90 (fun S H locs hI hf => ?_)
      refine lv_iconst (v := (-1 : Int32)) hx hb dX3_perform_91 (by decide) ?_
      obtain rfl := Option.some.inj hf
      exact hR _ _ _ _ hI dX3_perform_92
    · refine x_case hf (fun q12 hf => ?_) (fun q12 hf => ?_)
      · refine lv_tableIn (tgt := 93) hx hb dX3_perform_36 (by rw [q12]; decide) (by rw [q12]; decide) (by rw [q12]; rfl) (by decide) ?_
        refine lv_aload_n hx hb dX3_perform_93 rfl (lv_at hl 2 rfl) ?_
        refine gX3_7 hC hI lkf_X3_37 dX3_perform_94 ?_
        refine lv_aload_n hx hb dX3_perform_97 rfl (lv_at hl 2 rfl) ?_
        refine gX3_5 hC hI hf lkf_X3_28 dX3_perform_98 (fun v8 hf => ?_)
        refine lv_iconst (v := (1 : Int32)) hx hb dX3_perform_101 (by decide) ?_
        refine lv_isub hx hb dX3_perform_102 ?_
        refine lv_aload_n hx hb dX3_perform_103 rfl (lv_at hl 4 rfl) ?_
        refine gX2_3 hC hI hf lkf_X3_74 dX3_perform_104 (fun hf => ?_)
        refine lv_iload_n hx hb dX3_perform_107 rfl (lv_at hl 5 rfl) ?_
        refine aX2_3 hC hI hf dX3_perform_108 (fun v9 hf => ?_)
        refine tX3_7 hC hI hf dX3_perform_109 (fun S H locs hI hf => ?_)
        refine lv_iconst (v := (-1 : Int32)) hx hb dX3_perform_110 (by decide) ?_
        obtain rfl := Option.some.inj hf
        exact hR _ _ _ _ hI dX3_perform_111
      · refine x_case hf (fun q13 hf => ?_) (fun q13 hf => ?_)
        · refine lv_tableIn (tgt := 112) hx hb dX3_perform_36 (by rw [q13]; decide) (by rw [q13]; decide) (by rw [q13]; rfl) (by decide) ?_
          refine lv_aload_n hx hb dX3_perform_112 rfl (lv_at hl 2 rfl) ?_
          refine gX3_4 hC hI lkf_X3_25 dX3_perform_113 ?_
          refine lv_iload hx hb dX3_perform_116 (lv_at hl 1 rfl) ?_
          refine aX3_4 hC hI hf dX3_perform_118 (fun v10 hf => ?_)
          refine lv_iload hx hb dX3_perform_119 (lv_at hl 0 rfl) ?_
          obtain ⟨v12, hc11, hf⟩ := x_b_eq hf
          refine x_callS hC hI (c_X3_holds hc11) ks_X3_77 rfl ⟨Nat.le_of_ble_eq_true rfl, Nat.le_of_ble_eq_true rfl⟩ ⟨Nat.le_refl _, Nat.le_refl _⟩ hl.1 rfl (Nat.le_of_ble_eq_true rfl) dX3_perform_121 (fun H locs hI => ?_)
          refine x_eq0 hC 144 hf dX3_perform_124 (by decide) (fun hf => ?_) (fun hf => ?_)
          · refine lv_iconst (v := (-1 : Int32)) hx hb dX3_perform_144 (by decide) ?_
            obtain rfl := Option.some.inj hf
            exact hR _ _ _ _ hI dX3_perform_145
          · refine lv_aload_n hx hb dX3_perform_127 rfl (lv_at hl 2 rfl) ?_
            refine gX3_7 hC hI lkf_X3_37 dX3_perform_128 ?_
            refine lv_aload_n hx hb dX3_perform_131 rfl (lv_at hl 2 rfl) ?_
            refine gX3_5 hC hI hf lkf_X3_28 dX3_perform_132 (fun v13 hf => ?_)
            refine lv_iconst (v := (1 : Int32)) hx hb dX3_perform_135 (by decide) ?_
            refine lv_isub hx hb dX3_perform_136 ?_
            refine lv_aload_n hx hb dX3_perform_137 rfl (lv_at hl 4 rfl) ?_
            refine gX2_3 hC hI hf lkf_X3_74 dX3_perform_138 (fun hf => ?_)
            refine lv_iload_n hx hb dX3_perform_141 rfl (lv_at hl 5 rfl) ?_
            refine aX2_3 hC hI hf dX3_perform_142 (fun v14 hf => ?_)
            refine tX3_7 hC hI hf dX3_perform_143 (fun S H locs hI hf => ?_)
            refine lv_iconst (v := (-1 : Int32)) hx hb dX3_perform_144 (by decide) ?_
            obtain rfl := Option.some.inj hf
            exact hR _ _ _ _ hI dX3_perform_145
        · refine x_case hf (fun q14 hf => ?_) (fun q14 hf => ?_)
          · refine lv_tableIn (tgt := 146) hx hb dX3_perform_36 (by rw [q14]; decide) (by rw [q14]; decide) (by rw [q14]; rfl) (by decide) ?_
            refine lv_aload_n hx hb dX3_perform_146 rfl (lv_at hl 2 rfl) ?_
            refine gX3_7 hC hI lkf_X3_37 dX3_perform_147 ?_
            refine lv_aload_n hx hb dX3_perform_150 rfl (lv_at hl 2 rfl) ?_
            refine gX3_5 hC hI hf lkf_X3_28 dX3_perform_151 (fun v15 hf => ?_)
            refine lv_iconst (v := (1 : Int32)) hx hb dX3_perform_154 (by decide) ?_
            refine lv_isub hx hb dX3_perform_155 ?_
            refine lv_aload_n hx hb dX3_perform_156 rfl (lv_at hl 4 rfl) ?_
            refine gX2_4 hC hI hf lkf_X3_54 dX3_perform_157 (fun v16 hf => ?_)
            refine tX3_7 hC hI hf dX3_perform_160 (fun S H locs hI hf => ?_)
            refine lv_iconst (v := (-1 : Int32)) hx hb dX3_perform_161 (by decide) ?_
            obtain rfl := Option.some.inj hf
            exact hR _ _ _ _ hI dX3_perform_162
          · refine lv_tableOut (tgt := 163) hx hb dX3_perform_36 (by have z10 := lv_neT (a := 0) q10 (by decide); have z11 := lv_neT (a := 1) q11 (by decide); have z12 := lv_neT (a := 2) q12 (by decide); have z13 := lv_neT (a := 3) q13 (by decide); have z14 := lv_neT (a := 4) q14 (by decide); omega) (by decide) ?_
            refine lv_aload_n hx hb dX3_perform_163 rfl (lv_at hl 2 rfl) ?_
            refine lv_aload_n hx hb dX3_perform_164 rfl (lv_at hl 3 rfl) ?_
            refine lv_iload hx hb dX3_perform_165 (lv_at hl 1 rfl) ?_
            refine aX6_0 hC hI hf dX3_perform_167 (fun o17 hf => ?_)
            refine x_casesR hf (fun hf => ?_) (fun i18 hf => ?_)
            · obtain ⟨v20, S, hc19, hf⟩ := x_b2_eq hf
              refine x_callV hC hI (c_X3_callOfN hc19) 3 3 rfl rfl kv_X3_81 rfl ⟨Nat.le_of_ble_eq_true rfl, Nat.le_of_ble_eq_true rfl⟩ ⟨Nat.le_refl _, Nat.le_refl _⟩ hl.1 rfl (Nat.le_of_ble_eq_true rfl) dX3_perform_168 (fun H locs hI => ?_)
              obtain rfl := Option.some.inj hf
              exact hR _ _ _ _ hI dX3_perform_171
            · obtain ⟨v22, S, hc21, hf⟩ := x_b2_eq hf
              refine x_callV hC hI (c_X3_callOf hc21) 3 3 rfl rfl kv_X3_81 rfl ⟨Nat.le_of_ble_eq_true rfl, Nat.le_of_ble_eq_true rfl⟩ ⟨Nat.le_refl _, Nat.le_refl _⟩ hl.1 rfl (Nat.le_of_ble_eq_true rfl) dX3_perform_168 (fun H locs hI => ?_)
              obtain rfl := Option.some.inj hf
              exact hR _ _ _ _ hI dX3_perform_171
theorem c_X3_perform {a2 : Nat} {a3 : Int32} {v : Int32} {S1 : x_S} (hf : f_X3_perform n S a2 a3 = some (v, S1)) : x_M l yX3_perform cX3_perform 6 (some .int) 2 42 E [.ref (ad 399), .ref (ad 600), .ref (ap a2 0), .int a3] (cw E ad ap S) (cw E ad ap S1) (some (.int v)) :=
  x_entI (by decide) (Nat.le_of_ble_eq_true rfl) (fun p e s m args below meth c A Q ls hC hI hR hl => w_X3_perform (r := (v, S1)) hC hR hI hl hf)
-- X3_turn
def f_X3_turn (n : Nat) (S : x_S) (a2 : Int32) : Option (Int32 × x_S) :=
x_let (g_sc S 305) (fun v1 =>
if v1 = 0 then
some ((0 : Int32), S)
else
x_let (g_sc S 305) (fun v2 =>
x_g (¬ ((v2 - (1 : Int32)) < 0 ∨ 8 ≤ ((v2 - (1 : Int32))).toNatClampNeg)) (x_let (g_ra S 306 ((v2 - (1 : Int32))).toNatClampNeg) (fun o3 => x_o o3 (
x_let (g_sc S 305) (fun v5 =>
x_g (¬ ((v5 - (1 : Int32)) < 0 ∨ 8 ≤ ((v5 - (1 : Int32))).toNatClampNeg)) (x_let (g_ar S 307 ((v5 - (1 : Int32))).toNatClampNeg) (fun v6 =>
none)))) (fun i4 =>
x_let (g_sc S 305) (fun v7 =>
x_g (¬ ((v7 - (1 : Int32)) < 0 ∨ 8 ≤ ((v7 - (1 : Int32))).toNatClampNeg)) (x_let (g_ar S 307 ((v7 - (1 : Int32))).toNatClampNeg) (fun v8 =>
x_g (i4 < g_np S) (x_let (g_ps S 4 i4) (fun v9 =>
if v8 < v9 then
x_let (g_sc S 300) (fun v10 =>
if v10 < a2 then
x_let (g_sc S 300) (fun v11 =>
x_let (s_sc S 300 (v11 + (1 : Int32))) (fun S =>
x_b2 (f_X3_perform n S i4 v8) (fun v13 S =>
some (v13, S))))
else
some ((1 : Int32), S))
else
x_let (g_sc S 305) (fun v14 =>
x_let (s_sc S 305 (v14 - (1 : Int32))) (fun S =>
some ((-1 : Int32), S)))))))))))))
set_option maxHeartbeats 4000000 in
set_option maxRecDepth 100000 in
theorem w_X3_turn {r : Int32 × x_S} {a2 : Int32} (hC : x_C p s m args meth c cX3_turn 5 RX3 E A) (hR : x_Ri p l e { frames := 3, cells := 0, slots := 0, locals := 67 } s m args below meth c cX3_turn E A Q (cw E ad ap r.2) r.1) (hI : x_I E A s.heap (cw E ad ap S) H locs) (hl : lv_has ls 5 [(0, .ref (ad 399)), (1, .ref (ad 600)), (2, .int a2)]) (hf : f_X3_turn n S a2 = some r) : W p l e { frames := 3, cells := 0, slots := 0, locals := 67 } s m args below meth c H locs 0 0 Q (F0 m 0 ls []) := by
  obtain ⟨hx, hb, hml, hown, hts, hK, hN, hA⟩ := id hC
  unfold f_X3_turn at hf
  refine lv_aload_n hx hb dX3_turn_0 rfl (lv_at hl 0 rfl) ?_
  refine gX3_5 hC hI hf lkf_X3_28 dX3_turn_1 (fun v1 hf => ?_)
  refine x_ne0 hC 9 hf dX3_turn_4 (by decide) (fun hf => ?_) (fun hf => ?_)
  · refine lv_aload_n hx hb dX3_turn_9 rfl (lv_at hl 0 rfl) ?_
    refine gX3_6 hC hI lkf_X3_33 dX3_turn_10 ?_
    refine lv_aload_n hx hb dX3_turn_13 rfl (lv_at hl 0 rfl) ?_
    refine gX3_5 hC hI hf lkf_X3_28 dX3_turn_14 (fun v2 hf => ?_)
    refine lv_iconst (v := (1 : Int32)) hx hb dX3_turn_17 (by decide) ?_
    refine lv_isub hx hb dX3_turn_18 ?_
    refine aX3_6 hC hI hf dX3_turn_19 (fun o3 hf => ?_)
    refine x_casesR hf (fun hf => ?_) (fun i4 hf => ?_)
    · refine lv_astore_nN (lv' := [(3, .null), (0, .ref (ad 399)), (1, .ref (ad 600)), (2, .int a2)]) hx hb dX3_turn_20 rfl hl (by decide) rfl (fun ls hl => ?_)
      refine lv_aload_n hx hb dX3_turn_21 rfl (lv_at hl 1 rfl) ?_
      refine gX3_7 hC hI lkf_X3_37 dX3_turn_22 ?_
      refine lv_aload_n hx hb dX3_turn_25 rfl (lv_at hl 1 rfl) ?_
      refine gX3_5 hC hI hf lkf_X3_28 dX3_turn_26 (fun v5 hf => ?_)
      refine lv_iconst (v := (1 : Int32)) hx hb dX3_turn_29 (by decide) ?_
      refine lv_isub hx hb dX3_turn_30 ?_
      refine aX3_7 hC hI hf dX3_turn_31 (fun v6 hf => ?_)
      refine lv_istore (lv' := [(4, .int v6), (3, .null), (0, .ref (ad 399)), (1, .ref (ad 600)), (2, .int a2)]) hx hb dX3_turn_32 hl (by decide) rfl (fun ls hl => ?_)
      refine lv_iload hx hb dX3_turn_34 (lv_at hl 0 rfl) ?_
      refine lv_aload_nN hx hb dX3_turn_36 rfl (lv_at hl 1 rfl) ?_
      cases hf
    · refine lv_astore_n (lv' := [(3, .ref (ap i4 0)), (0, .ref (ad 399)), (1, .ref (ad 600)), (2, .int a2)]) hx hb dX3_turn_20 rfl hl (by decide) rfl (fun ls hl => ?_)
      refine lv_aload_n hx hb dX3_turn_21 rfl (lv_at hl 1 rfl) ?_
      refine gX3_7 hC hI lkf_X3_37 dX3_turn_22 ?_
      refine lv_aload_n hx hb dX3_turn_25 rfl (lv_at hl 1 rfl) ?_
      refine gX3_5 hC hI hf lkf_X3_28 dX3_turn_26 (fun v7 hf => ?_)
      refine lv_iconst (v := (1 : Int32)) hx hb dX3_turn_29 (by decide) ?_
      refine lv_isub hx hb dX3_turn_30 ?_
      refine aX3_7 hC hI hf dX3_turn_31 (fun v8 hf => ?_)
      refine lv_istore (lv' := [(4, .int v8), (3, .ref (ap i4 0)), (0, .ref (ad 399)), (1, .ref (ad 600)), (2, .int a2)]) hx hb dX3_turn_32 hl (by decide) rfl (fun ls hl => ?_)
      refine lv_iload hx hb dX3_turn_34 (lv_at hl 0 rfl) ?_
      refine lv_aload_n hx hb dX3_turn_36 rfl (lv_at hl 1 rfl) ?_
      refine gX2_4 hC hI hf lkf_X3_54 dX3_turn_37 (fun v9 hf => ?_)
      refine x_ilt hC 55 hf dX3_turn_40 (by decide) (fun hf => ?_) (fun hf => ?_)
      · refine lv_aload_n hx hb dX3_turn_55 rfl (lv_at hl 2 rfl) ?_
        refine gX3_0 hC hI hf lkf_X3_9 dX3_turn_56 (fun v10 hf => ?_)
        refine lv_iload_n hx hb dX3_turn_59 rfl (lv_at hl 4 rfl) ?_
        refine x_ilt hC 65 hf dX3_turn_60 (by decide) (fun hf => ?_) (fun hf => ?_)
        · refine lv_aload_n hx hb dX3_turn_65 rfl (lv_at hl 2 rfl) ?_
          refine lv_dup hx hb dX3_turn_66 rfl ?_
          refine gX3_0 hC hI hf lkf_X3_9 dX3_turn_67 (fun v11 hf => ?_)
          refine lv_iconst (v := (1 : Int32)) hx hb dX3_turn_70 (by decide) ?_
          refine lv_iadd hx hb dX3_turn_71 ?_
          refine pX3_0 hC hI hf lkf_X3_9 dX3_turn_72 (fun S H locs hI hf => ?_)
          refine lv_aload_n hx hb dX3_turn_75 rfl (lv_at hl 2 rfl) ?_
          refine lv_aload_n hx hb dX3_turn_76 rfl (lv_at hl 3 rfl) ?_
          refine lv_aload_n hx hb dX3_turn_77 rfl (lv_at hl 1 rfl) ?_
          refine lv_iload hx hb dX3_turn_78 (lv_at hl 0 rfl) ?_
          obtain ⟨v13, S, hc12, hf⟩ := x_b2_eq hf
          refine x_callV hC hI (c_X3_perform hc12) 3 3 rfl rfl kv_X3_57 rfl ⟨Nat.le_of_ble_eq_true rfl, Nat.le_of_ble_eq_true rfl⟩ ⟨Nat.le_refl _, Nat.le_refl _⟩ hl.1 rfl (Nat.le_of_ble_eq_true rfl) dX3_turn_80 (fun H locs hI => ?_)
          obtain rfl := Option.some.inj hf
          exact hR _ _ _ _ hI dX3_turn_83
        · refine lv_iconst (v := (1 : Int32)) hx hb dX3_turn_63 (by decide) ?_
          obtain rfl := Option.some.inj hf
          exact hR _ _ _ _ hI dX3_turn_64
      · refine lv_aload_n hx hb dX3_turn_43 rfl (lv_at hl 2 rfl) ?_
        refine lv_dup hx hb dX3_turn_44 rfl ?_
        refine gX3_5 hC hI hf lkf_X3_28 dX3_turn_45 (fun v14 hf => ?_)
        refine lv_iconst (v := (1 : Int32)) hx hb dX3_turn_48 (by decide) ?_
        refine lv_isub hx hb dX3_turn_49 ?_
        refine pX3_5 hC hI hf lkf_X3_28 dX3_turn_50 (fun S H locs hI hf => ?_)
        refine lv_iconst (v := (-1 : Int32)) hx hb dX3_turn_53 (by decide) ?_
        obtain rfl := Option.some.inj hf
        exact hR _ _ _ _ hI dX3_turn_54
  · refine lv_iconst (v := (0 : Int32)) hx hb dX3_turn_7 (by decide) ?_
    obtain rfl := Option.some.inj hf
    exact hR _ _ _ _ hI dX3_turn_8
theorem c_X3_turn {a2 : Int32} {v : Int32} {S1 : x_S} (hf : f_X3_turn n S a2 = some (v, S1)) : x_M l yX3_turn cX3_turn 5 (some .int) 3 67 E [.ref (ad 399), .ref (ad 600), .int a2] (cw E ad ap S) (cw E ad ap S1) (some (.int v)) :=
  x_entI (by decide) (Nat.le_of_ble_eq_true rfl) (fun p e s m args below meth c A Q ls hC hI hR hl => w_X3_turn (r := (v, S1)) hC hR hI hl hf)
-- X3_start
def f_X3_start_42 (n : Nat) (rec42 : x_S × Int32 × Int32 × Int32 → Option (Int32 × x_S)) (S : x_S) (a4 : Int32) (a5 : Int32) (a6 : Int32) : Option (Int32 × x_S) :=
if (20003 : Int32) ≤ a6 then
some (a5, S)
else
if a5 = (-1 : Int32) then
x_b2 (f_X3_turn n S a4) (fun v3 S =>
rec42 (S, a4, v3, (a6 + (1 : Int32))))
else
some (a5, S)
set_option maxHeartbeats 4000000 in
set_option maxRecDepth 100000 in
theorem w_X3_start_42 {r : Int32 × x_S} {a4 : Int32} {a5 : Int32} {a6 : Int32} {rec42 : x_S × Int32 × Int32 × Int32 → Option (Int32 × x_S)} (hC : x_C p s m args meth c cX3_start 7 RX3 E A) (hR : x_Ri p l e { frames := 4, cells := 0, slots := 0, locals := 91 } s m args below meth c cX3_start E A Q (cw E ad ap r.2) r.1) (hrec42 : ∀ z : x_S × Int32 × Int32 × Int32, rec42 z = some r → ∀ (H : Heap) (locs : List Loc) (ls : Array Slot), x_I E A s.heap (cw E ad ap z.1) H locs → lv_has ls 7 [(0, .ref (ad 399)), (1, .ref (ad 600)), (4, .int z.2.1), (5, .int z.2.2.1), (6, .int z.2.2.2)] → W p l e { frames := 4, cells := 0, slots := 0, locals := 91 } s m args below meth c H locs 0 0 Q (F0 m 42 ls [])) (hI : x_I E A s.heap (cw E ad ap S) H locs) (hl : lv_has ls 7 [(0, .ref (ad 399)), (1, .ref (ad 600)), (4, .int a4), (5, .int a5), (6, .int a6)]) (hf : f_X3_start_42 n rec42 S a4 a5 a6 = some r) : W p l e { frames := 4, cells := 0, slots := 0, locals := 91 } s m args below meth c H locs 0 0 Q (F0 m 42 ls []) := by
  obtain ⟨hx, hb, hml, hown, hts, hK, hN, hA⟩ := id hC
  unfold f_X3_start_42 at hf
  refine lv_iload hx hb dX3_start_42 (lv_at hl 4 rfl) ?_
  refine lv_sipush (v := (20003 : Int32)) hx hb dX3_start_44 (by decide) ?_
  refine x_ige hC 71 hf dX3_start_47 (by decide) (fun hf => ?_) (fun hf => ?_)
  · refine lv_iload hx hb dX3_start_71 (lv_at hl 3 rfl) ?_
    obtain rfl := Option.some.inj hf
    exact hR _ _ _ _ hI dX3_start_73
  · refine lv_iload hx hb dX3_start_50 (lv_at hl 3 rfl) ?_
    refine lv_iconst (v := (-1 : Int32)) hx hb dX3_start_52 (by decide) ?_
    refine x_ine hC 71 hf dX3_start_53 (by decide) (fun hf => ?_) (fun hf => ?_)
    · refine lv_iload hx hb dX3_start_71 (lv_at hl 3 rfl) ?_
      obtain rfl := Option.some.inj hf
      exact hR _ _ _ _ hI dX3_start_73
    · refine lv_aload_n hx hb dX3_start_56 rfl (lv_at hl 0 rfl) ?_
      refine lv_aload_n hx hb dX3_start_57 rfl (lv_at hl 1 rfl) ?_
      refine lv_iload hx hb dX3_start_58 (lv_at hl 2 rfl) ?_
      obtain ⟨v3, S, hc2, hf⟩ := x_b2_eq hf
      refine x_callV hC hI (c_X3_turn hc2) 3 3 rfl rfl kv_X3_50 rfl ⟨Nat.le_of_ble_eq_true rfl, Nat.le_of_ble_eq_true rfl⟩ ⟨Nat.le_refl _, Nat.le_refl _⟩ hl.1 rfl (Nat.le_of_ble_eq_true rfl) dX3_start_60 (fun H locs hI => ?_)
      refine lv_istore (lv' := [(5, .int v3), (0, .ref (ad 399)), (1, .ref (ad 600)), (4, .int a4), (6, .int a6)]) hx hb dX3_start_63 hl (by decide) rfl (fun ls hl => ?_)
      refine lv_iinc (v := (a6 + (1 : Int32))) (lv' := [(6, .int (a6 + (1 : Int32))), (5, .int v3), (0, .ref (ad 399)), (1, .ref (ad 600)), (4, .int a4)]) hx hb dX3_start_65 hl (k := 4) rfl rfl (by decide) rfl (fun ls hl => ?_)
      refine lv_goto (tgt := 42) hx hb dX3_start_68 (by decide) ?_
      exact hrec42 _ hf _ _ _ hI (lv_sub hl [2, 3, 4, 1, 0] rfl)
theorem w_X3_start_42_loop {r : Int32 × x_S} (hC : x_C p s m args meth c cX3_start 7 RX3 E A) (hR : x_Ri p l e { frames := 4, cells := 0, slots := 0, locals := 91 } s m args below meth c cX3_start E A Q (cw E ad ap r.2) r.1) : ∀ (k : Nat) (z : x_S × Int32 × Int32 × Int32), x_loop (fun rec z => f_X3_start_42 n rec z.1 z.2.1 z.2.2.1 z.2.2.2) k z = some r → ∀ (H : Heap) (locs : List Loc) (ls : Array Slot), x_I E A s.heap (cw E ad ap z.1) H locs → lv_has ls 7 [(0, .ref (ad 399)), (1, .ref (ad 600)), (4, .int z.2.1), (5, .int z.2.2.1), (6, .int z.2.2.2)] → W p l e { frames := 4, cells := 0, slots := 0, locals := 91 } s m args below meth c H locs 0 0 Q (F0 m 42 ls []) :=
  x_loop_ind (P := fun (z : x_S × Int32 × Int32 × Int32) => ∀ (H : Heap) (locs : List Loc) (ls : Array Slot), x_I E A s.heap (cw E ad ap z.1) H locs → lv_has ls 7 [(0, .ref (ad 399)), (1, .ref (ad 600)), (4, .int z.2.1), (5, .int z.2.2.1), (6, .int z.2.2.2)] → W p l e { frames := 4, cells := 0, slots := 0, locals := 91 } s m args below meth c H locs 0 0 Q (F0 m 42 ls [])) (fun rec hrec z hf H locs ls hI hl => w_X3_start_42 hC hR hrec hI hl hf)
def f_X3_start (n : Nat) (S : x_S) (a2 : Nat) (a4 : Int32) : Option (Int32 × x_S) :=
x_let (s_sc S 300 (0 : Int32)) (fun S =>
x_let (s_sc S 301 (0 : Int32)) (fun S =>
x_let (s_sc S 302 (0 : Int32)) (fun S =>
x_g (¬ (0 : Int32) < 0 ∧ ¬ (0 : Int32) < 0 ∧ ¬ (4 : Int32) < 0 ∧ ((0 : Int32)).toNatClampNeg + ((4 : Int32)).toNatClampNeg ≤ 4 ∧ ((0 : Int32)).toNatClampNeg + ((4 : Int32)).toNatClampNeg ≤ 4) (x_let (s_cp S 609 304 (0 : Int32) (0 : Int32) (4 : Int32)) (fun S =>
x_let (s_sc S 305 (0 : Int32)) (fun S =>
x_b (f_X3_enter n S a2) (fun S =>
x_loop (fun rec z => f_X3_start_42 n rec z.1 z.2.1 z.2.2.1 z.2.2.2) n (S, a4, (-1 : Int32), (0 : Int32)))))))))
set_option maxHeartbeats 4000000 in
set_option maxRecDepth 100000 in
theorem w_X3_start {r : Int32 × x_S} {a2 : Nat} {a4 : Int32} (hC : x_C p s m args meth c cX3_start 7 RX3 E A) (hR : x_Ri p l e { frames := 4, cells := 0, slots := 0, locals := 91 } s m args below meth c cX3_start E A Q (cw E ad ap r.2) r.1) (hI : x_I E A s.heap (cw E ad ap S) H locs) (hl : lv_has ls 7 [(0, .ref (ad 399)), (1, .ref (ad 600)), (2, .ref (ap a2 0)), (3, .ref (ad 609)), (4, .int a4)]) (hf : f_X3_start n S a2 a4 = some r) : W p l e { frames := 4, cells := 0, slots := 0, locals := 91 } s m args below meth c H locs 0 0 Q (F0 m 0 ls []) := by
  obtain ⟨hx, hb, hml, hown, hts, hK, hN, hA⟩ := id hC
  unfold f_X3_start at hf
  refine lv_aload_n hx hb dX3_start_0 rfl (lv_at hl 0 rfl) ?_
  refine lv_iconst (v := (0 : Int32)) hx hb dX3_start_1 (by decide) ?_
  refine pX3_0 hC hI hf lkf_X3_9 dX3_start_2 (fun S H locs hI hf => ?_)
  refine lv_aload_n hx hb dX3_start_5 rfl (lv_at hl 0 rfl) ?_
  refine lv_iconst (v := (0 : Int32)) hx hb dX3_start_6 (by decide) ?_
  refine pX3_1 hC hI hf lkf_X3_15 dX3_start_7 (fun S H locs hI hf => ?_)
  refine lv_aload_n hx hb dX3_start_10 rfl (lv_at hl 0 rfl) ?_
  refine lv_iconst (v := (0 : Int32)) hx hb dX3_start_11 (by decide) ?_
  refine pX3_2 hC hI hf lkf_X3_18 dX3_start_12 (fun S H locs hI hf => ?_)
  refine lv_aload_n hx hb dX3_start_15 rfl (lv_at hl 3 rfl) ?_
  refine lv_iconst (v := (0 : Int32)) hx hb dX3_start_16 (by decide) ?_
  refine lv_aload_n hx hb dX3_start_17 rfl (lv_at hl 0 rfl) ?_
  refine gX3_4 hC hI lkf_X3_25 dX3_start_18 ?_
  refine lv_iconst (v := (0 : Int32)) hx hb dX3_start_21 (by decide) ?_
  refine lv_iconst (v := (4 : Int32)) hx hb dX3_start_22 (by decide) ?_
  refine x_cp_609_304 hC hl.1 hI hf lkj_X3_40 lkj_cp_na lkj_cp_st lkj_cp_in ⟨Nat.le_of_ble_eq_true rfl, Nat.le_of_ble_eq_true rfl⟩ dX3_start_23 (fun S H locs hI hf => ?_)
  refine lv_aload_n hx hb dX3_start_26 rfl (lv_at hl 0 rfl) ?_
  refine lv_iconst (v := (0 : Int32)) hx hb dX3_start_27 (by decide) ?_
  refine pX3_5 hC hI hf lkf_X3_28 dX3_start_28 (fun S H locs hI hf => ?_)
  refine lv_aload_n hx hb dX3_start_31 rfl (lv_at hl 0 rfl) ?_
  refine lv_aload_n hx hb dX3_start_32 rfl (lv_at hl 2 rfl) ?_
  obtain ⟨S, hc1, hf⟩ := x_b_eq hf
  refine x_callV hC hI (c_X3_enter hc1) 3 3 rfl rfl kv_X3_46 rfl ⟨Nat.le_of_ble_eq_true rfl, Nat.le_of_ble_eq_true rfl⟩ ⟨Nat.le_refl _, Nat.le_refl _⟩ hl.1 rfl (Nat.le_of_ble_eq_true rfl) dX3_start_33 (fun H locs hI => ?_)
  refine lv_iconst (v := (-1 : Int32)) hx hb dX3_start_36 (by decide) ?_
  refine lv_istore (lv' := [(5, .int (-1 : Int32)), (0, .ref (ad 399)), (1, .ref (ad 600)), (2, .ref (ap a2 0)), (3, .ref (ad 609)), (4, .int a4)]) hx hb dX3_start_37 hl (by decide) rfl (fun ls hl => ?_)
  refine lv_iconst (v := (0 : Int32)) hx hb dX3_start_39 (by decide) ?_
  refine lv_istore (lv' := [(6, .int (0 : Int32)), (5, .int (-1 : Int32)), (0, .ref (ad 399)), (1, .ref (ad 600)), (2, .ref (ap a2 0)), (3, .ref (ad 609)), (4, .int a4)]) hx hb dX3_start_40 hl (by decide) rfl (fun ls hl => ?_)
  exact w_X3_start_42_loop hC hR _ _ hf _ _ _ hI (lv_sub hl [2, 3, 6, 1, 0] rfl)
theorem c_X3_start {a2 : Nat} {a4 : Int32} {v : Int32} {S1 : x_S} (hf : f_X3_start n S a2 a4 = some (v, S1)) : x_M l yX3_start cX3_start 7 (some .int) 4 91 E [.ref (ad 399), .ref (ad 600), .ref (ap a2 0), .ref (ad 609), .int a4] (cw E ad ap S) (cw E ad ap S1) (some (.int v)) :=
  x_entI (by decide) (Nat.le_of_ble_eq_true rfl) (fun p e s m args below meth c A Q ls hC hI hR hl => w_X3_start (r := (v, S1)) hC hR hI hl hf)
-- X6_run
def f_X6_run (n : Nat) (S : x_S) (a1 : Int32) (a2 : Int32) : Option (Int32 × x_S) :=
x_b2 (f_X6_find n S a1) (fun o2 S => x_o o2 (
some ((-2 : Int32), S)) (fun i3 =>
if a2 < 0 then
some ((-2 : Int32), S)
else
if a2 ≤ (10000 : Int32) then
x_g (i3 < g_np S) (x_let (g_ps S 5 i3) (fun v4 =>
if v4 = 0 then
some ((-3 : Int32), S)
else
x_b2 (f_X3_start n S i3 a2) (fun v6 S =>
some (v6, S))))
else
some ((-2 : Int32), S)))
set_option maxHeartbeats 4000000 in
set_option maxRecDepth 100000 in
theorem w_X6_run {r : Int32 × x_S} {a1 : Int32} {a2 : Int32} (hC : x_C p s m args meth c cX6_run 4 RX6 E A) (hR : x_Ri p l e { frames := 5, cells := 0, slots := 0, locals := 117 } s m args below meth c cX6_run E A Q (cw E ad ap r.2) r.1) (hI : x_I E A s.heap (cw E ad ap S) H locs) (hl : lv_has ls 4 [(0, .ref (ad 699)), (1, .int a1), (2, .int a2)]) (hf : f_X6_run n S a1 a2 = some r) : W p l e { frames := 5, cells := 0, slots := 0, locals := 117 } s m args below meth c H locs 0 0 Q (F0 m 0 ls []) := by
  obtain ⟨hx, hb, hml, hown, hts, hK, hN, hA⟩ := id hC
  unfold f_X6_run at hf
  refine lv_aload_n hx hb dX6_run_0 rfl (lv_at hl 0 rfl) ?_
  refine lv_iload_n hx hb dX6_run_1 rfl (lv_at hl 1 rfl) ?_
  obtain ⟨o2, S, hc1, hf⟩ := x_b2_eq hf
  refine x_callV hC hI (c_X6_find hc1) 0 6 rfl rfl kv_X6_68 rfl ⟨Nat.le_of_ble_eq_true rfl, Nat.le_of_ble_eq_true rfl⟩ ⟨Nat.le_refl _, Nat.le_refl _⟩ hl.1 rfl (Nat.le_of_ble_eq_true rfl) dX6_run_2 (fun H locs hI => ?_)
  refine x_casesR hf (fun hf => ?_) (fun i3 hf => ?_)
  · refine lv_astore_nN (lv' := [(3, .null), (0, .ref (ad 699)), (1, .int a1), (2, .int a2)]) hx hb dX6_run_5 rfl hl (by decide) rfl (fun ls hl => ?_)
    refine lv_aload_nN hx hb dX6_run_6 rfl (lv_at hl 0 rfl) ?_
    refine lv_ifnullN (tgt := 21) hx hb dX6_run_7 (by decide) ?_
    refine lv_bipush (v := (-2 : Int32)) hx hb dX6_run_21 (by decide) ?_
    obtain rfl := Option.some.inj hf
    exact hR _ _ _ _ hI dX6_run_23
  · refine lv_astore_n (lv' := [(3, .ref (ap i3 0)), (0, .ref (ad 699)), (1, .int a1), (2, .int a2)]) hx hb dX6_run_5 rfl hl (by decide) rfl (fun ls hl => ?_)
    refine lv_aload_n hx hb dX6_run_6 rfl (lv_at hl 0 rfl) ?_
    refine lv_ifnull hx hb dX6_run_7 ?_
    refine lv_iload_n hx hb dX6_run_10 rfl (lv_at hl 3 rfl) ?_
    refine x_lt0 hC 21 hf dX6_run_11 (by decide) (fun hf => ?_) (fun hf => ?_)
    · refine lv_bipush (v := (-2 : Int32)) hx hb dX6_run_21 (by decide) ?_
      obtain rfl := Option.some.inj hf
      exact hR _ _ _ _ hI dX6_run_23
    · refine lv_iload_n hx hb dX6_run_14 rfl (lv_at hl 3 rfl) ?_
      refine lv_sipush (v := (10000 : Int32)) hx hb dX6_run_15 (by decide) ?_
      refine x_ile hC 24 hf dX6_run_18 (by decide) (fun hf => ?_) (fun hf => ?_)
      · refine lv_aload_n hx hb dX6_run_24 rfl (lv_at hl 0 rfl) ?_
        refine gX2_5 hC hI hf lkf_X6_99 dX6_run_25 (fun v4 hf => ?_)
        refine x_ne0 hC 34 hf dX6_run_28 (by decide) (fun hf => ?_) (fun hf => ?_)
        · refine lv_aload_n hx hb dX6_run_34 rfl (lv_at hl 1 rfl) ?_
          refine gX6_10 hC hI lkf_X6_59 dX6_run_35 ?_
          refine lv_aload_n hx hb dX6_run_38 rfl (lv_at hl 1 rfl) ?_
          refine gX6_0 hC hI lkf_X6_11 dX6_run_39 ?_
          refine lv_aload_n hx hb dX6_run_42 rfl (lv_at hl 0 rfl) ?_
          refine lv_aload_n hx hb dX6_run_43 rfl (lv_at hl 1 rfl) ?_
          refine gX6_9 hC hI lkf_X6_53 dX6_run_44 ?_
          refine lv_iload_n hx hb dX6_run_47 rfl (lv_at hl 3 rfl) ?_
          obtain ⟨v6, S, hc5, hf⟩ := x_b2_eq hf
          refine x_callV hC hI (c_X3_start hc5) 3 3 rfl rfl kv_X6_172 rfl ⟨Nat.le_of_ble_eq_true rfl, Nat.le_of_ble_eq_true rfl⟩ ⟨Nat.le_refl _, Nat.le_refl _⟩ hl.1 rfl (Nat.le_of_ble_eq_true rfl) dX6_run_48 (fun H locs hI => ?_)
          obtain rfl := Option.some.inj hf
          exact hR _ _ _ _ hI dX6_run_51
        · refine lv_bipush (v := (-3 : Int32)) hx hb dX6_run_31 (by decide) ?_
          obtain rfl := Option.some.inj hf
          exact hR _ _ _ _ hI dX6_run_33
      · refine lv_bipush (v := (-2 : Int32)) hx hb dX6_run_21 (by decide) ?_
        obtain rfl := Option.some.inj hf
        exact hR _ _ _ _ hI dX6_run_23
theorem c_X6_run {a1 : Int32} {a2 : Int32} {v : Int32} {S1 : x_S} (hf : f_X6_run n S a1 a2 = some (v, S1)) : x_M l yX6_run cX6_run 4 (some .int) 5 117 E [.ref (ad 699), .int a1, .int a2] (cw E ad ap S) (cw E ad ap S1) (some (.int v)) :=
  x_entI (by decide) (Nat.le_of_ble_eq_true rfl) (fun p e s m args below meth c A Q ls hC hI hR hl => w_X6_run (r := (v, S1)) hC hR hI hl hf)
-- X6_ran
def f_X6_ran_72 (n : Nat) (S : x_S) (a1 : Int32) : Option (Int32 × x_S) :=
x_g (¬ ((a1 - (4 : Int32)) < 0 ∨ 4 ≤ ((a1 - (4 : Int32))).toNatClampNeg)) (x_let (g_ar S 304 ((a1 - (4 : Int32))).toNatClampNeg) (fun v4 =>
some (v4, S)))
set_option maxHeartbeats 4000000 in
set_option maxRecDepth 100000 in
theorem w_X6_ran_72 {r : Int32 × x_S} {a1 : Int32} (hC : x_C p s m args meth c cX6_ran 2 RX6 E A) (hR : x_Ri p l e { frames := 0, cells := 0, slots := 0, locals := 0 } s m args below meth c cX6_ran E A Q (cw E ad ap r.2) r.1) (hI : x_I E A s.heap (cw E ad ap S) H locs) (hl : lv_has ls 2 [(0, .ref (ad 699)), (1, .int a1)]) (hf : f_X6_ran_72 n S a1 = some r) : W p l e { frames := 0, cells := 0, slots := 0, locals := 0 } s m args below meth c H locs 0 0 Q (F0 m 72 ls []) := by
  obtain ⟨hx, hb, hml, hown, hts, hK, hN, hA⟩ := id hC
  unfold f_X6_ran_72 at hf
  refine lv_aload_n hx hb dX6_ran_72 rfl (lv_at hl 0 rfl) ?_
  refine gX6_10 hC hI lkf_X6_59 dX6_ran_73 ?_
  refine gX3_4 hC hI lkf_X6_185 dX6_ran_76 ?_
  refine lv_iload_n hx hb dX6_ran_79 rfl (lv_at hl 1 rfl) ?_
  refine lv_iconst (v := (4 : Int32)) hx hb dX6_ran_80 (by decide) ?_
  refine lv_isub hx hb dX6_ran_81 ?_
  refine aX3_4 hC hI hf dX6_ran_82 (fun v4 hf => ?_)
  obtain rfl := Option.some.inj hf
  exact hR _ _ _ _ hI dX6_ran_83
def f_X6_ran (n : Nat) (S : x_S) (a1 : Int32) : Option (Int32 × x_S) :=
if a1 = (0 : Int32) then
x_let (g_sc S 300) (fun v1 =>
some (v1, S))
else
if a1 = (1 : Int32) then
x_let (g_sc S 302) (fun v2 =>
some (v2, S))
else
if a1 = (2 : Int32) then
x_let (g_sc S 301) (fun v3 =>
some (v3, S))
else
if a1 = (3 : Int32) then
some ((-2 : Int32), S)
else
if a1 = (4 : Int32) then
f_X6_ran_72 n S a1
else
if a1 = (5 : Int32) then
f_X6_ran_72 n S a1
else
if a1 = (6 : Int32) then
f_X6_ran_72 n S a1
else
if a1 = (7 : Int32) then
f_X6_ran_72 n S a1
else
some ((-2 : Int32), S)
set_option maxHeartbeats 4000000 in
set_option maxRecDepth 100000 in
theorem w_X6_ran {r : Int32 × x_S} {a1 : Int32} (hC : x_C p s m args meth c cX6_ran 2 RX6 E A) (hR : x_Ri p l e { frames := 0, cells := 0, slots := 0, locals := 0 } s m args below meth c cX6_ran E A Q (cw E ad ap r.2) r.1) (hI : x_I E A s.heap (cw E ad ap S) H locs) (hl : lv_has ls 2 [(0, .ref (ad 699)), (1, .int a1)]) (hf : f_X6_ran n S a1 = some r) : W p l e { frames := 0, cells := 0, slots := 0, locals := 0 } s m args below meth c H locs 0 0 Q (F0 m 0 ls []) := by
  obtain ⟨hx, hb, hml, hown, hts, hK, hN, hA⟩ := id hC
  unfold f_X6_ran at hf
  refine lv_iload_n hx hb dX6_ran_0 rfl (lv_at hl 1 rfl) ?_
  refine x_case hf (fun q10 hf => ?_) (fun q10 hf => ?_)
  · refine lv_tableIn (tgt := 48) hx hb dX6_ran_1 (by rw [q10]; decide) (by rw [q10]; decide) (by rw [q10]; rfl) (by decide) ?_
    refine lv_aload_n hx hb dX6_ran_48 rfl (lv_at hl 0 rfl) ?_
    refine gX6_10 hC hI lkf_X6_59 dX6_ran_49 ?_
    refine gX3_0 hC hI hf lkf_X6_176 dX6_ran_52 (fun v1 hf => ?_)
    obtain rfl := Option.some.inj hf
    exact hR _ _ _ _ hI dX6_ran_55
  · refine x_case hf (fun q11 hf => ?_) (fun q11 hf => ?_)
    · refine lv_tableIn (tgt := 56) hx hb dX6_ran_1 (by rw [q11]; decide) (by rw [q11]; decide) (by rw [q11]; rfl) (by decide) ?_
      refine lv_aload_n hx hb dX6_ran_56 rfl (lv_at hl 0 rfl) ?_
      refine gX6_10 hC hI lkf_X6_59 dX6_ran_57 ?_
      refine gX3_2 hC hI hf lkf_X6_179 dX6_ran_60 (fun v2 hf => ?_)
      obtain rfl := Option.some.inj hf
      exact hR _ _ _ _ hI dX6_ran_63
    · refine x_case hf (fun q12 hf => ?_) (fun q12 hf => ?_)
      · refine lv_tableIn (tgt := 64) hx hb dX6_ran_1 (by rw [q12]; decide) (by rw [q12]; decide) (by rw [q12]; rfl) (by decide) ?_
        refine lv_aload_n hx hb dX6_ran_64 rfl (lv_at hl 0 rfl) ?_
        refine gX6_10 hC hI lkf_X6_59 dX6_ran_65 ?_
        refine gX3_1 hC hI hf lkf_X6_182 dX6_ran_68 (fun v3 hf => ?_)
        obtain rfl := Option.some.inj hf
        exact hR _ _ _ _ hI dX6_ran_71
      · refine x_case hf (fun q13 hf => ?_) (fun q13 hf => ?_)
        · refine lv_tableIn (tgt := 84) hx hb dX6_ran_1 (by rw [q13]; decide) (by rw [q13]; decide) (by rw [q13]; rfl) (by decide) ?_
          refine lv_bipush (v := (-2 : Int32)) hx hb dX6_ran_84 (by decide) ?_
          obtain rfl := Option.some.inj hf
          exact hR _ _ _ _ hI dX6_ran_86
        · refine x_case hf (fun q14 hf => ?_) (fun q14 hf => ?_)
          · refine lv_tableIn (tgt := 72) hx hb dX6_ran_1 (by rw [q14]; decide) (by rw [q14]; decide) (by rw [q14]; rfl) (by decide) ?_
            exact w_X6_ran_72 hC hR hI (lv_sub hl [0, 1] rfl) hf
          · refine x_case hf (fun q15 hf => ?_) (fun q15 hf => ?_)
            · refine lv_tableIn (tgt := 72) hx hb dX6_ran_1 (by rw [q15]; decide) (by rw [q15]; decide) (by rw [q15]; rfl) (by decide) ?_
              exact w_X6_ran_72 hC hR hI (lv_sub hl [0, 1] rfl) hf
            · refine x_case hf (fun q16 hf => ?_) (fun q16 hf => ?_)
              · refine lv_tableIn (tgt := 72) hx hb dX6_ran_1 (by rw [q16]; decide) (by rw [q16]; decide) (by rw [q16]; rfl) (by decide) ?_
                exact w_X6_ran_72 hC hR hI (lv_sub hl [0, 1] rfl) hf
              · refine x_case hf (fun q17 hf => ?_) (fun q17 hf => ?_)
                · refine lv_tableIn (tgt := 72) hx hb dX6_ran_1 (by rw [q17]; decide) (by rw [q17]; decide) (by rw [q17]; rfl) (by decide) ?_
                  exact w_X6_ran_72 hC hR hI (lv_sub hl [0, 1] rfl) hf
                · refine lv_tableOut (tgt := 84) hx hb dX6_ran_1 (by have z10 := lv_neT (a := 0) q10 (by decide); have z11 := lv_neT (a := 1) q11 (by decide); have z12 := lv_neT (a := 2) q12 (by decide); have z13 := lv_neT (a := 3) q13 (by decide); have z14 := lv_neT (a := 4) q14 (by decide); have z15 := lv_neT (a := 5) q15 (by decide); have z16 := lv_neT (a := 6) q16 (by decide); have z17 := lv_neT (a := 7) q17 (by decide); omega) (by decide) ?_
                  refine lv_bipush (v := (-2 : Int32)) hx hb dX6_ran_84 (by decide) ?_
                  obtain rfl := Option.some.inj hf
                  exact hR _ _ _ _ hI dX6_ran_86
theorem c_X6_ran {a1 : Int32} {v : Int32} {S1 : x_S} (hf : f_X6_ran n S a1 = some (v, S1)) : x_M l yX6_ran cX6_ran 2 (some .int) 0 0 E [.ref (ad 699), .int a1] (cw E ad ap S) (cw E ad ap S1) (some (.int v)) :=
  x_entI (by decide) (Nat.le_of_ble_eq_true rfl) (fun p e s m args below meth c A Q ls hC hI hR hl => w_X6_ran (r := (v, S1)) hC hR hI hl hf)
-- X6_out
def f_X6_out (n : Nat) (S : x_S) (a1 : Int32) : Option (Int32 × x_S) :=
if a1 < 0 then
some ((-2 : Int32), S)
else
x_let (g_sc S 302) (fun v1 =>
if a1 < v1 then
x_g (¬ (a1 < 0 ∨ 200 ≤ (a1).toNatClampNeg)) (x_let (g_ar S 303 (a1).toNatClampNeg) (fun v2 =>
some (v2, S)))
else
some ((-2 : Int32), S))
set_option maxHeartbeats 4000000 in
set_option maxRecDepth 100000 in
theorem w_X6_out {r : Int32 × x_S} {a1 : Int32} (hC : x_C p s m args meth c cX6_out 2 RX6 E A) (hR : x_Ri p l e { frames := 0, cells := 0, slots := 0, locals := 0 } s m args below meth c cX6_out E A Q (cw E ad ap r.2) r.1) (hI : x_I E A s.heap (cw E ad ap S) H locs) (hl : lv_has ls 2 [(0, .ref (ad 699)), (1, .int a1)]) (hf : f_X6_out n S a1 = some r) : W p l e { frames := 0, cells := 0, slots := 0, locals := 0 } s m args below meth c H locs 0 0 Q (F0 m 0 ls []) := by
  obtain ⟨hx, hb, hml, hown, hts, hK, hN, hA⟩ := id hC
  unfold f_X6_out at hf
  refine lv_iload_n hx hb dX6_out_0 rfl (lv_at hl 1 rfl) ?_
  refine x_lt0 hC 15 hf dX6_out_1 (by decide) (fun hf => ?_) (fun hf => ?_)
  · refine lv_bipush (v := (-2 : Int32)) hx hb dX6_out_15 (by decide) ?_
    refine lv_goto (tgt := 29) hx hb dX6_out_17 (by decide) ?_
    obtain rfl := Option.some.inj hf
    exact hR _ _ _ _ hI dX6_out_29
  · refine lv_iload_n hx hb dX6_out_4 rfl (lv_at hl 1 rfl) ?_
    refine lv_aload_n hx hb dX6_out_5 rfl (lv_at hl 0 rfl) ?_
    refine gX6_10 hC hI lkf_X6_59 dX6_out_6 ?_
    refine gX3_2 hC hI hf lkf_X6_179 dX6_out_9 (fun v1 hf => ?_)
    refine x_ilt hC 20 hf dX6_out_12 (by decide) (fun hf => ?_) (fun hf => ?_)
    · refine lv_aload_n hx hb dX6_out_20 rfl (lv_at hl 0 rfl) ?_
      refine gX6_10 hC hI lkf_X6_59 dX6_out_21 ?_
      refine gX3_3 hC hI lkf_X6_188 dX6_out_24 ?_
      refine lv_iload_n hx hb dX6_out_27 rfl (lv_at hl 1 rfl) ?_
      refine aX3_3 hC hI hf dX6_out_28 (fun v2 hf => ?_)
      obtain rfl := Option.some.inj hf
      exact hR _ _ _ _ hI dX6_out_29
    · refine lv_bipush (v := (-2 : Int32)) hx hb dX6_out_15 (by decide) ?_
      refine lv_goto (tgt := 29) hx hb dX6_out_17 (by decide) ?_
      obtain rfl := Option.some.inj hf
      exact hR _ _ _ _ hI dX6_out_29
theorem c_X6_out {a1 : Int32} {v : Int32} {S1 : x_S} (hf : f_X6_out n S a1 = some (v, S1)) : x_M l yX6_out cX6_out 2 (some .int) 0 0 E [.ref (ad 699), .int a1] (cw E ad ap S) (cw E ad ap S1) (some (.int v)) :=
  x_entI (by decide) (Nat.le_of_ble_eq_true rfl) (fun p e s m args below meth c A Q ls hC hI hR hl => w_X6_out (r := (v, S1)) hC hR hI hl hf)
-- X7_in
def f_X7_in (n : Nat) (a0 : Int32) (a1 : Int32) (a2 : Int32) : Option (Int32) :=
if a0 < a1 then
x_g ((0 : Int32) = 0 ∨ (0 : Int32) = 1) (some (0 : Int32))
else
if a2 < a0 then
x_g ((0 : Int32) = 0 ∨ (0 : Int32) = 1) (some (0 : Int32))
else
x_g ((1 : Int32) = 0 ∨ (1 : Int32) = 1) (some (1 : Int32))
set_option maxHeartbeats 4000000 in
set_option maxRecDepth 100000 in
theorem w_X7_in {r : Int32} {a0 : Int32} {a1 : Int32} {a2 : Int32} (hC : x_C p s m args meth c cX7_in 3 RX7 E A) (hR : x_Rz p l e { frames := 0, cells := 0, slots := 0, locals := 0 } s m args below meth c cX7_in E A Q w r) (hI : x_I E A s.heap w H locs) (hl : lv_has ls 3 [(0, .int a0), (1, .int a1), (2, .int a2)]) (hf : f_X7_in n a0 a1 a2 = some r) : W p l e { frames := 0, cells := 0, slots := 0, locals := 0 } s m args below meth c H locs 0 0 Q (F0 m 0 ls []) := by
  obtain ⟨hx, hb, hml, hown, hts, hK, hN, hA⟩ := id hC
  unfold f_X7_in at hf
  refine lv_iload_n hx hb dX7_in_0 rfl (lv_at hl 0 rfl) ?_
  refine lv_iload_n hx hb dX7_in_1 rfl (lv_at hl 1 rfl) ?_
  refine x_ilt hC 14 hf dX7_in_2 (by decide) (fun hf => ?_) (fun hf => ?_)
  · refine lv_iconst (v := (0 : Int32)) hx hb dX7_in_14 (by decide) ?_
    obtain ⟨h9, hf⟩ := x_g_eq hf
    obtain rfl := Option.some.inj hf
    exact hR _ _ _ _ h9 hI dX7_in_15
  · refine lv_iload_n hx hb dX7_in_5 rfl (lv_at hl 0 rfl) ?_
    refine lv_iload_n hx hb dX7_in_6 rfl (lv_at hl 2 rfl) ?_
    refine x_igt hC 14 hf dX7_in_7 (by decide) (fun hf => ?_) (fun hf => ?_)
    · refine lv_iconst (v := (0 : Int32)) hx hb dX7_in_14 (by decide) ?_
      obtain ⟨h9, hf⟩ := x_g_eq hf
      obtain rfl := Option.some.inj hf
      exact hR _ _ _ _ h9 hI dX7_in_15
    · refine lv_iconst (v := (1 : Int32)) hx hb dX7_in_10 (by decide) ?_
      refine lv_goto (tgt := 15) hx hb dX7_in_11 (by decide) ?_
      obtain ⟨h9, hf⟩ := x_g_eq hf
      obtain rfl := Option.some.inj hf
      exact hR _ _ _ _ h9 hI dX7_in_15
theorem c_X7_in {a0 : Int32} {a1 : Int32} {a2 : Int32} {v : Int32} (hf : f_X7_in n a0 a1 a2 = some v) : x_M l yX7_in cX7_in 3 (some .boolean) 0 0 E [.int a0, .int a1, .int a2] w w (some (.int v)) :=
  x_entZ (by decide) (Nat.le_of_ble_eq_true rfl) (fun p e s m args below meth c A Q ls hC hI hR hl => w_X7_in (r := v) hC hR hI hl hf)
-- X7_isRoutine
def f_X7_isRoutine (n : Nat) (S : x_S) (a1 : Int32) : Option (Int32 × x_S) :=
x_let (g_sc S 700) (fun v1 =>
x_b (f_X7_in n a1 (0 : Int32) (v1 - (1 : Int32))) (fun v3 =>
x_g (v3 = 0 ∨ v3 = 1) (some (v3, S))))
set_option maxHeartbeats 4000000 in
set_option maxRecDepth 100000 in
theorem w_X7_isRoutine {r : Int32 × x_S} {a1 : Int32} (hC : x_C p s m args meth c cX7_isRoutine 2 RX7 E A) (hR : x_Rz p l e { frames := 1, cells := 0, slots := 0, locals := 22 } s m args below meth c cX7_isRoutine E A Q (mw E ad r.2) r.1) (hI : x_I E A s.heap (mw E ad S) H locs) (hl : lv_has ls 2 [(0, .ref (ad 799)), (1, .int a1)]) (hf : f_X7_isRoutine n S a1 = some r) : W p l e { frames := 1, cells := 0, slots := 0, locals := 22 } s m args below meth c H locs 0 0 Q (F0 m 0 ls []) := by
  obtain ⟨hx, hb, hml, hown, hts, hK, hN, hA⟩ := id hC
  unfold f_X7_isRoutine at hf
  refine lv_iload_n hx hb dX7_isRoutine_0 rfl (lv_at hl 1 rfl) ?_
  refine lv_iconst (v := (0 : Int32)) hx hb dX7_isRoutine_1 (by decide) ?_
  refine lv_aload_n hx hb dX7_isRoutine_2 rfl (lv_at hl 0 rfl) ?_
  refine gX7_0 hC hI hf lkf_X7_135 dX7_isRoutine_3 (fun v1 hf => ?_)
  refine lv_iconst (v := (1 : Int32)) hx hb dX7_isRoutine_6 (by decide) ?_
  refine lv_isub hx hb dX7_isRoutine_7 ?_
  obtain ⟨v3, hc2, hf⟩ := x_b_eq hf
  refine x_callS hC hI (c_X7_in hc2) ks_X7_138 rfl ⟨Nat.le_of_ble_eq_true rfl, Nat.le_of_ble_eq_true rfl⟩ ⟨Nat.le_refl _, Nat.le_refl _⟩ hl.1 rfl (Nat.le_of_ble_eq_true rfl) dX7_isRoutine_8 (fun H locs hI => ?_)
  obtain ⟨h9, hf⟩ := x_g_eq hf
  obtain rfl := Option.some.inj hf
  exact hR _ _ _ _ h9 hI dX7_isRoutine_11
theorem c_X7_isRoutine {a1 : Int32} {v : Int32} {S1 : x_S} (hf : f_X7_isRoutine n S a1 = some (v, S1)) : x_M l yX7_isRoutine cX7_isRoutine 2 (some .boolean) 1 22 E [.ref (ad 799), .int a1] (mw E ad S) (mw E ad S1) (some (.int v)) :=
  x_entZ (by decide) (Nat.le_of_ble_eq_true rfl) (fun p e s m args below meth c A Q ls hC hI hR hl => w_X7_isRoutine (r := (v, S1)) hC hR hI hl hf)
-- X7_isAct
def f_X7_isAct (n : Nat) (a0 : Int32) (a1 : Int32) (a2 : Int32) (a3 : Int32) : Option (Int32) :=
if a0 = (0 : Int32) then
x_g ((1 : Int32) = 0 ∨ (1 : Int32) = 1) (some (1 : Int32))
else
if a0 = (1 : Int32) then
x_b (f_X7_in n a1 (0 : Int32) (3 : Int32)) (fun v2 =>
x_g (v2 = 0 ∨ v2 = 1) (some v2))
else
if a0 = (2 : Int32) then
x_b (f_X7_in n a3 (0 : Int32) (60 : Int32)) (fun v4 =>
x_g (v4 = 0 ∨ v4 = 1) (some v4))
else
if a0 = (3 : Int32) then
x_b (f_X7_in n a1 (0 : Int32) (3 : Int32)) (fun v6 =>
if v6 = 0 then
x_g ((0 : Int32) = 0 ∨ (0 : Int32) = 1) (some (0 : Int32))
else
x_b (f_X7_in n a2 (0 : Int32) (5 : Int32)) (fun v8 =>
if v8 = 0 then
x_g ((0 : Int32) = 0 ∨ (0 : Int32) = 1) (some (0 : Int32))
else
x_b (f_X7_in n a3 (0 : Int32) (60 : Int32)) (fun v10 =>
if v10 = 0 then
x_g ((0 : Int32) = 0 ∨ (0 : Int32) = 1) (some (0 : Int32))
else
x_g ((1 : Int32) = 0 ∨ (1 : Int32) = 1) (some (1 : Int32)))))
else
if a0 = (4 : Int32) then
x_g ((1 : Int32) = 0 ∨ (1 : Int32) = 1) (some (1 : Int32))
else
if a0 = (5 : Int32) then
x_b (f_X7_in n a1 (0 : Int32) (11 : Int32)) (fun v12 =>
if v12 = 0 then
x_g ((0 : Int32) = 0 ∨ (0 : Int32) = 1) (some (0 : Int32))
else
x_g ((1 : Int32) = 0 ∨ (1 : Int32) = 1) (some (1 : Int32)))
else
x_g ((0 : Int32) = 0 ∨ (0 : Int32) = 1) (some (0 : Int32))
set_option maxHeartbeats 4000000 in
set_option maxRecDepth 100000 in
theorem w_X7_isAct {r : Int32} {a0 : Int32} {a1 : Int32} {a2 : Int32} {a3 : Int32} (hC : x_C p s m args meth c cX7_isAct 4 RX7 E A) (hR : x_Rz p l e { frames := 1, cells := 0, slots := 0, locals := 22 } s m args below meth c cX7_isAct E A Q w r) (hI : x_I E A s.heap w H locs) (hl : lv_has ls 4 [(0, .int a0), (1, .int a1), (2, .int a2), (3, .int a3)]) (hf : f_X7_isAct n a0 a1 a2 a3 = some r) : W p l e { frames := 1, cells := 0, slots := 0, locals := 22 } s m args below meth c H locs 0 0 Q (F0 m 0 ls []) := by
  obtain ⟨hx, hb, hml, hown, hts, hK, hN, hA⟩ := id hC
  unfold f_X7_isAct at hf
  refine lv_iload_n hx hb dX7_isAct_0 rfl (lv_at hl 0 rfl) ?_
  refine x_case hf (fun q10 hf => ?_) (fun q10 hf => ?_)
  · refine lv_tableIn (tgt := 36) hx hb dX7_isAct_1 (by rw [q10]; decide) (by rw [q10]; decide) (by rw [q10]; rfl) (by decide) ?_
    refine lv_iconst (v := (1 : Int32)) hx hb dX7_isAct_36 (by decide) ?_
    obtain ⟨h9, hf⟩ := x_g_eq hf
    obtain rfl := Option.some.inj hf
    exact hR _ _ _ _ h9 hI dX7_isAct_37
  · refine x_case hf (fun q11 hf => ?_) (fun q11 hf => ?_)
    · refine lv_tableIn (tgt := 38) hx hb dX7_isAct_1 (by rw [q11]; decide) (by rw [q11]; decide) (by rw [q11]; rfl) (by decide) ?_
      refine lv_iload_n hx hb dX7_isAct_38 rfl (lv_at hl 1 rfl) ?_
      refine lv_iconst (v := (0 : Int32)) hx hb dX7_isAct_39 (by decide) ?_
      refine lv_iconst (v := (3 : Int32)) hx hb dX7_isAct_40 (by decide) ?_
      obtain ⟨v2, hc1, hf⟩ := x_b_eq hf
      refine x_callS hC hI (c_X7_in hc1) ks_X7_138 rfl ⟨Nat.le_of_ble_eq_true rfl, Nat.le_of_ble_eq_true rfl⟩ ⟨Nat.le_refl _, Nat.le_refl _⟩ hl.1 rfl (Nat.le_of_ble_eq_true rfl) dX7_isAct_41 (fun H locs hI => ?_)
      obtain ⟨h9, hf⟩ := x_g_eq hf
      obtain rfl := Option.some.inj hf
      exact hR _ _ _ _ h9 hI dX7_isAct_44
    · refine x_case hf (fun q12 hf => ?_) (fun q12 hf => ?_)
      · refine lv_tableIn (tgt := 45) hx hb dX7_isAct_1 (by rw [q12]; decide) (by rw [q12]; decide) (by rw [q12]; rfl) (by decide) ?_
        refine lv_iload_n hx hb dX7_isAct_45 rfl (lv_at hl 3 rfl) ?_
        refine lv_iconst (v := (0 : Int32)) hx hb dX7_isAct_46 (by decide) ?_
        refine lv_bipush (v := (60 : Int32)) hx hb dX7_isAct_47 (by decide) ?_
        obtain ⟨v4, hc3, hf⟩ := x_b_eq hf
        refine x_callS hC hI (c_X7_in hc3) ks_X7_138 rfl ⟨Nat.le_of_ble_eq_true rfl, Nat.le_of_ble_eq_true rfl⟩ ⟨Nat.le_refl _, Nat.le_refl _⟩ hl.1 rfl (Nat.le_of_ble_eq_true rfl) dX7_isAct_49 (fun H locs hI => ?_)
        obtain ⟨h9, hf⟩ := x_g_eq hf
        obtain rfl := Option.some.inj hf
        exact hR _ _ _ _ h9 hI dX7_isAct_52
      · refine x_case hf (fun q13 hf => ?_) (fun q13 hf => ?_)
        · refine lv_tableIn (tgt := 53) hx hb dX7_isAct_1 (by rw [q13]; decide) (by rw [q13]; decide) (by rw [q13]; rfl) (by decide) ?_
          refine lv_iload_n hx hb dX7_isAct_53 rfl (lv_at hl 1 rfl) ?_
          refine lv_iconst (v := (0 : Int32)) hx hb dX7_isAct_54 (by decide) ?_
          refine lv_iconst (v := (3 : Int32)) hx hb dX7_isAct_55 (by decide) ?_
          obtain ⟨v6, hc5, hf⟩ := x_b_eq hf
          refine x_callS hC hI (c_X7_in hc5) ks_X7_138 rfl ⟨Nat.le_of_ble_eq_true rfl, Nat.le_of_ble_eq_true rfl⟩ ⟨Nat.le_refl _, Nat.le_refl _⟩ hl.1 rfl (Nat.le_of_ble_eq_true rfl) dX7_isAct_56 (fun H locs hI => ?_)
          refine x_eq0 hC 85 hf dX7_isAct_59 (by decide) (fun hf => ?_) (fun hf => ?_)
          · refine lv_iconst (v := (0 : Int32)) hx hb dX7_isAct_85 (by decide) ?_
            obtain ⟨h9, hf⟩ := x_g_eq hf
            obtain rfl := Option.some.inj hf
            exact hR _ _ _ _ h9 hI dX7_isAct_86
          · refine lv_iload_n hx hb dX7_isAct_62 rfl (lv_at hl 2 rfl) ?_
            refine lv_iconst (v := (0 : Int32)) hx hb dX7_isAct_63 (by decide) ?_
            refine lv_iconst (v := (5 : Int32)) hx hb dX7_isAct_64 (by decide) ?_
            obtain ⟨v8, hc7, hf⟩ := x_b_eq hf
            refine x_callS hC hI (c_X7_in hc7) ks_X7_138 rfl ⟨Nat.le_of_ble_eq_true rfl, Nat.le_of_ble_eq_true rfl⟩ ⟨Nat.le_refl _, Nat.le_refl _⟩ hl.1 rfl (Nat.le_of_ble_eq_true rfl) dX7_isAct_65 (fun H locs hI => ?_)
            refine x_eq0 hC 85 hf dX7_isAct_68 (by decide) (fun hf => ?_) (fun hf => ?_)
            · refine lv_iconst (v := (0 : Int32)) hx hb dX7_isAct_85 (by decide) ?_
              obtain ⟨h9, hf⟩ := x_g_eq hf
              obtain rfl := Option.some.inj hf
              exact hR _ _ _ _ h9 hI dX7_isAct_86
            · refine lv_iload_n hx hb dX7_isAct_71 rfl (lv_at hl 3 rfl) ?_
              refine lv_iconst (v := (0 : Int32)) hx hb dX7_isAct_72 (by decide) ?_
              refine lv_bipush (v := (60 : Int32)) hx hb dX7_isAct_73 (by decide) ?_
              obtain ⟨v10, hc9, hf⟩ := x_b_eq hf
              refine x_callS hC hI (c_X7_in hc9) ks_X7_138 rfl ⟨Nat.le_of_ble_eq_true rfl, Nat.le_of_ble_eq_true rfl⟩ ⟨Nat.le_refl _, Nat.le_refl _⟩ hl.1 rfl (Nat.le_of_ble_eq_true rfl) dX7_isAct_75 (fun H locs hI => ?_)
              refine x_eq0 hC 85 hf dX7_isAct_78 (by decide) (fun hf => ?_) (fun hf => ?_)
              · refine lv_iconst (v := (0 : Int32)) hx hb dX7_isAct_85 (by decide) ?_
                obtain ⟨h9, hf⟩ := x_g_eq hf
                obtain rfl := Option.some.inj hf
                exact hR _ _ _ _ h9 hI dX7_isAct_86
              · refine lv_iconst (v := (1 : Int32)) hx hb dX7_isAct_81 (by decide) ?_
                refine lv_goto (tgt := 86) hx hb dX7_isAct_82 (by decide) ?_
                obtain ⟨h9, hf⟩ := x_g_eq hf
                obtain rfl := Option.some.inj hf
                exact hR _ _ _ _ h9 hI dX7_isAct_86
        · refine x_case hf (fun q14 hf => ?_) (fun q14 hf => ?_)
          · refine lv_tableIn (tgt := 36) hx hb dX7_isAct_1 (by rw [q14]; decide) (by rw [q14]; decide) (by rw [q14]; rfl) (by decide) ?_
            refine lv_iconst (v := (1 : Int32)) hx hb dX7_isAct_36 (by decide) ?_
            obtain ⟨h9, hf⟩ := x_g_eq hf
            obtain rfl := Option.some.inj hf
            exact hR _ _ _ _ h9 hI dX7_isAct_37
          · refine lv_tableOut (tgt := 87) hx hb dX7_isAct_1 (by have z10 := lv_neT (a := 0) q10 (by decide); have z11 := lv_neT (a := 1) q11 (by decide); have z12 := lv_neT (a := 2) q12 (by decide); have z13 := lv_neT (a := 3) q13 (by decide); have z14 := lv_neT (a := 4) q14 (by decide); omega) (by decide) ?_
            refine lv_iload_n hx hb dX7_isAct_87 rfl (lv_at hl 0 rfl) ?_
            refine lv_iconst (v := (5 : Int32)) hx hb dX7_isAct_88 (by decide) ?_
            refine x_ine hC 106 hf dX7_isAct_89 (by decide) (fun hf => ?_) (fun hf => ?_)
            · refine lv_iconst (v := (0 : Int32)) hx hb dX7_isAct_106 (by decide) ?_
              obtain ⟨h9, hf⟩ := x_g_eq hf
              obtain rfl := Option.some.inj hf
              exact hR _ _ _ _ h9 hI dX7_isAct_107
            · refine lv_iload_n hx hb dX7_isAct_92 rfl (lv_at hl 1 rfl) ?_
              refine lv_iconst (v := (0 : Int32)) hx hb dX7_isAct_93 (by decide) ?_
              refine lv_bipush (v := (11 : Int32)) hx hb dX7_isAct_94 (by decide) ?_
              obtain ⟨v12, hc11, hf⟩ := x_b_eq hf
              refine x_callS hC hI (c_X7_in hc11) ks_X7_138 rfl ⟨Nat.le_of_ble_eq_true rfl, Nat.le_of_ble_eq_true rfl⟩ ⟨Nat.le_refl _, Nat.le_refl _⟩ hl.1 rfl (Nat.le_of_ble_eq_true rfl) dX7_isAct_96 (fun H locs hI => ?_)
              refine x_eq0 hC 106 hf dX7_isAct_99 (by decide) (fun hf => ?_) (fun hf => ?_)
              · refine lv_iconst (v := (0 : Int32)) hx hb dX7_isAct_106 (by decide) ?_
                obtain ⟨h9, hf⟩ := x_g_eq hf
                obtain rfl := Option.some.inj hf
                exact hR _ _ _ _ h9 hI dX7_isAct_107
              · refine lv_iconst (v := (1 : Int32)) hx hb dX7_isAct_102 (by decide) ?_
                refine lv_goto (tgt := 107) hx hb dX7_isAct_103 (by decide) ?_
                obtain ⟨h9, hf⟩ := x_g_eq hf
                obtain rfl := Option.some.inj hf
                exact hR _ _ _ _ h9 hI dX7_isAct_107
theorem c_X7_isAct {a0 : Int32} {a1 : Int32} {a2 : Int32} {a3 : Int32} {v : Int32} (hf : f_X7_isAct n a0 a1 a2 a3 = some v) : x_M l yX7_isAct cX7_isAct 4 (some .boolean) 1 22 E [.int a0, .int a1, .int a2, .int a3] w w (some (.int v)) :=
  x_entZ (by decide) (Nat.le_of_ble_eq_true rfl) (fun p e s m args below meth c A Q ls hC hI hR hl => w_X7_isAct (r := v) hC hR hI hl hf)
-- X7_put
def f_X7_put_61 (n : Nat) (S : x_S) (a3 : Int32) (a6 : Int32) (a7 : Int32) (t0 : Int32) (t1 : Int32) : Option (x_S) :=
x_g (¬ (t1 < 0 ∨ 720 ≤ (t1).toNatClampNeg)) (x_let (s_ar S 704 (t1).toNatClampNeg t0) (fun S =>
if a3 = (2 : Int32) then
x_g (¬ (a7 < 0 ∨ 720 ≤ (a7).toNatClampNeg)) (x_let (s_ar S 705 (a7).toNatClampNeg a6) (fun S =>
some S))
else
if a3 = (3 : Int32) then
x_g (¬ (a7 < 0 ∨ 720 ≤ (a7).toNatClampNeg)) (x_let (s_ar S 705 (a7).toNatClampNeg a6) (fun S =>
some S))
else
x_g (¬ (a7 < 0 ∨ 720 ≤ (a7).toNatClampNeg)) (x_let (s_ar S 705 (a7).toNatClampNeg (0 : Int32)) (fun S =>
some S))))
set_option maxHeartbeats 4000000 in
set_option maxRecDepth 100000 in
theorem w_X7_put_61 {r : x_S} {a3 : Int32} {a6 : Int32} {a7 : Int32} {t0 : Int32} {t1 : Int32} (hC : x_C p s m args meth c cX7_put 8 RX7 E A) (hR : x_Rv p l e { frames := 0, cells := 0, slots := 0, locals := 0 } s m args below meth c cX7_put E A Q (mw E ad r)) (hI : x_I E A s.heap (mw E ad S) H locs) (hl : lv_has ls 8 [(0, .ref (ad 799)), (3, .int a3), (6, .int a6), (7, .int a7)]) (hf : f_X7_put_61 n S a3 a6 a7 t0 t1 = some r) : W p l e { frames := 0, cells := 0, slots := 0, locals := 0 } s m args below meth c H locs 0 0 Q (F0 m 61 ls [.int t0, .int t1, .ref (ad 704)]) := by
  obtain ⟨hx, hb, hml, hown, hts, hK, hN, hA⟩ := id hC
  unfold f_X7_put_61 at hf
  refine tX7_4 hC hI hf dX7_put_61 (fun S H locs hI hf => ?_)
  refine lv_aload_n hx hb dX7_put_62 rfl (lv_at hl 0 rfl) ?_
  refine gX7_5 hC hI lkf_X7_22 dX7_put_63 ?_
  refine lv_iload hx hb dX7_put_66 (lv_at hl 3 rfl) ?_
  refine lv_iload_n hx hb dX7_put_68 rfl (lv_at hl 1 rfl) ?_
  refine lv_iconst (v := (2 : Int32)) hx hb dX7_put_69 (by decide) ?_
  refine x_ieq hC 78 hf dX7_put_70 (by decide) (fun hf => ?_) (fun hf => ?_)
  · refine lv_iload hx hb dX7_put_78 (lv_at hl 2 rfl) ?_
    refine lv_goto (tgt := 84) hx hb dX7_put_80 (by decide) ?_
    refine tX7_5 hC hI hf dX7_put_84 (fun S H locs hI hf => ?_)
    obtain rfl := Option.some.inj hf
    exact hR _ _ _ _ hI dX7_put_85
  · refine lv_iload_n hx hb dX7_put_73 rfl (lv_at hl 1 rfl) ?_
    refine lv_iconst (v := (3 : Int32)) hx hb dX7_put_74 (by decide) ?_
    refine x_ine hC 83 hf dX7_put_75 (by decide) (fun hf => ?_) (fun hf => ?_)
    · refine lv_iconst (v := (0 : Int32)) hx hb dX7_put_83 (by decide) ?_
      refine tX7_5 hC hI hf dX7_put_84 (fun S H locs hI hf => ?_)
      obtain rfl := Option.some.inj hf
      exact hR _ _ _ _ hI dX7_put_85
    · refine lv_iload hx hb dX7_put_78 (lv_at hl 2 rfl) ?_
      refine lv_goto (tgt := 84) hx hb dX7_put_80 (by decide) ?_
      refine tX7_5 hC hI hf dX7_put_84 (fun S H locs hI hf => ?_)
      obtain rfl := Option.some.inj hf
      exact hR _ _ _ _ hI dX7_put_85
def f_X7_put_55 (n : Nat) (S : x_S) (a3 : Int32) (a5 : Int32) (a6 : Int32) (a7 : Int32) (t0 : Int32) : Option (x_S) :=
f_X7_put_61 n S a3 a6 a7 a5 t0
set_option maxHeartbeats 4000000 in
set_option maxRecDepth 100000 in
theorem w_X7_put_55 {r : x_S} {a3 : Int32} {a5 : Int32} {a6 : Int32} {a7 : Int32} {t0 : Int32} (hC : x_C p s m args meth c cX7_put 8 RX7 E A) (hR : x_Rv p l e { frames := 0, cells := 0, slots := 0, locals := 0 } s m args below meth c cX7_put E A Q (mw E ad r)) (hI : x_I E A s.heap (mw E ad S) H locs) (hl : lv_has ls 8 [(0, .ref (ad 799)), (3, .int a3), (5, .int a5), (6, .int a6), (7, .int a7)]) (hf : f_X7_put_55 n S a3 a5 a6 a7 t0 = some r) : W p l e { frames := 0, cells := 0, slots := 0, locals := 0 } s m args below meth c H locs 0 0 Q (F0 m 55 ls [.int t0, .ref (ad 704)]) := by
  obtain ⟨hx, hb, hml, hown, hts, hK, hN, hA⟩ := id hC
  unfold f_X7_put_55 at hf
  refine lv_iload hx hb dX7_put_55 (lv_at hl 2 rfl) ?_
  refine lv_goto (tgt := 61) hx hb dX7_put_57 (by decide) ?_
  exact w_X7_put_61 hC hR hI (lv_sub hl [0, 1, 3, 4] rfl) hf
def f_X7_put_38 (n : Nat) (S : x_S) (a3 : Int32) (a5 : Int32) (a6 : Int32) (a7 : Int32) (t0 : Int32) (t1 : Int32) : Option (x_S) :=
x_g (¬ (t1 < 0 ∨ 720 ≤ (t1).toNatClampNeg)) (x_let (s_ar S 703 (t1).toNatClampNeg t0) (fun S =>
if a3 = (1 : Int32) then
f_X7_put_55 n S a3 a5 a6 a7 a7
else
if a3 = (3 : Int32) then
f_X7_put_55 n S a3 a5 a6 a7 a7
else
f_X7_put_61 n S a3 a6 a7 (0 : Int32) a7))
set_option maxHeartbeats 4000000 in
set_option maxRecDepth 100000 in
theorem w_X7_put_38 {r : x_S} {a3 : Int32} {a5 : Int32} {a6 : Int32} {a7 : Int32} {t0 : Int32} {t1 : Int32} (hC : x_C p s m args meth c cX7_put 8 RX7 E A) (hR : x_Rv p l e { frames := 0, cells := 0, slots := 0, locals := 0 } s m args below meth c cX7_put E A Q (mw E ad r)) (hI : x_I E A s.heap (mw E ad S) H locs) (hl : lv_has ls 8 [(0, .ref (ad 799)), (3, .int a3), (5, .int a5), (6, .int a6), (7, .int a7)]) (hf : f_X7_put_38 n S a3 a5 a6 a7 t0 t1 = some r) : W p l e { frames := 0, cells := 0, slots := 0, locals := 0 } s m args below meth c H locs 0 0 Q (F0 m 38 ls [.int t0, .int t1, .ref (ad 703)]) := by
  obtain ⟨hx, hb, hml, hown, hts, hK, hN, hA⟩ := id hC
  unfold f_X7_put_38 at hf
  refine tX7_3 hC hI hf dX7_put_38 (fun S H locs hI hf => ?_)
  refine lv_aload_n hx hb dX7_put_39 rfl (lv_at hl 0 rfl) ?_
  refine gX7_4 hC hI lkf_X7_19 dX7_put_40 ?_
  refine lv_iload hx hb dX7_put_43 (lv_at hl 4 rfl) ?_
  refine lv_iload_n hx hb dX7_put_45 rfl (lv_at hl 1 rfl) ?_
  refine lv_iconst (v := (1 : Int32)) hx hb dX7_put_46 (by decide) ?_
  refine x_ieq hC 55 hf dX7_put_47 (by decide) (fun hf => ?_) (fun hf => ?_)
  · exact w_X7_put_55 hC hR hI (lv_sub hl [0, 1, 2, 3, 4] rfl) hf
  · refine lv_iload_n hx hb dX7_put_50 rfl (lv_at hl 1 rfl) ?_
    refine lv_iconst (v := (3 : Int32)) hx hb dX7_put_51 (by decide) ?_
    refine x_ine hC 60 hf dX7_put_52 (by decide) (fun hf => ?_) (fun hf => ?_)
    · refine lv_iconst (v := (0 : Int32)) hx hb dX7_put_60 (by decide) ?_
      exact w_X7_put_61 hC hR hI (lv_sub hl [0, 1, 3, 4] rfl) hf
    · exact w_X7_put_55 hC hR hI (lv_sub hl [0, 1, 2, 3, 4] rfl) hf
def f_X7_put_32 (n : Nat) (S : x_S) (a3 : Int32) (a5 : Int32) (a6 : Int32) (a7 : Int32) (t0 : Int32) : Option (x_S) :=
f_X7_put_38 n S a3 a5 a6 a7 (0 : Int32) t0
set_option maxHeartbeats 4000000 in
set_option maxRecDepth 100000 in
theorem w_X7_put_32 {r : x_S} {a3 : Int32} {a5 : Int32} {a6 : Int32} {a7 : Int32} {t0 : Int32} (hC : x_C p s m args meth c cX7_put 8 RX7 E A) (hR : x_Rv p l e { frames := 0, cells := 0, slots := 0, locals := 0 } s m args below meth c cX7_put E A Q (mw E ad r)) (hI : x_I E A s.heap (mw E ad S) H locs) (hl : lv_has ls 8 [(0, .ref (ad 799)), (3, .int a3), (5, .int a5), (6, .int a6), (7, .int a7)]) (hf : f_X7_put_32 n S a3 a5 a6 a7 t0 = some r) : W p l e { frames := 0, cells := 0, slots := 0, locals := 0 } s m args below meth c H locs 0 0 Q (F0 m 32 ls [.int t0, .ref (ad 703)]) := by
  obtain ⟨hx, hb, hml, hown, hts, hK, hN, hA⟩ := id hC
  unfold f_X7_put_32 at hf
  refine lv_iconst (v := (0 : Int32)) hx hb dX7_put_32 (by decide) ?_
  refine lv_goto (tgt := 38) hx hb dX7_put_33 (by decide) ?_
  exact w_X7_put_38 hC hR hI (lv_sub hl [0, 1, 2, 3, 4] rfl) hf
def f_X7_put (n : Nat) (S : x_S) (a1 : Int32) (a2 : Int32) (a3 : Int32) (a4 : Int32) (a5 : Int32) (a6 : Int32) : Option (x_S) :=
x_g (¬ ((((60 : Int32) * a1) + a2) < 0 ∨ 720 ≤ ((((60 : Int32) * a1) + a2)).toNatClampNeg)) (x_let (s_ar S 702 ((((60 : Int32) * a1) + a2)).toNatClampNeg a3) (fun S =>
if a3 = (2 : Int32) then
f_X7_put_32 n S a3 a5 a6 (((60 : Int32) * a1) + a2) (((60 : Int32) * a1) + a2)
else
if a3 = (4 : Int32) then
f_X7_put_32 n S a3 a5 a6 (((60 : Int32) * a1) + a2) (((60 : Int32) * a1) + a2)
else
f_X7_put_38 n S a3 a5 a6 (((60 : Int32) * a1) + a2) a4 (((60 : Int32) * a1) + a2)))
set_option maxHeartbeats 4000000 in
set_option maxRecDepth 100000 in
theorem w_X7_put {r : x_S} {a1 : Int32} {a2 : Int32} {a3 : Int32} {a4 : Int32} {a5 : Int32} {a6 : Int32} (hC : x_C p s m args meth c cX7_put 8 RX7 E A) (hR : x_Rv p l e { frames := 0, cells := 0, slots := 0, locals := 0 } s m args below meth c cX7_put E A Q (mw E ad r)) (hI : x_I E A s.heap (mw E ad S) H locs) (hl : lv_has ls 8 [(0, .ref (ad 799)), (1, .int a1), (2, .int a2), (3, .int a3), (4, .int a4), (5, .int a5), (6, .int a6)]) (hf : f_X7_put n S a1 a2 a3 a4 a5 a6 = some r) : W p l e { frames := 0, cells := 0, slots := 0, locals := 0 } s m args below meth c H locs 0 0 Q (F0 m 0 ls []) := by
  obtain ⟨hx, hb, hml, hown, hts, hK, hN, hA⟩ := id hC
  unfold f_X7_put at hf
  refine lv_bipush (v := (60 : Int32)) hx hb dX7_put_0 (by decide) ?_
  refine lv_iload_n hx hb dX7_put_2 rfl (lv_at hl 1 rfl) ?_
  refine lv_imul hx hb dX7_put_3 ?_
  refine lv_iload_n hx hb dX7_put_4 rfl (lv_at hl 2 rfl) ?_
  refine lv_iadd hx hb dX7_put_5 ?_
  refine lv_istore (lv' := [(7, .int (((60 : Int32) * a1) + a2)), (0, .ref (ad 799)), (1, .int a1), (2, .int a2), (3, .int a3), (4, .int a4), (5, .int a5), (6, .int a6)]) hx hb dX7_put_6 hl (by decide) rfl (fun ls hl => ?_)
  refine lv_aload_n hx hb dX7_put_8 rfl (lv_at hl 1 rfl) ?_
  refine gX7_2 hC hI lkf_X7_13 dX7_put_9 ?_
  refine lv_iload hx hb dX7_put_12 (lv_at hl 0 rfl) ?_
  refine lv_iload_n hx hb dX7_put_14 rfl (lv_at hl 4 rfl) ?_
  refine tX7_2 hC hI hf dX7_put_15 (fun S H locs hI hf => ?_)
  refine lv_aload_n hx hb dX7_put_16 rfl (lv_at hl 1 rfl) ?_
  refine gX7_3 hC hI lkf_X7_16 dX7_put_17 ?_
  refine lv_iload hx hb dX7_put_20 (lv_at hl 0 rfl) ?_
  refine lv_iload_n hx hb dX7_put_22 rfl (lv_at hl 4 rfl) ?_
  refine lv_iconst (v := (2 : Int32)) hx hb dX7_put_23 (by decide) ?_
  refine x_ieq hC 32 hf dX7_put_24 (by decide) (fun hf => ?_) (fun hf => ?_)
  · exact w_X7_put_32 hC hR hI (lv_sub hl [1, 4, 6, 7, 0] rfl) hf
  · refine lv_iload_n hx hb dX7_put_27 rfl (lv_at hl 4 rfl) ?_
    refine lv_iconst (v := (4 : Int32)) hx hb dX7_put_28 (by decide) ?_
    refine x_ine hC 36 hf dX7_put_29 (by decide) (fun hf => ?_) (fun hf => ?_)
    · refine lv_iload hx hb dX7_put_36 (lv_at hl 5 rfl) ?_
      exact w_X7_put_38 hC hR hI (lv_sub hl [1, 4, 6, 7, 0] rfl) hf
    · exact w_X7_put_32 hC hR hI (lv_sub hl [1, 4, 6, 7, 0] rfl) hf
theorem c_X7_put {a1 : Int32} {a2 : Int32} {a3 : Int32} {a4 : Int32} {a5 : Int32} {a6 : Int32} {S1 : x_S} (hf : f_X7_put n S a1 a2 a3 a4 a5 a6 = some S1) : x_M l yX7_put cX7_put 8 none 0 0 E [.ref (ad 799), .int a1, .int a2, .int a3, .int a4, .int a5, .int a6] (mw E ad S) (mw E ad S1) none :=
  x_entV (by decide) (Nat.le_of_ble_eq_true rfl) (fun p e s m args below meth c A Q ls hC hI hR hl => w_X7_put (r := S1) hC hR hI hl hf)
end
