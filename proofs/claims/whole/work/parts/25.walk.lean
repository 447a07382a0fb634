section
variable {p : Program} {l : Launch} {e : Env} {s : State} {m : MethodId} {args : Array Value} {below : List Frame} {meth : Method} {c : Code} {H : Heap} {locs : List Loc} {Q : State → Prop}
variable {E : x_E} {A : Nat → Prop} {ls : Array Slot} {ad : Nat → Nat} {ap : Nat → Nat → Nat} {S : x_S} {w : va_W} {n : Nat}
-- X5_closeBody
def f_X5_closeBody (n : Nat) (S : x_S) : Option (x_S) :=
x_let (g_sc S 509) (fun v1 =>
x_let (s_sc S 509 (v1 - (1 : Int32))) (fun S =>
x_let (g_sc S 509) (fun v2 =>
x_g (¬ (v2 < 0 ∨ 61 ≤ (v2).toNatClampNeg)) (x_let (g_ar S 512 (v2).toNatClampNeg) (fun v3 =>
x_let (g_sc S 509) (fun v4 =>
x_g (¬ (v4 < 0 ∨ 61 ≤ (v4).toNatClampNeg)) (x_let (g_ar S 511 (v4).toNatClampNeg) (fun v5 =>
if v5 = (1 : Int32) then
x_let (g_sc S 509) (fun v6 =>
x_g (¬ (v6 < 0 ∨ 61 ≤ (v6).toNatClampNeg)) (x_let (g_ar S 513 (v6).toNatClampNeg) (fun v7 =>
x_let (g_sc S 505) (fun v8 =>
x_b (f_X5_aim n S v7 v8) (fun S =>
some S)))))
else
if v5 = (2 : Int32) then
x_b (f_X5_emit n S (2 : Int32) (0 : Int32) (0 : Int32) (0 : Int32)) (fun S =>
x_let (g_sc S 509) (fun v11 =>
x_g (¬ (v11 < 0 ∨ 61 ≤ (v11).toNatClampNeg)) (x_let (g_ar S 513 (v11).toNatClampNeg) (fun v12 =>
x_let (g_sc S 505) (fun v13 =>
x_b (f_X5_aim n S v12 v13) (fun S =>
x_let (g_sc S 505) (fun v15 =>
x_b (f_X5_openBody n S (1 : Int32) (v15 - (1 : Int32)) (0 : Int32) (0 : Int32)) (fun S =>
some S))))))))
else
if v5 = (3 : Int32) then
x_b (f_X5_emit n S (2 : Int32) (0 : Int32) (0 : Int32) v3) (fun S =>
x_b (f_X5_endLoop n S v3 v3) (fun S =>
some S))
else
if v5 = (4 : Int32) then
x_b (f_X5_emit n S (2 : Int32) (0 : Int32) (0 : Int32) v3) (fun S =>
x_let (g_sc S 509) (fun v20 =>
x_g (¬ (v20 < 0 ∨ 61 ≤ (v20).toNatClampNeg)) (x_let (g_ar S 513 (v20).toNatClampNeg) (fun v21 =>
x_let (g_sc S 505) (fun v22 =>
x_b (f_X5_aim n S v21 v22) (fun S =>
x_b (f_X5_endLoop n S v3 v3) (fun S =>
some S)))))))
else
if v5 = (5 : Int32) then
x_let (g_sc S 509) (fun v25 =>
x_g (¬ (v25 < 0 ∨ 61 ≤ (v25).toNatClampNeg)) (x_let (g_ar S 514 (v25).toNatClampNeg) (fun v26 =>
x_let (g_sc S 509) (fun v27 =>
x_g (¬ (v27 < 0 ∨ 61 ≤ (v27).toNatClampNeg)) (x_let (g_ar S 515 (v27).toNatClampNeg) (fun v28 =>
x_b (f_X5_emit n S (3 : Int32) v26 v28 v3) (fun S =>
x_let (g_sc S 505) (fun v30 =>
x_b (f_X5_endLoop n S v3 (v30 - (1 : Int32))) (fun S =>
some S)))))))))
else
some S))))))))
set_option maxHeartbeats 4000000 in
set_option maxRecDepth 100000 in
theorem w_X5_closeBody {r : x_S} (hC : x_C p s m args meth c cX5_closeBody 2 RX5 E A) (hR : x_Rv p l e { frames := 3, cells := 0, slots := 0, locals := 69 } s m args below meth c cX5_closeBody E A Q (cw E ad ap r)) (hI : x_I E A s.heap (cw E ad ap S) H locs) (hl : lv_has ls 2 [(0, .ref (ad 599))]) (hf : f_X5_closeBody n S = some r) : W p l e { frames := 3, cells := 0, slots := 0, locals := 69 } s m args below meth c H locs 0 0 Q (F0 m 0 ls []) := by
  obtain ⟨hx, hb, hml, hown, hts, hK, hN, hA⟩ := id hC
  unfold f_X5_closeBody at hf
  refine lv_aload_n hx hb dX5_closeBody_0 rfl (lv_at hl 0 rfl) ?_
  refine lv_dup hx hb dX5_closeBody_1 rfl ?_
  refine gX5_9 hC hI hf lkf_X5_44 dX5_closeBody_2 (fun v1 hf => ?_)
  refine lv_iconst (v := (1 : Int32)) hx hb dX5_closeBody_5 (by decide) ?_
  refine lv_isub hx hb dX5_closeBody_6 ?_
  refine pX5_9 hC hI hf lkf_X5_44 dX5_closeBody_7 (fun S H locs hI hf => ?_)
  refine lv_aload_n hx hb dX5_closeBody_10 rfl (lv_at hl 0 rfl) ?_
  refine gX5_12 hC hI lkf_X5_53 dX5_closeBody_11 ?_
  refine lv_aload_n hx hb dX5_closeBody_14 rfl (lv_at hl 0 rfl) ?_
  refine gX5_9 hC hI hf lkf_X5_44 dX5_closeBody_15 (fun v2 hf => ?_)
  refine aX5_12 hC hI hf dX5_closeBody_18 (fun v3 hf => ?_)
  refine lv_istore_n (lv' := [(1, .int v3), (0, .ref (ad 599))]) hx hb dX5_closeBody_19 rfl hl (by decide) rfl (fun ls hl => ?_)
  refine lv_aload_n hx hb dX5_closeBody_20 rfl (lv_at hl 1 rfl) ?_
  refine gX5_11 hC hI lkf_X5_50 dX5_closeBody_21 ?_
  refine lv_aload_n hx hb dX5_closeBody_24 rfl (lv_at hl 1 rfl) ?_
  refine gX5_9 hC hI hf lkf_X5_44 dX5_closeBody_25 (fun v4 hf => ?_)
  refine aX5_11 hC hI hf dX5_closeBody_28 (fun v5 hf => ?_)
  refine x_case hf (fun q11 hf => ?_) (fun q11 hf => ?_)
  · refine lv_tableIn (tgt := 64) hx hb dX5_closeBody_29 (by rw [q11]; decide) (by rw [q11]; decide) (by rw [q11]; rfl) (by decide) ?_
    refine lv_aload_n hx hb dX5_closeBody_64 rfl (lv_at hl 1 rfl) ?_
    refine lv_aload_n hx hb dX5_closeBody_65 rfl (lv_at hl 1 rfl) ?_
    refine gX5_13 hC hI lkf_X5_56 dX5_closeBody_66 ?_
    refine lv_aload_n hx hb dX5_closeBody_69 rfl (lv_at hl 1 rfl) ?_
    refine gX5_9 hC hI hf lkf_X5_44 dX5_closeBody_70 (fun v6 hf => ?_)
    refine aX5_13 hC hI hf dX5_closeBody_73 (fun v7 hf => ?_)
    refine lv_aload_n hx hb dX5_closeBody_74 rfl (lv_at hl 1 rfl) ?_
    refine gX5_5 hC hI hf lkf_X5_32 dX5_closeBody_75 (fun v8 hf => ?_)
    obtain ⟨S, hc9, hf⟩ := x_b_eq hf
    refine x_callV hC hI (c_X5_aim hc9) 5 5 rfl rfl kv_X5_132 rfl ⟨Nat.le_of_ble_eq_true rfl, Nat.le_of_ble_eq_true rfl⟩ ⟨Nat.le_refl _, Nat.le_refl _⟩ hl.1 rfl (Nat.le_of_ble_eq_true rfl) dX5_closeBody_78 (fun H locs hI => ?_)
    refine lv_goto (tgt := 214) hx hb dX5_closeBody_81 (by decide) ?_
    obtain rfl := Option.some.inj hf
    exact hR _ _ _ _ hI dX5_closeBody_214
  · refine x_case hf (fun q12 hf => ?_) (fun q12 hf => ?_)
    · refine lv_tableIn (tgt := 84) hx hb dX5_closeBody_29 (by rw [q12]; decide) (by rw [q12]; decide) (by rw [q12]; rfl) (by decide) ?_
      refine lv_aload_n hx hb dX5_closeBody_84 rfl (lv_at hl 1 rfl) ?_
      refine lv_iconst (v := (2 : Int32)) hx hb dX5_closeBody_85 (by decide) ?_
      refine lv_iconst (v := (0 : Int32)) hx hb dX5_closeBody_86 (by decide) ?_
      refine lv_iconst (v := (0 : Int32)) hx hb dX5_closeBody_87 (by decide) ?_
      refine lv_iconst (v := (0 : Int32)) hx hb dX5_closeBody_88 (by decide) ?_
      obtain ⟨S, hc10, hf⟩ := x_b_eq hf
      refine x_callV hC hI (c_X5_emit hc10) 5 5 rfl rfl kv_X5_116 rfl ⟨Nat.le_of_ble_eq_true rfl, Nat.le_of_ble_eq_true rfl⟩ ⟨Nat.le_refl _, Nat.le_refl _⟩ hl.1 rfl (Nat.le_of_ble_eq_true rfl) dX5_closeBody_89 (fun H locs hI => ?_)
      refine lv_aload_n hx hb dX5_closeBody_92 rfl (lv_at hl 1 rfl) ?_
      refine lv_aload_n hx hb dX5_closeBody_93 rfl (lv_at hl 1 rfl) ?_
      refine gX5_13 hC hI lkf_X5_56 dX5_closeBody_94 ?_
      refine lv_aload_n hx hb dX5_closeBody_97 rfl (lv_at hl 1 rfl) ?_
      refine gX5_9 hC hI hf lkf_X5_44 dX5_closeBody_98 (fun v11 hf => ?_)
      refine aX5_13 hC hI hf dX5_closeBody_101 (fun v12 hf => ?_)
      refine lv_aload_n hx hb dX5_closeBody_102 rfl (lv_at hl 1 rfl) ?_
      refine gX5_5 hC hI hf lkf_X5_32 dX5_closeBody_103 (fun v13 hf => ?_)
      obtain ⟨S, hc14, hf⟩ := x_b_eq hf
      refine x_callV hC hI (c_X5_aim hc14) 5 5 rfl rfl kv_X5_132 rfl ⟨Nat.le_of_ble_eq_true rfl, Nat.le_of_ble_eq_true rfl⟩ ⟨Nat.le_refl _, Nat.le_refl _⟩ hl.1 rfl (Nat.le_of_ble_eq_true rfl) dX5_closeBody_106 (fun H locs hI => ?_)
      refine lv_aload_n hx hb dX5_closeBody_109 rfl (lv_at hl 1 rfl) ?_
      refine lv_iconst (v := (1 : Int32)) hx hb dX5_closeBody_110 (by decide) ?_
      refine lv_aload_n hx hb dX5_closeBody_111 rfl (lv_at hl 1 rfl) ?_
      refine gX5_5 hC hI hf lkf_X5_32 dX5_closeBody_112 (fun v15 hf => ?_)
      refine lv_iconst (v := (1 : Int32)) hx hb dX5_closeBody_115 (by decide) ?_
      refine lv_isub hx hb dX5_closeBody_116 ?_
      refine lv_iconst (v := (0 : Int32)) hx hb dX5_closeBody_117 (by decide) ?_
      refine lv_iconst (v := (0 : Int32)) hx hb dX5_closeBody_118 (by decide) ?_
      obtain ⟨S, hc16, hf⟩ := x_b_eq hf
      refine x_callV hC hI (c_X5_openBody hc16) 5 5 rfl rfl kv_X5_65 rfl ⟨Nat.le_of_ble_eq_true rfl, Nat.le_of_ble_eq_true rfl⟩ ⟨Nat.le_refl _, Nat.le_refl _⟩ hl.1 rfl (Nat.le_of_ble_eq_true rfl) dX5_closeBody_119 (fun H locs hI => ?_)
      refine lv_goto (tgt := 214) hx hb dX5_closeBody_122 (by decide) ?_
      obtain rfl := Option.some.inj hf
      exact hR _ _ _ _ hI dX5_closeBody_214
    · refine x_case hf (fun q13 hf => ?_) (fun q13 hf => ?_)
      · refine lv_tableIn (tgt := 125) hx hb dX5_closeBody_29 (by rw [q13]; decide) (by rw [q13]; decide) (by rw [q13]; rfl) (by decide) ?_
        refine lv_aload_n hx hb dX5_closeBody_125 rfl (lv_at hl 1 rfl) ?_
        refine lv_iconst (v := (2 : Int32)) hx hb dX5_closeBody_126 (by decide) ?_
        refine lv_iconst (v := (0 : Int32)) hx hb dX5_closeBody_127 (by decide) ?_
        refine lv_iconst (v := (0 : Int32)) hx hb dX5_closeBody_128 (by decide) ?_
        refine lv_iload_n hx hb dX5_closeBody_129 rfl (lv_at hl 0 rfl) ?_
        obtain ⟨S, hc17, hf⟩ := x_b_eq hf
        refine x_callV hC hI (c_X5_emit hc17) 5 5 rfl rfl kv_X5_116 rfl ⟨Nat.le_of_ble_eq_true rfl, Nat.le_of_ble_eq_true rfl⟩ ⟨Nat.le_refl _, Nat.le_refl _⟩ hl.1 rfl (Nat.le_of_ble_eq_true rfl) dX5_closeBody_130 (fun H locs hI => ?_)
        refine lv_aload_n hx hb dX5_closeBody_133 rfl (lv_at hl 1 rfl) ?_
        refine lv_iload_n hx hb dX5_closeBody_134 rfl (lv_at hl 0 rfl) ?_
        refine lv_iload_n hx hb dX5_closeBody_135 rfl (lv_at hl 0 rfl) ?_
        obtain ⟨S, hc18, hf⟩ := x_b_eq hf
        refine x_callV hC hI (c_X5_endLoop hc18) 5 5 rfl rfl kv_X5_136 rfl ⟨Nat.le_of_ble_eq_true rfl, Nat.le_of_ble_eq_true rfl⟩ ⟨Nat.le_refl _, Nat.le_refl _⟩ hl.1 rfl (Nat.le_of_ble_eq_true rfl) dX5_closeBody_136 (fun H locs hI => ?_)
        refine lv_goto (tgt := 214) hx hb dX5_closeBody_139 (by decide) ?_
        obtain rfl := Option.some.inj hf
        exact hR _ _ _ _ hI dX5_closeBody_214
      · refine x_case hf (fun q14 hf => ?_) (fun q14 hf => ?_)
        · refine lv_tableIn (tgt := 142) hx hb dX5_closeBody_29 (by rw [q14]; decide) (by rw [q14]; decide) (by rw [q14]; rfl) (by decide) ?_
          refine lv_aload_n hx hb dX5_closeBody_142 rfl (lv_at hl 1 rfl) ?_
          refine lv_iconst (v := (2 : Int32)) hx hb dX5_closeBody_143 (by decide) ?_
          refine lv_iconst (v := (0 : Int32)) hx hb dX5_closeBody_144 (by decide) ?_
          refine lv_iconst (v := (0 : Int32)) hx hb dX5_closeBody_145 (by decide) ?_
          refine lv_iload_n hx hb dX5_closeBody_146 rfl (lv_at hl 0 rfl) ?_
          obtain ⟨S, hc19, hf⟩ := x_b_eq hf
          refine x_callV hC hI (c_X5_emit hc19) 5 5 rfl rfl kv_X5_116 rfl ⟨Nat.le_of_ble_eq_true rfl, Nat.le_of_ble_eq_true rfl⟩ ⟨Nat.le_refl _, Nat.le_refl _⟩ hl.1 rfl (Nat.le_of_ble_eq_true rfl) dX5_closeBody_147 (fun H locs hI => ?_)
          refine lv_aload_n hx hb dX5_closeBody_150 rfl (lv_at hl 1 rfl) ?_
          refine lv_aload_n hx hb dX5_closeBody_151 rfl (lv_at hl 1 rfl) ?_
          refine gX5_13 hC hI lkf_X5_56 dX5_closeBody_152 ?_
          refine lv_aload_n hx hb dX5_closeBody_155 rfl (lv_at hl 1 rfl) ?_
          refine gX5_9 hC hI hf lkf_X5_44 dX5_closeBody_156 (fun v20 hf => ?_)
          refine aX5_13 hC hI hf dX5_closeBody_159 (fun v21 hf => ?_)
          refine lv_aload_n hx hb dX5_closeBody_160 rfl (lv_at hl 1 rfl) ?_
          refine gX5_5 hC hI hf lkf_X5_32 dX5_closeBody_161 (fun v22 hf => ?_)
          obtain ⟨S, hc23, hf⟩ := x_b_eq hf
          refine x_callV hC hI (c_X5_aim hc23) 5 5 rfl rfl kv_X5_132 rfl ⟨Nat.le_of_ble_eq_true rfl, Nat.le_of_ble_eq_true rfl⟩ ⟨Nat.le_refl _, Nat.le_refl _⟩ hl.1 rfl (Nat.le_of_ble_eq_true rfl) dX5_closeBody_164 (fun H locs hI => ?_)
          refine lv_aload_n hx hb dX5_closeBody_167 rfl (lv_at hl 1 rfl) ?_
          refine lv_iload_n hx hb dX5_closeBody_168 rfl (lv_at hl 0 rfl) ?_
          refine lv_iload_n hx hb dX5_closeBody_169 rfl (lv_at hl 0 rfl) ?_
          obtain ⟨S, hc24, hf⟩ := x_b_eq hf
          refine x_callV hC hI (c_X5_endLoop hc24) 5 5 rfl rfl kv_X5_136 rfl ⟨Nat.le_of_ble_eq_true rfl, Nat.le_of_ble_eq_true rfl⟩ ⟨Nat.le_refl _, Nat.le_refl _⟩ hl.1 rfl (Nat.le_of_ble_eq_true rfl) dX5_closeBody_170 (fun H locs hI => ?_)
          refine lv_goto (tgt := 214) hx hb dX5_closeBody_173 (by decide) ?_
          obtain rfl := Option.some.inj hf
          exact hR _ _ _ _ hI dX5_closeBody_214
        · refine x_case hf (fun q15 hf => ?_) (fun q15 hf => ?_)
          · refine lv_tableIn (tgt := 176) hx hb dX5_closeBody_29 (by rw [q15]; decide) (by rw [q15]; decide) (by rw [q15]; rfl) (by decide) ?_
            refine lv_aload_n hx hb dX5_closeBody_176 rfl (lv_at hl 1 rfl) ?_
            refine lv_iconst (v := (3 : Int32)) hx hb dX5_closeBody_177 (by decide) ?_
            refine lv_aload_n hx hb dX5_closeBody_178 rfl (lv_at hl 1 rfl) ?_
            refine gX5_14 hC hI lkf_X5_59 dX5_closeBody_179 ?_
            refine lv_aload_n hx hb dX5_closeBody_182 rfl (lv_at hl 1 rfl) ?_
            refine gX5_9 hC hI hf lkf_X5_44 dX5_closeBody_183 (fun v25 hf => ?_)
            refine aX5_14 hC hI hf dX5_closeBody_186 (fun v26 hf => ?_)
            refine lv_aload_n hx hb dX5_closeBody_187 rfl (lv_at hl 1 rfl) ?_
            refine gX5_15 hC hI lkf_X5_62 dX5_closeBody_188 ?_
            refine lv_aload_n hx hb dX5_closeBody_191 rfl (lv_at hl 1 rfl) ?_
            refine gX5_9 hC hI hf lkf_X5_44 dX5_closeBody_192 (fun v27 hf => ?_)
            refine aX5_15 hC hI hf dX5_closeBody_195 (fun v28 hf => ?_)
            refine lv_iload_n hx hb dX5_closeBody_196 rfl (lv_at hl 0 rfl) ?_
            obtain ⟨S, hc29, hf⟩ := x_b_eq hf
            refine x_callV hC hI (c_X5_emit hc29) 5 5 rfl rfl kv_X5_116 rfl ⟨Nat.le_of_ble_eq_true rfl, Nat.le_of_ble_eq_true rfl⟩ ⟨Nat.le_refl _, Nat.le_refl _⟩ hl.1 rfl (Nat.le_of_ble_eq_true rfl) dX5_closeBody_197 (fun H locs hI => ?_)
            refine lv_aload_n hx hb dX5_closeBody_200 rfl (lv_at hl 1 rfl) ?_
            refine lv_iload_n hx hb dX5_closeBody_201 rfl (lv_at hl 0 rfl) ?_
            refine lv_aload_n hx hb dX5_closeBody_202 rfl (lv_at hl 1 rfl) ?_
            refine gX5_5 hC hI hf lkf_X5_32 dX5_closeBody_203 (fun v30 hf => ?_)
            refine lv_iconst (v := (1 : Int32)) hx hb dX5_closeBody_206 (by decide) ?_
            refine lv_isub hx hb dX5_closeBody_207 ?_
            obtain ⟨S, hc31, hf⟩ := x_b_eq hf
            refine x_callV hC hI (c_X5_endLoop hc31) 5 5 rfl rfl kv_X5_136 rfl ⟨Nat.le_of_ble_eq_true rfl, Nat.le_of_ble_eq_true rfl⟩ ⟨Nat.le_refl _, Nat.le_refl _⟩ hl.1 rfl (Nat.le_of_ble_eq_true rfl) dX5_closeBody_208 (fun H locs hI => ?_)
            refine lv_goto (tgt := 214) hx hb dX5_closeBody_211 (by decide) ?_
            obtain rfl := Option.some.inj hf
            exact hR _ _ _ _ hI dX5_closeBody_214
          · refine lv_tableOut (tgt := 214) hx hb dX5_closeBody_29 (by have z11 := lv_neT (a := 1) q11 (by decide); have z12 := lv_neT (a := 2) q12 (by decide); have z13 := lv_neT (a := 3) q13 (by decide); have z14 := lv_neT (a := 4) q14 (by decide); have z15 := lv_neT (a := 5) q15 (by decide); omega) (by decide) ?_
            obtain rfl := Option.some.inj hf
            exact hR _ _ _ _ hI dX5_closeBody_214
theorem c_X5_closeBody {S1 : x_S} (hf : f_X5_closeBody n S = some S1) : x_M l yX5_closeBody cX5_closeBody 2 none 3 69 E [.ref (ad 599)] (cw E ad ap S) (cw E ad ap S1) none :=
  x_entV (by decide) (Nat.le_of_ble_eq_true rfl) (fun p e s m args below meth c A Q ls hC hI hR hl => w_X5_closeBody (r := S1) hC hR hI hl hf)
-- X5_takeA
def f_X5_takeA (n : Nat) (S : x_S) (a1 : Int32) : Option (Int32 × x_S) :=
x_b2 (f_X5_take n S) (fun v2 S =>
x_b (f_X6_mayHaveA n a1 v2) (fun v4 =>
x_b (f_X5_require n S v4 (4 : Int32)) (fun S =>
some (v2, S))))
set_option maxHeartbeats 4000000 in
set_option maxRecDepth 100000 in
theorem w_X5_takeA {r : Int32 × x_S} {a1 : Int32} (hC : x_C p s m args meth c cX5_takeA 3 RX5 E A) (hR : x_Ri p l e { frames := 1, cells := 0, slots := 0, locals := 22 } s m args below meth c cX5_takeA E A Q (cw E ad ap r.2) r.1) (hI : x_I E A s.heap (cw E ad ap S) H locs) (hl : lv_has ls 3 [(0, .ref (ad 599)), (1, .int a1)]) (hf : f_X5_takeA n S a1 = some r) : W p l e { frames := 1, cells := 0, slots := 0, locals := 22 } s m args below meth c H locs 0 0 Q (F0 m 0 ls []) := by
  obtain ⟨hx, hb, hml, hown, hts, hK, hN, hA⟩ := id hC
  unfold f_X5_takeA at hf
  refine lv_aload_n hx hb dX5_takeA_0 rfl (lv_at hl 0 rfl) ?_
  obtain ⟨v2, S, hc1, hf⟩ := x_b2_eq hf
  refine x_callV hC hI (c_X5_take hc1) 5 5 rfl rfl kv_X5_87 rfl ⟨Nat.le_of_ble_eq_true rfl, Nat.le_of_ble_eq_true rfl⟩ ⟨Nat.le_refl _, Nat.le_refl _⟩ hl.1 rfl (Nat.le_of_ble_eq_true rfl) dX5_takeA_1 (fun H locs hI => ?_)
  refine lv_istore_n (lv' := [(2, .int v2), (0, .ref (ad 599)), (1, .int a1)]) hx hb dX5_takeA_4 rfl hl (by decide) rfl (fun ls hl => ?_)
  refine lv_aload_n hx hb dX5_takeA_5 rfl (lv_at hl 1 rfl) ?_
  refine lv_iload_n hx hb dX5_takeA_6 rfl (lv_at hl 2 rfl) ?_
  refine lv_iload_n hx hb dX5_takeA_7 rfl (lv_at hl 0 rfl) ?_
  obtain ⟨v4, hc3, hf⟩ := x_b_eq hf
  refine x_callN hC hI (c_X6_mayHaveA hc3) ks_X5_119 rfl ⟨Nat.le_of_ble_eq_true rfl, Nat.le_of_ble_eq_true rfl⟩ ⟨Nat.le_refl _, Nat.le_refl _⟩ hl.1 rfl (Nat.le_of_ble_eq_true rfl) dX5_takeA_8 (fun H locs hI => ?_)
  refine lv_iconst (v := (4 : Int32)) hx hb dX5_takeA_11 (by decide) ?_
  obtain ⟨S, hc5, hf⟩ := x_b_eq hf
  refine x_callV hC hI (c_X5_require hc5) 5 5 rfl rfl kv_X5_91 rfl ⟨Nat.le_of_ble_eq_true rfl, Nat.le_of_ble_eq_true rfl⟩ ⟨Nat.le_refl _, Nat.le_refl _⟩ hl.1 rfl (Nat.le_of_ble_eq_true rfl) dX5_takeA_12 (fun H locs hI => ?_)
  refine lv_iload_n hx hb dX5_takeA_15 rfl (lv_at hl 0 rfl) ?_
  obtain rfl := Option.some.inj hf
  exact hR _ _ _ _ hI dX5_takeA_16
theorem c_X5_takeA {a1 : Int32} {v : Int32} {S1 : x_S} (hf : f_X5_takeA n S a1 = some (v, S1)) : x_M l yX5_takeA cX5_takeA 3 (some .int) 1 22 E [.ref (ad 599), .int a1] (cw E ad ap S) (cw E ad ap S1) (some (.int v)) :=
  x_entI (by decide) (Nat.le_of_ble_eq_true rfl) (fun p e s m args below meth c A Q ls hC hI hR hl => w_X5_takeA (r := (v, S1)) hC hR hI hl hf)
-- X5_takeB
def f_X5_takeB (n : Nat) (S : x_S) (a1 : Int32) : Option (Int32 × x_S) :=
x_b2 (f_X5_take n S) (fun v2 S =>
x_b (f_X6_mayHaveB n a1 v2) (fun v4 =>
x_b (f_X5_require n S v4 (4 : Int32)) (fun S =>
some (v2, S))))
set_option maxHeartbeats 4000000 in
set_option maxRecDepth 100000 in
theorem w_X5_takeB {r : Int32 × x_S} {a1 : Int32} (hC : x_C p s m args meth c cX5_takeB 3 RX5 E A) (hR : x_Ri p l e { frames := 1, cells := 0, slots := 0, locals := 22 } s m args below meth c cX5_takeB E A Q (cw E ad ap r.2) r.1) (hI : x_I E A s.heap (cw E ad ap S) H locs) (hl : lv_has ls 3 [(0, .ref (ad 599)), (1, .int a1)]) (hf : f_X5_takeB n S a1 = some r) : W p l e { frames := 1, cells := 0, slots := 0, locals := 22 } s m args below meth c H locs 0 0 Q (F0 m 0 ls []) := by
  obtain ⟨hx, hb, hml, hown, hts, hK, hN, hA⟩ := id hC
  unfold f_X5_takeB at hf
  refine lv_aload_n hx hb dX5_takeB_0 rfl (lv_at hl 0 rfl) ?_
  obtain ⟨v2, S, hc1, hf⟩ := x_b2_eq hf
  refine x_callV hC hI (c_X5_take hc1) 5 5 rfl rfl kv_X5_87 rfl ⟨Nat.le_of_ble_eq_true rfl, Nat.le_of_ble_eq_true rfl⟩ ⟨Nat.le_refl _, Nat.le_refl _⟩ hl.1 rfl (Nat.le_of_ble_eq_true rfl) dX5_takeB_1 (fun H locs hI => ?_)
  refine lv_istore_n (lv' := [(2, .int v2), (0, .ref (ad 599)), (1, .int a1)]) hx hb dX5_takeB_4 rfl hl (by decide) rfl (fun ls hl => ?_)
  refine lv_aload_n hx hb dX5_takeB_5 rfl (lv_at hl 1 rfl) ?_
  refine lv_iload_n hx hb dX5_takeB_6 rfl (lv_at hl 2 rfl) ?_
  refine lv_iload_n hx hb dX5_takeB_7 rfl (lv_at hl 0 rfl) ?_
  obtain ⟨v4, hc3, hf⟩ := x_b_eq hf
  refine x_callN hC hI (c_X6_mayHaveB hc3) ks_X5_123 rfl ⟨Nat.le_of_ble_eq_true rfl, Nat.le_of_ble_eq_true rfl⟩ ⟨Nat.le_refl _, Nat.le_refl _⟩ hl.1 rfl (Nat.le_of_ble_eq_true rfl) dX5_takeB_8 (fun H locs hI => ?_)
  refine lv_iconst (v := (4 : Int32)) hx hb dX5_takeB_11 (by decide) ?_
  obtain ⟨S, hc5, hf⟩ := x_b_eq hf
  refine x_callV hC hI (c_X5_require hc5) 5 5 rfl rfl kv_X5_91 rfl ⟨Nat.le_of_ble_eq_true rfl, Nat.le_of_ble_eq_true rfl⟩ ⟨Nat.le_refl _, Nat.le_refl _⟩ hl.1 rfl (Nat.le_of_ble_eq_true rfl) dX5_takeB_12 (fun H locs hI => ?_)
  refine lv_iload_n hx hb dX5_takeB_15 rfl (lv_at hl 0 rfl) ?_
  obtain rfl := Option.some.inj hf
  exact hR _ _ _ _ hI dX5_takeB_16
theorem c_X5_takeB {a1 : Int32} {v : Int32} {S1 : x_S} (hf : f_X5_takeB n S a1 = some (v, S1)) : x_M l yX5_takeB cX5_takeB 3 (some .int) 1 22 E [.ref (ad 599), .int a1] (cw E ad ap S) (cw E ad ap S1) (some (.int v)) :=
  x_entI (by decide) (Nat.le_of_ble_eq_true rfl) (fun p e s m args below meth c A Q ls hC hI hR hl => w_X5_takeB (r := (v, S1)) hC hR hI hl hf)
-- X5_takeAct
def f_X5_takeAct_27 (n : Nat) (S : x_S) (a1 : Int32) (t0 : Int32) : Option (x_S) :=
x_b (f_X5_require n S t0 (4 : Int32)) (fun S =>
x_b2 (f_X5_takeA n S a1) (fun v5 S =>
x_b2 (f_X5_takeB n S a1) (fun v7 S =>
x_b (f_X5_emit n S a1 v5 v7 (0 : Int32)) (fun S =>
some S))))
set_option maxHeartbeats 4000000 in
set_option maxRecDepth 100000 in
theorem w_X5_takeAct_27 {r : x_S} {a1 : Int32} {t0 : Int32} (hC : x_C p s m args meth c cX5_takeAct 4 RX5 E A) (hR : x_Rv p l e { frames := 3, cells := 0, slots := 0, locals := 69 } s m args below meth c cX5_takeAct E A Q (cw E ad ap r)) (hI : x_I E A s.heap (cw E ad ap S) H locs) (hl : lv_has ls 4 [(0, .ref (ad 599)), (1, .int a1)]) (hf : f_X5_takeAct_27 n S a1 t0 = some r) : W p l e { frames := 3, cells := 0, slots := 0, locals := 69 } s m args below meth c H locs 0 0 Q (F0 m 27 ls [.int t0, .ref (ad 599)]) := by
  obtain ⟨hx, hb, hml, hown, hts, hK, hN, hA⟩ := id hC
  unfold f_X5_takeAct_27 at hf
  refine lv_iconst (v := (4 : Int32)) hx hb dX5_takeAct_27 (by decide) ?_
  obtain ⟨S, hc3, hf⟩ := x_b_eq hf
  refine x_callV hC hI (c_X5_require hc3) 5 5 rfl rfl kv_X5_91 rfl ⟨Nat.le_of_ble_eq_true rfl, Nat.le_of_ble_eq_true rfl⟩ ⟨Nat.le_refl _, Nat.le_refl _⟩ hl.1 rfl (Nat.le_of_ble_eq_true rfl) dX5_takeAct_28 (fun H locs hI => ?_)
  refine lv_aload_n hx hb dX5_takeAct_31 rfl (lv_at hl 0 rfl) ?_
  refine lv_iload_n hx hb dX5_takeAct_32 rfl (lv_at hl 1 rfl) ?_
  obtain ⟨v5, S, hc4, hf⟩ := x_b2_eq hf
  refine x_callV hC hI (c_X5_takeA hc4) 5 5 rfl rfl kv_X5_109 rfl ⟨Nat.le_of_ble_eq_true rfl, Nat.le_of_ble_eq_true rfl⟩ ⟨Nat.le_refl _, Nat.le_refl _⟩ hl.1 rfl (Nat.le_of_ble_eq_true rfl) dX5_takeAct_33 (fun H locs hI => ?_)
  refine lv_istore_n (lv' := [(2, .int v5), (0, .ref (ad 599)), (1, .int a1)]) hx hb dX5_takeAct_36 rfl hl (by decide) rfl (fun ls hl => ?_)
  refine lv_aload_n hx hb dX5_takeAct_37 rfl (lv_at hl 1 rfl) ?_
  refine lv_iload_n hx hb dX5_takeAct_38 rfl (lv_at hl 2 rfl) ?_
  obtain ⟨v7, S, hc6, hf⟩ := x_b2_eq hf
  refine x_callV hC hI (c_X5_takeB hc6) 5 5 rfl rfl kv_X5_113 rfl ⟨Nat.le_of_ble_eq_true rfl, Nat.le_of_ble_eq_true rfl⟩ ⟨Nat.le_refl _, Nat.le_refl _⟩ hl.1 rfl (Nat.le_of_ble_eq_true rfl) dX5_takeAct_39 (fun H locs hI => ?_)
  refine lv_istore_n (lv' := [(3, .int v7), (2, .int v5), (0, .ref (ad 599)), (1, .int a1)]) hx hb dX5_takeAct_42 rfl hl (by decide) rfl (fun ls hl => ?_)
  refine lv_aload_n hx hb dX5_takeAct_43 rfl (lv_at hl 2 rfl) ?_
  refine lv_iload_n hx hb dX5_takeAct_44 rfl (lv_at hl 3 rfl) ?_
  refine lv_iload_n hx hb dX5_takeAct_45 rfl (lv_at hl 1 rfl) ?_
  refine lv_iload_n hx hb dX5_takeAct_46 rfl (lv_at hl 0 rfl) ?_
  refine lv_iconst (v := (0 : Int32)) hx hb dX5_takeAct_47 (by decide) ?_
  obtain ⟨S, hc8, hf⟩ := x_b_eq hf
  refine x_callV hC hI (c_X5_emit hc8) 5 5 rfl rfl kv_X5_116 rfl ⟨Nat.le_of_ble_eq_true rfl, Nat.le_of_ble_eq_true rfl⟩ ⟨Nat.le_refl _, Nat.le_refl _⟩ hl.1 rfl (Nat.le_of_ble_eq_true rfl) dX5_takeAct_48 (fun H locs hI => ?_)
  obtain rfl := Option.some.inj hf
  exact hR _ _ _ _ hI dX5_takeAct_51
def f_X5_takeAct_26 (n : Nat) (S : x_S) (a1 : Int32) : Option (x_S) :=
f_X5_takeAct_27 n S a1 (0 : Int32)
set_option maxHeartbeats 4000000 in
set_option maxRecDepth 100000 in
theorem w_X5_takeAct_26 {r : x_S} {a1 : Int32} (hC : x_C p s m args meth c cX5_takeAct 4 RX5 E A) (hR : x_Rv p l e { frames := 3, cells := 0, slots := 0, locals := 69 } s m args below meth c cX5_takeAct E A Q (cw E ad ap r)) (hI : x_I E A s.heap (cw E ad ap S) H locs) (hl : lv_has ls 4 [(0, .ref (ad 599)), (1, .int a1)]) (hf : f_X5_takeAct_26 n S a1 = some r) : W p l e { frames := 3, cells := 0, slots := 0, locals := 69 } s m args below meth c H locs 0 0 Q (F0 m 26 ls [.ref (ad 599)]) := by
  obtain ⟨hx, hb, hml, hown, hts, hK, hN, hA⟩ := id hC
  unfold f_X5_takeAct_26 at hf
  refine lv_iconst (v := (0 : Int32)) hx hb dX5_takeAct_26 (by decide) ?_
  exact w_X5_takeAct_27 hC hR hI (lv_sub hl [0, 1] rfl) hf
def f_X5_takeAct (n : Nat) (S : x_S) : Option (x_S) :=
x_b2 (f_X5_take n S) (fun v2 S =>
if v2 < 0 then
f_X5_takeAct_26 n S v2
else
if (5 : Int32) < v2 then
f_X5_takeAct_26 n S v2
else
x_b (f_X6_isJump n v2) (fun v10 =>
if v10 = 0 then
f_X5_takeAct_27 n S v2 (1 : Int32)
else
f_X5_takeAct_26 n S v2))
set_option maxHeartbeats 4000000 in
set_option maxRecDepth 100000 in
theorem w_X5_takeAct {r : x_S} (hC : x_C p s m args meth c cX5_takeAct 4 RX5 E A) (hR : x_Rv p l e { frames := 3, cells := 0, slots := 0, locals := 69 } s m args below meth c cX5_takeAct E A Q (cw E ad ap r)) (hI : x_I E A s.heap (cw E ad ap S) H locs) (hl : lv_has ls 4 [(0, .ref (ad 599))]) (hf : f_X5_takeAct n S = some r) : W p l e { frames := 3, cells := 0, slots := 0, locals := 69 } s m args below meth c H locs 0 0 Q (F0 m 0 ls []) := by
  obtain ⟨hx, hb, hml, hown, hts, hK, hN, hA⟩ := id hC
  unfold f_X5_takeAct at hf
  refine lv_aload_n hx hb dX5_takeAct_0 rfl (lv_at hl 0 rfl) ?_
  obtain ⟨v2, S, hc1, hf⟩ := x_b2_eq hf
  refine x_callV hC hI (c_X5_take hc1) 5 5 rfl rfl kv_X5_87 rfl ⟨Nat.le_of_ble_eq_true rfl, Nat.le_of_ble_eq_true rfl⟩ ⟨Nat.le_refl _, Nat.le_refl _⟩ hl.1 rfl (Nat.le_of_ble_eq_true rfl) dX5_takeAct_1 (fun H locs hI => ?_)
  refine lv_istore_n (lv' := [(1, .int v2), (0, .ref (ad 599))]) hx hb dX5_takeAct_4 rfl hl (by decide) rfl (fun ls hl => ?_)
  refine lv_aload_n hx hb dX5_takeAct_5 rfl (lv_at hl 1 rfl) ?_
  refine lv_iload_n hx hb dX5_takeAct_6 rfl (lv_at hl 0 rfl) ?_
  refine x_lt0 hC 26 hf dX5_takeAct_7 (by decide) (fun hf => ?_) (fun hf => ?_)
  · exact w_X5_takeAct_26 hC hR hI (lv_sub hl [1, 0] rfl) hf
  · refine lv_iload_n hx hb dX5_takeAct_10 rfl (lv_at hl 0 rfl) ?_
    refine lv_iconst (v := (5 : Int32)) hx hb dX5_takeAct_11 (by decide) ?_
    refine x_igt hC 26 hf dX5_takeAct_12 (by decide) (fun hf => ?_) (fun hf => ?_)
    · exact w_X5_takeAct_26 hC hR hI (lv_sub hl [1, 0] rfl) hf
    · refine lv_iload_n hx hb dX5_takeAct_15 rfl (lv_at hl 0 rfl) ?_
      obtain ⟨v10, hc9, hf⟩ := x_b_eq hf
      refine x_callN hC hI (c_X6_isJump hc9) ks_X5_105 rfl ⟨Nat.le_of_ble_eq_true rfl, Nat.le_of_ble_eq_true rfl⟩ ⟨Nat.le_refl _, Nat.le_refl _⟩ hl.1 rfl (Nat.le_of_ble_eq_true rfl) dX5_takeAct_16 (fun H locs hI => ?_)
      refine x_ne0 hC 26 hf dX5_takeAct_19 (by decide) (fun hf => ?_) (fun hf => ?_)
      · exact w_X5_takeAct_26 hC hR hI (lv_sub hl [1, 0] rfl) hf
      · refine lv_iconst (v := (1 : Int32)) hx hb dX5_takeAct_22 (by decide) ?_
        refine lv_goto (tgt := 27) hx hb dX5_takeAct_23 (by decide) ?_
        exact w_X5_takeAct_27 hC hR hI (lv_sub hl [1, 0] rfl) hf
theorem c_X5_takeAct {S1 : x_S} (hf : f_X5_takeAct n S = some S1) : x_M l yX5_takeAct cX5_takeAct 4 none 3 69 E [.ref (ad 599)] (cw E ad ap S) (cw E ad ap S1) none :=
  x_entV (by decide) (Nat.le_of_ble_eq_true rfl) (fun p e s m args below meth c A Q ls hC hI hR hl => w_X5_takeAct (r := S1) hC hR hI hl hf)
-- X5_takeTested
def f_X5_takeTested_32 (n : Nat) (S : x_S) (a1 : Int32) (a2 : Int32) (a3 : Int32) : Option (x_S) :=
if a1 = (5 : Int32) then
x_b (f_X5_openBody n S (5 : Int32) (-1 : Int32) a2 a3) (fun S =>
some S)
else
x_let (g_sc S 505) (fun v6 =>
x_b (f_X5_openBody n S a1 v6 a2 a3) (fun S =>
x_b (f_X5_emit n S (3 : Int32) a2 a3 (0 : Int32)) (fun S =>
some S)))
set_option maxHeartbeats 4000000 in
set_option maxRecDepth 100000 in
theorem w_X5_takeTested_32 {r : x_S} {a1 : Int32} {a2 : Int32} {a3 : Int32} (hC : x_C p s m args meth c cX5_takeTested 4 RX5 E A) (hR : x_Rv p l e { frames := 3, cells := 0, slots := 0, locals := 69 } s m args below meth c cX5_takeTested E A Q (cw E ad ap r)) (hI : x_I E A s.heap (cw E ad ap S) H locs) (hl : lv_has ls 4 [(0, .ref (ad 599)), (1, .int a1), (2, .int a2), (3, .int a3)]) (hf : f_X5_takeTested_32 n S a1 a2 a3 = some r) : W p l e { frames := 3, cells := 0, slots := 0, locals := 69 } s m args below meth c H locs 0 0 Q (F0 m 32 ls []) := by
  obtain ⟨hx, hb, hml, hown, hts, hK, hN, hA⟩ := id hC
  unfold f_X5_takeTested_32 at hf
  refine lv_iload_n hx hb dX5_takeTested_32 rfl (lv_at hl 1 rfl) ?_
  refine lv_iconst (v := (5 : Int32)) hx hb dX5_takeTested_33 (by decide) ?_
  refine x_ine hC 46 hf dX5_takeTested_34 (by decide) (fun hf => ?_) (fun hf => ?_)
  · refine lv_aload_n hx hb dX5_takeTested_46 rfl (lv_at hl 0 rfl) ?_
    refine lv_iload_n hx hb dX5_takeTested_47 rfl (lv_at hl 1 rfl) ?_
    refine lv_aload_n hx hb dX5_takeTested_48 rfl (lv_at hl 0 rfl) ?_
    refine gX5_5 hC hI hf lkf_X5_32 dX5_takeTested_49 (fun v6 hf => ?_)
    refine lv_iload_n hx hb dX5_takeTested_52 rfl (lv_at hl 2 rfl) ?_
    refine lv_iload_n hx hb dX5_takeTested_53 rfl (lv_at hl 3 rfl) ?_
    obtain ⟨S, hc7, hf⟩ := x_b_eq hf
    refine x_callV hC hI (c_X5_openBody hc7) 5 5 rfl rfl kv_X5_65 rfl ⟨Nat.le_of_ble_eq_true rfl, Nat.le_of_ble_eq_true rfl⟩ ⟨Nat.le_refl _, Nat.le_refl _⟩ hl.1 rfl (Nat.le_of_ble_eq_true rfl) dX5_takeTested_54 (fun H locs hI => ?_)
    refine lv_aload_n hx hb dX5_takeTested_57 rfl (lv_at hl 0 rfl) ?_
    refine lv_iconst (v := (3 : Int32)) hx hb dX5_takeTested_58 (by decide) ?_
    refine lv_iload_n hx hb dX5_takeTested_59 rfl (lv_at hl 2 rfl) ?_
    refine lv_iload_n hx hb dX5_takeTested_60 rfl (lv_at hl 3 rfl) ?_
    refine lv_iconst (v := (0 : Int32)) hx hb dX5_takeTested_61 (by decide) ?_
    obtain ⟨S, hc8, hf⟩ := x_b_eq hf
    refine x_callV hC hI (c_X5_emit hc8) 5 5 rfl rfl kv_X5_116 rfl ⟨Nat.le_of_ble_eq_true rfl, Nat.le_of_ble_eq_true rfl⟩ ⟨Nat.le_refl _, Nat.le_refl _⟩ hl.1 rfl (Nat.le_of_ble_eq_true rfl) dX5_takeTested_62 (fun H locs hI => ?_)
    obtain rfl := Option.some.inj hf
    exact hR _ _ _ _ hI dX5_takeTested_65
  · refine lv_aload_n hx hb dX5_takeTested_37 rfl (lv_at hl 0 rfl) ?_
    refine lv_iconst (v := (5 : Int32)) hx hb dX5_takeTested_38 (by decide) ?_
    refine lv_iconst (v := (-1 : Int32)) hx hb dX5_takeTested_39 (by decide) ?_
    refine lv_iload_n hx hb dX5_takeTested_40 rfl (lv_at hl 2 rfl) ?_
    refine lv_iload_n hx hb dX5_takeTested_41 rfl (lv_at hl 3 rfl) ?_
    obtain ⟨S, hc9, hf⟩ := x_b_eq hf
    refine x_callV hC hI (c_X5_openBody hc9) 5 5 rfl rfl kv_X5_65 rfl ⟨Nat.le_of_ble_eq_true rfl, Nat.le_of_ble_eq_true rfl⟩ ⟨Nat.le_refl _, Nat.le_refl _⟩ hl.1 rfl (Nat.le_of_ble_eq_true rfl) dX5_takeTested_42 (fun H locs hI => ?_)
    obtain rfl := Option.some.inj hf
    exact hR _ _ _ _ hI dX5_takeTested_45
def f_X5_takeTested_22 (n : Nat) (S : x_S) (a1 : Int32) (a2 : Int32) (a3 : Int32) : Option (x_S) :=
x_let (g_sc S 507) (fun v5 =>
x_let (s_sc S 507 (v5 + (1 : Int32))) (fun S =>
f_X5_takeTested_32 n S a1 a2 a3))
set_option maxHeartbeats 4000000 in
set_option maxRecDepth 100000 in
theorem w_X5_takeTested_22 {r : x_S} {a1 : Int32} {a2 : Int32} {a3 : Int32} (hC : x_C p s m args meth c cX5_takeTested 4 RX5 E A) (hR : x_Rv p l e { frames := 3, cells := 0, slots := 0, locals := 69 } s m args below meth c cX5_takeTested E A Q (cw E ad ap r)) (hI : x_I E A s.heap (cw E ad ap S) H locs) (hl : lv_has ls 4 [(0, .ref (ad 599)), (1, .int a1), (2, .int a2), (3, .int a3)]) (hf : f_X5_takeTested_22 n S a1 a2 a3 = some r) : W p l e { frames := 3, cells := 0, slots := 0, locals := 69 } s m args below meth c H locs 0 0 Q (F0 m 22 ls []) := by
  obtain ⟨hx, hb, hml, hown, hts, hK, hN, hA⟩ := id hC
  unfold f_X5_takeTested_22 at hf
  refine lv_aload_n hx hb dX5_takeTested_22 rfl (lv_at hl 0 rfl) ?_
  refine lv_dup hx hb dX5_takeTested_23 rfl ?_
  refine gX5_7 hC hI hf lkf_X5_38 dX5_takeTested_24 (fun v5 hf => ?_)
  refine lv_iconst (v := (1 : Int32)) hx hb dX5_takeTested_27 (by decide) ?_
  refine lv_iadd hx hb dX5_takeTested_28 ?_
  refine pX5_7 hC hI hf lkf_X5_38 dX5_takeTested_29 (fun S H locs hI hf => ?_)
  exact w_X5_takeTested_32 hC hR hI (lv_sub hl [0, 1, 2, 3] rfl) hf
def f_X5_takeTested (n : Nat) (S : x_S) (a1 : Int32) : Option (x_S) :=
x_b2 (f_X5_takeA n S (3 : Int32)) (fun v2 S =>
x_b2 (f_X5_takeB n S (3 : Int32)) (fun v4 S =>
if a1 = (4 : Int32) then
f_X5_takeTested_22 n S a1 v2 v4
else
if a1 = (5 : Int32) then
f_X5_takeTested_22 n S a1 v2 v4
else
f_X5_takeTested_32 n S a1 v2 v4))
set_option maxHeartbeats 4000000 in
set_option maxRecDepth 100000 in
theorem w_X5_takeTested {r : x_S} {a1 : Int32} (hC : x_C p s m args meth c cX5_takeTested 4 RX5 E A) (hR : x_Rv p l e { frames := 3, cells := 0, slots := 0, locals := 69 } s m args below meth c cX5_takeTested E A Q (cw E ad ap r)) (hI : x_I E A s.heap (cw E ad ap S) H locs) (hl : lv_has ls 4 [(0, .ref (ad 599)), (1, .int a1)]) (hf : f_X5_takeTested n S a1 = some r) : W p l e { frames := 3, cells := 0, slots := 0, locals := 69 } s m args below meth c H locs 0 0 Q (F0 m 0 ls []) := by
  obtain ⟨hx, hb, hml, hown, hts, hK, hN, hA⟩ := id hC
  unfold f_X5_takeTested at hf
  refine lv_aload_n hx hb dX5_takeTested_0 rfl (lv_at hl 0 rfl) ?_
  refine lv_iconst (v := (3 : Int32)) hx hb dX5_takeTested_1 (by decide) ?_
  obtain ⟨v2, S, hc1, hf⟩ := x_b2_eq hf
  refine x_callV hC hI (c_X5_takeA hc1) 5 5 rfl rfl kv_X5_109 rfl ⟨Nat.le_of_ble_eq_true rfl, Nat.le_of_ble_eq_true rfl⟩ ⟨Nat.le_refl _, Nat.le_refl _⟩ hl.1 rfl (Nat.le_of_ble_eq_true rfl) dX5_takeTested_2 (fun H locs hI => ?_)
  refine lv_istore_n (lv' := [(2, .int v2), (0, .ref (ad 599)), (1, .int a1)]) hx hb dX5_takeTested_5 rfl hl (by decide) rfl (fun ls hl => ?_)
  refine lv_aload_n hx hb dX5_takeTested_6 rfl (lv_at hl 1 rfl) ?_
  refine lv_iconst (v := (3 : Int32)) hx hb dX5_takeTested_7 (by decide) ?_
  obtain ⟨v4, S, hc3, hf⟩ := x_b2_eq hf
  refine x_callV hC hI (c_X5_takeB hc3) 5 5 rfl rfl kv_X5_113 rfl ⟨Nat.le_of_ble_eq_true rfl, Nat.le_of_ble_eq_true rfl⟩ ⟨Nat.le_refl _, Nat.le_refl _⟩ hl.1 rfl (Nat.le_of_ble_eq_true rfl) dX5_takeTested_8 (fun H locs hI => ?_)
  refine lv_istore_n (lv' := [(3, .int v4), (2, .int v2), (0, .ref (ad 599)), (1, .int a1)]) hx hb dX5_takeTested_11 rfl hl (by decide) rfl (fun ls hl => ?_)
  refine lv_iload_n hx hb dX5_takeTested_12 rfl (lv_at hl 3 rfl) ?_
  refine lv_iconst (v := (4 : Int32)) hx hb dX5_takeTested_13 (by decide) ?_
  refine x_ieq hC 22 hf dX5_takeTested_14 (by decide) (fun hf => ?_) (fun hf => ?_)
  · exact w_X5_takeTested_22 hC hR hI (lv_sub hl [2, 3, 1, 0] rfl) hf
  · refine lv_iload_n hx hb dX5_takeTested_17 rfl (lv_at hl 3 rfl) ?_
    refine lv_iconst (v := (5 : Int32)) hx hb dX5_takeTested_18 (by decide) ?_
    refine x_ine hC 32 hf dX5_takeTested_19 (by decide) (fun hf => ?_) (fun hf => ?_)
    · exact w_X5_takeTested_32 hC hR hI (lv_sub hl [2, 3, 1, 0] rfl) hf
    · exact w_X5_takeTested_22 hC hR hI (lv_sub hl [2, 3, 1, 0] rfl) hf
theorem c_X5_takeTested {a1 : Int32} {S1 : x_S} (hf : f_X5_takeTested n S a1 = some S1) : x_M l yX5_takeTested cX5_takeTested 4 none 3 69 E [.ref (ad 599), .int a1] (cw E ad ap S) (cw E ad ap S1) none :=
  x_entV (by decide) (Nat.le_of_ble_eq_true rfl) (fun p e s m args below meth c A Q ls hC hI hR hl => w_X5_takeTested (r := S1) hC hR hI hl hf)
-- X5_takePlace
def f_X5_takePlace_15 (n : Nat) (S : x_S) (a1 : Int32) (t0 : Int32) : Option (Int32 × x_S) :=
x_b (f_X5_require n S t0 (6 : Int32)) (fun S =>
x_let (g_sc S 506) (fun v4 =>
x_let (if v4 < a1 then a1 else v4) (fun v5 =>
x_let (s_sc S 506 v5) (fun S =>
some (a1, S)))))
set_option maxHeartbeats 4000000 in
set_option maxRecDepth 100000 in
theorem w_X5_takePlace_15 {r : Int32 × x_S} {a1 : Int32} {t0 : Int32} (hC : x_C p s m args meth c cX5_takePlace 2 RX5 E A) (hR : x_Ri p l e { frames := 1, cells := 0, slots := 0, locals := 22 } s m args below meth c cX5_takePlace E A Q (cw E ad ap r.2) r.1) (hI : x_I E A s.heap (cw E ad ap S) H locs) (hl : lv_has ls 2 [(0, .ref (ad 599)), (1, .int a1)]) (hf : f_X5_takePlace_15 n S a1 t0 = some r) : W p l e { frames := 1, cells := 0, slots := 0, locals := 22 } s m args below meth c H locs 0 0 Q (F0 m 15 ls [.int t0, .ref (ad 599)]) := by
  obtain ⟨hx, hb, hml, hown, hts, hK, hN, hA⟩ := id hC
  unfold f_X5_takePlace_15 at hf
  refine lv_bipush (v := (6 : Int32)) hx hb dX5_takePlace_15 (by decide) ?_
  obtain ⟨S, hc3, hf⟩ := x_b_eq hf
  refine x_callV hC hI (c_X5_require hc3) 5 5 rfl rfl kv_X5_91 rfl ⟨Nat.le_of_ble_eq_true rfl, Nat.le_of_ble_eq_true rfl⟩ ⟨Nat.le_refl _, Nat.le_refl _⟩ hl.1 rfl (Nat.le_of_ble_eq_true rfl) dX5_takePlace_17 (fun H locs hI => ?_)
  refine lv_aload_n hx hb dX5_takePlace_20 rfl (lv_at hl 0 rfl) ?_
  refine lv_aload_n hx hb dX5_takePlace_21 rfl (lv_at hl 0 rfl) ?_
  refine gX5_6 hC hI hf lkf_X5_35 dX5_takePlace_22 (fun v4 hf => ?_)
  refine lv_iload_n hx hb dX5_takePlace_25 rfl (lv_at hl 1 rfl) ?_
  refine x_max hC hl.1 hf lkj_X5_126 lkj_max_st lkj_max_in lkj_max_co ⟨Nat.le_of_ble_eq_true rfl, Nat.le_of_ble_eq_true rfl⟩ ⟨Nat.le_refl _, Nat.le_refl _⟩ dX5_takePlace_26 (fun v5 hf => ?_)
  refine pX5_6 hC hI hf lkf_X5_35 dX5_takePlace_29 (fun S H locs hI hf => ?_)
  refine lv_iload_n hx hb dX5_takePlace_32 rfl (lv_at hl 1 rfl) ?_
  obtain rfl := Option.some.inj hf
  exact hR _ _ _ _ hI dX5_takePlace_33
def f_X5_takePlace (n : Nat) (S : x_S) : Option (Int32 × x_S) :=
x_b2 (f_X5_take n S) (fun v2 S =>
if v2 < 0 then
f_X5_takePlace_15 n S v2 (0 : Int32)
else
f_X5_takePlace_15 n S v2 (1 : Int32))
set_option maxHeartbeats 4000000 in
set_option maxRecDepth 100000 in
theorem w_X5_takePlace {r : Int32 × x_S} (hC : x_C p s m args meth c cX5_takePlace 2 RX5 E A) (hR : x_Ri p l e { frames := 1, cells := 0, slots := 0, locals := 22 } s m args below meth c cX5_takePlace E A Q (cw E ad ap r.2) r.1) (hI : x_I E A s.heap (cw E ad ap S) H locs) (hl : lv_has ls 2 [(0, .ref (ad 599))]) (hf : f_X5_takePlace n S = some r) : W p l e { frames := 1, cells := 0, slots := 0, locals := 22 } s m args below meth c H locs 0 0 Q (F0 m 0 ls []) := by
  obtain ⟨hx, hb, hml, hown, hts, hK, hN, hA⟩ := id hC
  unfold f_X5_takePlace at hf
  refine lv_aload_n hx hb dX5_takePlace_0 rfl (lv_at hl 0 rfl) ?_
  obtain ⟨v2, S, hc1, hf⟩ := x_b2_eq hf
  refine x_callV hC hI (c_X5_take hc1) 5 5 rfl rfl kv_X5_87 rfl ⟨Nat.le_of_ble_eq_true rfl, Nat.le_of_ble_eq_true rfl⟩ ⟨Nat.le_refl _, Nat.le_refl _⟩ hl.1 rfl (Nat.le_of_ble_eq_true rfl) dX5_takePlace_1 (fun H locs hI => ?_)
  refine lv_istore_n (lv' := [(1, .int v2), (0, .ref (ad 599))]) hx hb dX5_takePlace_4 rfl hl (by decide) rfl (fun ls hl => ?_)
  refine lv_aload_n hx hb dX5_takePlace_5 rfl (lv_at hl 1 rfl) ?_
  refine lv_iload_n hx hb dX5_takePlace_6 rfl (lv_at hl 0 rfl) ?_
  refine x_lt0 hC 14 hf dX5_takePlace_7 (by decide) (fun hf => ?_) (fun hf => ?_)
  · refine lv_iconst (v := (0 : Int32)) hx hb dX5_takePlace_14 (by decide) ?_
    exact w_X5_takePlace_15 hC hR hI (lv_sub hl [1, 0] rfl) hf
  · refine lv_iconst (v := (1 : Int32)) hx hb dX5_takePlace_10 (by decide) ?_
    refine lv_goto (tgt := 15) hx hb dX5_takePlace_11 (by decide) ?_
    exact w_X5_takePlace_15 hC hR hI (lv_sub hl [1, 0] rfl) hf
theorem c_X5_takePlace {v : Int32} {S1 : x_S} (hf : f_X5_takePlace n S = some (v, S1)) : x_M l yX5_takePlace cX5_takePlace 2 (some .int) 1 22 E [.ref (ad 599)] (cw E ad ap S) (cw E ad ap S1) (some (.int v)) :=
  x_entI (by decide) (Nat.le_of_ble_eq_true rfl) (fun p e s m args below meth c A Q ls hC hI hR hl => w_X5_takePlace (r := (v, S1)) hC hR hI hl hf)
-- X5_takeLeap
def f_X5_takeLeap_107 (n : Nat) (S : x_S) (a3 : Int32) (a4 : Int32) (a5 : Int32) (a6 : Int32) (t0 : Int32) : Option (x_S) :=
x_b (f_X5_emit n S t0 a4 a5 a6) (fun S =>
if a3 = (8 : Int32) then
some S
else
x_let (g_sc S 505) (fun v3 =>
if (60 : Int32) < v3 then
some S
else
x_let (g_sc S 505) (fun v4 =>
x_g (¬ ((v4 - (1 : Int32)) < 0 ∨ 60 ≤ ((v4 - (1 : Int32))).toNatClampNeg)) (x_let (s_ar S 508 ((v4 - (1 : Int32))).toNatClampNeg a3) (fun S =>
some S)))))
set_option maxHeartbeats 4000000 in
set_option maxRecDepth 100000 in
theorem w_X5_takeLeap_107 {r : x_S} {a3 : Int32} {a4 : Int32} {a5 : Int32} {a6 : Int32} {t0 : Int32} (hC : x_C p s m args meth c cX5_takeLeap 7 RX5 E A) (hR : x_Rv p l e { frames := 3, cells := 0, slots := 0, locals := 69 } s m args below meth c cX5_takeLeap E A Q (cw E ad ap r)) (hI : x_I E A s.heap (cw E ad ap S) H locs) (hl : lv_has ls 7 [(0, .ref (ad 599)), (3, .int a3), (4, .int a4), (5, .int a5), (6, .int a6)]) (hf : f_X5_takeLeap_107 n S a3 a4 a5 a6 t0 = some r) : W p l e { frames := 3, cells := 0, slots := 0, locals := 69 } s m args below meth c H locs 0 0 Q (F0 m 107 ls [.int t0, .ref (ad 599)]) := by
  obtain ⟨hx, hb, hml, hown, hts, hK, hN, hA⟩ := id hC
  unfold f_X5_takeLeap_107 at hf
  refine lv_iload hx hb dX5_takeLeap_107 (lv_at hl 2 rfl) ?_
  refine lv_iload hx hb dX5_takeLeap_109 (lv_at hl 3 rfl) ?_
  refine lv_iload hx hb dX5_takeLeap_111 (lv_at hl 4 rfl) ?_
  obtain ⟨S, hc2, hf⟩ := x_b_eq hf
  refine x_callV hC hI (c_X5_emit hc2) 5 5 rfl rfl kv_X5_116 rfl ⟨Nat.le_of_ble_eq_true rfl, Nat.le_of_ble_eq_true rfl⟩ ⟨Nat.le_refl _, Nat.le_refl _⟩ hl.1 rfl (Nat.le_of_ble_eq_true rfl) dX5_takeLeap_113 (fun H locs hI => ?_)
  refine lv_iload_n hx hb dX5_takeLeap_116 rfl (lv_at hl 1 rfl) ?_
  refine lv_bipush (v := (8 : Int32)) hx hb dX5_takeLeap_117 (by decide) ?_
  refine x_ieq hC 143 hf dX5_takeLeap_119 (by decide) (fun hf => ?_) (fun hf => ?_)
  · obtain rfl := Option.some.inj hf
    exact hR _ _ _ _ hI dX5_takeLeap_143
  · refine lv_aload_n hx hb dX5_takeLeap_122 rfl (lv_at hl 0 rfl) ?_
    refine gX5_5 hC hI hf lkf_X5_32 dX5_takeLeap_123 (fun v3 hf => ?_)
    refine lv_bipush (v := (60 : Int32)) hx hb dX5_takeLeap_126 (by decide) ?_
    refine x_igt hC 143 hf dX5_takeLeap_128 (by decide) (fun hf => ?_) (fun hf => ?_)
    · obtain rfl := Option.some.inj hf
      exact hR _ _ _ _ hI dX5_takeLeap_143
    · refine lv_aload_n hx hb dX5_takeLeap_131 rfl (lv_at hl 0 rfl) ?_
      refine gX5_8 hC hI lkf_X5_41 dX5_takeLeap_132 ?_
      refine lv_aload_n hx hb dX5_takeLeap_135 rfl (lv_at hl 0 rfl) ?_
      refine gX5_5 hC hI hf lkf_X5_32 dX5_takeLeap_136 (fun v4 hf => ?_)
      refine lv_iconst (v := (1 : Int32)) hx hb dX5_takeLeap_139 (by decide) ?_
      refine lv_isub hx hb dX5_takeLeap_140 ?_
      refine lv_iload_n hx hb dX5_takeLeap_141 rfl (lv_at hl 1 rfl) ?_
      refine tX5_8 hC hI hf dX5_takeLeap_142 (fun S H locs hI hf => ?_)
      obtain rfl := Option.some.inj hf
      exact hR _ _ _ _ hI dX5_takeLeap_143
def f_X5_takeLeap_95 (n : Nat) (S : x_S) (a2 : Int32) (a3 : Int32) (a4 : Int32) (a5 : Int32) (t0 : Int32) : Option (x_S) :=
if a2 = 0 then
f_X5_takeLeap_107 n S a3 a4 a5 t0 (2 : Int32)
else
f_X5_takeLeap_107 n S a3 a4 a5 t0 (3 : Int32)
set_option maxHeartbeats 4000000 in
set_option maxRecDepth 100000 in
theorem w_X5_takeLeap_95 {r : x_S} {a2 : Int32} {a3 : Int32} {a4 : Int32} {a5 : Int32} {t0 : Int32} (hC : x_C p s m args meth c cX5_takeLeap 7 RX5 E A) (hR : x_Rv p l e { frames := 3, cells := 0, slots := 0, locals := 69 } s m args below meth c cX5_takeLeap E A Q (cw E ad ap r)) (hI : x_I E A s.heap (cw E ad ap S) H locs) (hl : lv_has ls 7 [(0, .ref (ad 599)), (2, .int a2), (3, .int a3), (4, .int a4), (5, .int a5)]) (hf : f_X5_takeLeap_95 n S a2 a3 a4 a5 t0 = some r) : W p l e { frames := 3, cells := 0, slots := 0, locals := 69 } s m args below meth c H locs 0 0 Q (F0 m 95 ls [.int t0]) := by
  obtain ⟨hx, hb, hml, hown, hts, hK, hN, hA⟩ := id hC
  unfold f_X5_takeLeap_95 at hf
  refine lv_istore (lv' := [(6, .int t0), (0, .ref (ad 599)), (2, .int a2), (3, .int a3), (4, .int a4), (5, .int a5)]) hx hb dX5_takeLeap_95 hl (by decide) rfl (fun ls hl => ?_)
  refine lv_aload_n hx hb dX5_takeLeap_97 rfl (lv_at hl 1 rfl) ?_
  refine lv_iload_n hx hb dX5_takeLeap_98 rfl (lv_at hl 2 rfl) ?_
  refine x_eq0 hC 106 hf dX5_takeLeap_99 (by decide) (fun hf => ?_) (fun hf => ?_)
  · refine lv_iconst (v := (2 : Int32)) hx hb dX5_takeLeap_106 (by decide) ?_
    exact w_X5_takeLeap_107 hC hR hI (lv_sub hl [1, 3, 4, 5, 0] rfl) hf
  · refine lv_iconst (v := (3 : Int32)) hx hb dX5_takeLeap_102 (by decide) ?_
    refine lv_goto (tgt := 107) hx hb dX5_takeLeap_103 (by decide) ?_
    exact w_X5_takeLeap_107 hC hR hI (lv_sub hl [1, 3, 4, 5, 0] rfl) hf
def f_X5_takeLeap_79 (n : Nat) (S : x_S) (a2 : Int32) (a3 : Int32) (a4 : Int32) (t0 : Int32) : Option (x_S) :=
if a3 = (8 : Int32) then
x_b2 (f_X5_takePlace n S) (fun v6 S =>
f_X5_takeLeap_95 n S a2 a3 a4 t0 v6)
else
f_X5_takeLeap_95 n S a2 a3 a4 t0 (0 : Int32)
set_option maxHeartbeats 4000000 in
set_option maxRecDepth 100000 in
theorem w_X5_takeLeap_79 {r : x_S} {a2 : Int32} {a3 : Int32} {a4 : Int32} {t0 : Int32} (hC : x_C p s m args meth c cX5_takeLeap 7 RX5 E A) (hR : x_Rv p l e { frames := 3, cells := 0, slots := 0, locals := 69 } s m args below meth c cX5_takeLeap E A Q (cw E ad ap r)) (hI : x_I E A s.heap (cw E ad ap S) H locs) (hl : lv_has ls 7 [(0, .ref (ad 599)), (2, .int a2), (3, .int a3), (4, .int a4)]) (hf : f_X5_takeLeap_79 n S a2 a3 a4 t0 = some r) : W p l e { frames := 3, cells := 0, slots := 0, locals := 69 } s m args below meth c H locs 0 0 Q (F0 m 79 ls [.int t0]) := by
  obtain ⟨hx, hb, hml, hown, hts, hK, hN, hA⟩ := id hC
  unfold f_X5_takeLeap_79 at hf
  refine lv_istore (lv' := [(5, .int t0), (0, .ref (ad 599)), (2, .int a2), (3, .int a3), (4, .int a4)]) hx hb dX5_takeLeap_79 hl (by decide) rfl (fun ls hl => ?_)
  refine lv_iload_n hx hb dX5_takeLeap_81 rfl (lv_at hl 3 rfl) ?_
  refine lv_bipush (v := (8 : Int32)) hx hb dX5_takeLeap_82 (by decide) ?_
  refine x_ine hC 94 hf dX5_takeLeap_84 (by decide) (fun hf => ?_) (fun hf => ?_)
  · refine lv_iconst (v := (0 : Int32)) hx hb dX5_takeLeap_94 (by decide) ?_
    exact w_X5_takeLeap_95 hC hR hI (lv_sub hl [1, 2, 3, 4, 0] rfl) hf
  · refine lv_aload_n hx hb dX5_takeLeap_87 rfl (lv_at hl 1 rfl) ?_
    obtain ⟨v6, S, hc5, hf⟩ := x_b2_eq hf
    refine x_callV hC hI (c_X5_takePlace hc5) 5 5 rfl rfl kv_X5_129 rfl ⟨Nat.le_of_ble_eq_true rfl, Nat.le_of_ble_eq_true rfl⟩ ⟨Nat.le_refl _, Nat.le_refl _⟩ hl.1 rfl (Nat.le_of_ble_eq_true rfl) dX5_takeLeap_88 (fun H locs hI => ?_)
    refine lv_goto (tgt := 95) hx hb dX5_takeLeap_91 (by decide) ?_
    exact w_X5_takeLeap_95 hC hR hI (lv_sub hl [1, 2, 3, 4, 0] rfl) hf
def f_X5_takeLeap_64 (n : Nat) (S : x_S) (a2 : Int32) (a3 : Int32) (t0 : Int32) : Option (x_S) :=
if a2 = 0 then
f_X5_takeLeap_79 n S a2 a3 t0 (0 : Int32)
else
x_b2 (f_X5_takeB n S (3 : Int32)) (fun v8 S =>
f_X5_takeLeap_79 n S a2 a3 t0 v8)
set_option maxHeartbeats 4000000 in
set_option maxRecDepth 100000 in
theorem w_X5_takeLeap_64 {r : x_S} {a2 : Int32} {a3 : Int32} {t0 : Int32} (hC : x_C p s m args meth c cX5_takeLeap 7 RX5 E A) (hR : x_Rv p l e { frames := 3, cells := 0, slots := 0, locals := 69 } s m args below meth c cX5_takeLeap E A Q (cw E ad ap r)) (hI : x_I E A s.heap (cw E ad ap S) H locs) (hl : lv_has ls 7 [(0, .ref (ad 599)), (2, .int a2), (3, .int a3)]) (hf : f_X5_takeLeap_64 n S a2 a3 t0 = some r) : W p l e { frames := 3, cells := 0, slots := 0, locals := 69 } s m args below meth c H locs 0 0 Q (F0 m 64 ls [.int t0]) := by
  obtain ⟨hx, hb, hml, hown, hts, hK, hN, hA⟩ := id hC
  unfold f_X5_takeLeap_64 at hf
  refine lv_istore (lv' := [(4, .int t0), (0, .ref (ad 599)), (2, .int a2), (3, .int a3)]) hx hb dX5_takeLeap_64 hl (by decide) rfl (fun ls hl => ?_)
  refine lv_iload_n hx hb dX5_takeLeap_66 rfl (lv_at hl 2 rfl) ?_
  refine x_eq0 hC 78 hf dX5_takeLeap_67 (by decide) (fun hf => ?_) (fun hf => ?_)
  · refine lv_iconst (v := (0 : Int32)) hx hb dX5_takeLeap_78 (by decide) ?_
    exact w_X5_takeLeap_79 hC hR hI (lv_sub hl [1, 2, 3, 0] rfl) hf
  · refine lv_aload_n hx hb dX5_takeLeap_70 rfl (lv_at hl 1 rfl) ?_
    refine lv_iconst (v := (3 : Int32)) hx hb dX5_takeLeap_71 (by decide) ?_
    obtain ⟨v8, S, hc7, hf⟩ := x_b2_eq hf
    refine x_callV hC hI (c_X5_takeB hc7) 5 5 rfl rfl kv_X5_113 rfl ⟨Nat.le_of_ble_eq_true rfl, Nat.le_of_ble_eq_true rfl⟩ ⟨Nat.le_refl _, Nat.le_refl _⟩ hl.1 rfl (Nat.le_of_ble_eq_true rfl) dX5_takeLeap_72 (fun H locs hI => ?_)
    refine lv_goto (tgt := 79) hx hb dX5_takeLeap_75 (by decide) ?_
    exact w_X5_takeLeap_79 hC hR hI (lv_sub hl [1, 2, 3, 0] rfl) hf
def f_X5_takeLeap_47 (n : Nat) (S : x_S) (a2 : Int32) (a3 : Int32) (t0 : Int32) : Option (x_S) :=
x_b (f_X5_require n S t0 (5 : Int32)) (fun S =>
if a2 = 0 then
f_X5_takeLeap_64 n S a2 a3 (0 : Int32)
else
x_b2 (f_X5_takeA n S (3 : Int32)) (fun v10 S =>
f_X5_takeLeap_64 n S a2 a3 v10))
set_option maxHeartbeats 4000000 in
set_option maxRecDepth 100000 in
theorem w_X5_takeLeap_47 {r : x_S} {a2 : Int32} {a3 : Int32} {t0 : Int32} (hC : x_C p s m args meth c cX5_takeLeap 7 RX5 E A) (hR : x_Rv p l e { frames := 3, cells := 0, slots := 0, locals := 69 } s m args below meth c cX5_takeLeap E A Q (cw E ad ap r)) (hI : x_I E A s.heap (cw E ad ap S) H locs) (hl : lv_has ls 7 [(0, .ref (ad 599)), (2, .int a2), (3, .int a3)]) (hf : f_X5_takeLeap_47 n S a2 a3 t0 = some r) : W p l e { frames := 3, cells := 0, slots := 0, locals := 69 } s m args below meth c H locs 0 0 Q (F0 m 47 ls [.int t0, .ref (ad 599)]) := by
  obtain ⟨hx, hb, hml, hown, hts, hK, hN, hA⟩ := id hC
  unfold f_X5_takeLeap_47 at hf
  refine lv_iconst (v := (5 : Int32)) hx hb dX5_takeLeap_47 (by decide) ?_
  obtain ⟨S, hc1, hf⟩ := x_b_eq hf
  refine x_callV hC hI (c_X5_require hc1) 5 5 rfl rfl kv_X5_91 rfl ⟨Nat.le_of_ble_eq_true rfl, Nat.le_of_ble_eq_true rfl⟩ ⟨Nat.le_refl _, Nat.le_refl _⟩ hl.1 rfl (Nat.le_of_ble_eq_true rfl) dX5_takeLeap_48 (fun H locs hI => ?_)
  refine lv_iload_n hx hb dX5_takeLeap_51 rfl (lv_at hl 1 rfl) ?_
  refine x_eq0 hC 63 hf dX5_takeLeap_52 (by decide) (fun hf => ?_) (fun hf => ?_)
  · refine lv_iconst (v := (0 : Int32)) hx hb dX5_takeLeap_63 (by decide) ?_
    exact w_X5_takeLeap_64 hC hR hI (lv_sub hl [0, 1, 2] rfl) hf
  · refine lv_aload_n hx hb dX5_takeLeap_55 rfl (lv_at hl 0 rfl) ?_
    refine lv_iconst (v := (3 : Int32)) hx hb dX5_takeLeap_56 (by decide) ?_
    obtain ⟨v10, S, hc9, hf⟩ := x_b2_eq hf
    refine x_callV hC hI (c_X5_takeA hc9) 5 5 rfl rfl kv_X5_109 rfl ⟨Nat.le_of_ble_eq_true rfl, Nat.le_of_ble_eq_true rfl⟩ ⟨Nat.le_refl _, Nat.le_refl _⟩ hl.1 rfl (Nat.le_of_ble_eq_true rfl) dX5_takeLeap_57 (fun H locs hI => ?_)
    refine lv_goto (tgt := 64) hx hb dX5_takeLeap_60 (by decide) ?_
    exact w_X5_takeLeap_64 hC hR hI (lv_sub hl [0, 1, 2] rfl) hf
def f_X5_takeLeap_42 (n : Nat) (S : x_S) (a2 : Int32) (a3 : Int32) : Option (x_S) :=
f_X5_takeLeap_47 n S a2 a3 (1 : Int32)
set_option maxHeartbeats 4000000 in
set_option maxRecDepth 100000 in
theorem w_X5_takeLeap_42 {r : x_S} {a2 : Int32} {a3 : Int32} (hC : x_C p s m args meth c cX5_takeLeap 7 RX5 E A) (hR : x_Rv p l e { frames := 3, cells := 0, slots := 0, locals := 69 } s m args below meth c cX5_takeLeap E A Q (cw E ad ap r)) (hI : x_I E A s.heap (cw E ad ap S) H locs) (hl : lv_has ls 7 [(0, .ref (ad 599)), (2, .int a2), (3, .int a3)]) (hf : f_X5_takeLeap_42 n S a2 a3 = some r) : W p l e { frames := 3, cells := 0, slots := 0, locals := 69 } s m args below meth c H locs 0 0 Q (F0 m 42 ls [.ref (ad 599)]) := by
  obtain ⟨hx, hb, hml, hown, hts, hK, hN, hA⟩ := id hC
  unfold f_X5_takeLeap_42 at hf
  refine lv_iconst (v := (1 : Int32)) hx hb dX5_takeLeap_42 (by decide) ?_
  refine lv_goto (tgt := 47) hx hb dX5_takeLeap_43 (by decide) ?_
  exact w_X5_takeLeap_47 hC hR hI (lv_sub hl [0, 1, 2] rfl) hf
def f_X5_takeLeap_27 (n : Nat) (S : x_S) (a2 : Int32) (t0 : Int32) : Option (x_S) :=
if t0 = (8 : Int32) then
f_X5_takeLeap_42 n S a2 t0
else
x_let (g_sc S 507) (fun v11 =>
if v11 ≤ 0 then
f_X5_takeLeap_47 n S a2 t0 (0 : Int32)
else
f_X5_takeLeap_42 n S a2 t0)
set_option maxHeartbeats 4000000 in
set_option maxRecDepth 100000 in
theorem w_X5_takeLeap_27 {r : x_S} {a2 : Int32} {t0 : Int32} (hC : x_C p s m args meth c cX5_takeLeap 7 RX5 E A) (hR : x_Rv p l e { frames := 3, cells := 0, slots := 0, locals := 69 } s m args below meth c cX5_takeLeap E A Q (cw E ad ap r)) (hI : x_I E A s.heap (cw E ad ap S) H locs) (hl : lv_has ls 7 [(0, .ref (ad 599)), (2, .int a2)]) (hf : f_X5_takeLeap_27 n S a2 t0 = some r) : W p l e { frames := 3, cells := 0, slots := 0, locals := 69 } s m args below meth c H locs 0 0 Q (F0 m 27 ls [.int t0]) := by
  obtain ⟨hx, hb, hml, hown, hts, hK, hN, hA⟩ := id hC
  unfold f_X5_takeLeap_27 at hf
  refine lv_istore_n (lv' := [(3, .int t0), (0, .ref (ad 599)), (2, .int a2)]) hx hb dX5_takeLeap_27 rfl hl (by decide) rfl (fun ls hl => ?_)
  refine lv_aload_n hx hb dX5_takeLeap_28 rfl (lv_at hl 1 rfl) ?_
  refine lv_iload_n hx hb dX5_takeLeap_29 rfl (lv_at hl 0 rfl) ?_
  refine lv_bipush (v := (8 : Int32)) hx hb dX5_takeLeap_30 (by decide) ?_
  refine x_ieq hC 42 hf dX5_takeLeap_32 (by decide) (fun hf => ?_) (fun hf => ?_)
  · exact w_X5_takeLeap_42 hC hR hI (lv_sub hl [1, 2, 0] rfl) hf
  · refine lv_aload_n hx hb dX5_takeLeap_35 rfl (lv_at hl 1 rfl) ?_
    refine gX5_7 hC hI hf lkf_X5_38 dX5_takeLeap_36 (fun v11 hf => ?_)
    refine x_le0 hC 46 hf dX5_takeLeap_39 (by decide) (fun hf => ?_) (fun hf => ?_)
    · refine lv_iconst (v := (0 : Int32)) hx hb dX5_takeLeap_46 (by decide) ?_
      exact w_X5_takeLeap_47 hC hR hI (lv_sub hl [1, 2, 0] rfl) hf
    · exact w_X5_takeLeap_42 hC hR hI (lv_sub hl [1, 2, 0] rfl) hf
def f_X5_takeLeap_11 (n : Nat) (S : x_S) (a1 : Int32) (t0 : Int32) : Option (x_S) :=
if t0 = 0 then
f_X5_takeLeap_27 n S t0 a1
else
f_X5_takeLeap_27 n S t0 ((a1 - (9 : Int32)) + (6 : Int32))
set_option maxHeartbeats 4000000 in
set_option maxRecDepth 100000 in
theorem w_X5_takeLeap_11 {r : x_S} {a1 : Int32} {t0 : Int32} (hC : x_C p s m args meth c cX5_takeLeap 7 RX5 E A) (hR : x_Rv p l e { frames := 3, cells := 0, slots := 0, locals := 69 } s m args below meth c cX5_takeLeap E A Q (cw E ad ap r)) (hI : x_I E A s.heap (cw E ad ap S) H locs) (hl : lv_has ls 7 [(0, .ref (ad 599)), (1, .int a1)]) (hf : f_X5_takeLeap_11 n S a1 t0 = some r) : W p l e { frames := 3, cells := 0, slots := 0, locals := 69 } s m args below meth c H locs 0 0 Q (F0 m 11 ls [.int t0]) := by
  obtain ⟨hx, hb, hml, hown, hts, hK, hN, hA⟩ := id hC
  unfold f_X5_takeLeap_11 at hf
  refine lv_istore_n (lv' := [(2, .int t0), (0, .ref (ad 599)), (1, .int a1)]) hx hb dX5_takeLeap_11 rfl hl (by decide) rfl (fun ls hl => ?_)
  refine lv_iload_n hx hb dX5_takeLeap_12 rfl (lv_at hl 0 rfl) ?_
  refine x_eq0 hC 26 hf dX5_takeLeap_13 (by decide) (fun hf => ?_) (fun hf => ?_)
  · refine lv_iload_n hx hb dX5_takeLeap_26 rfl (lv_at hl 2 rfl) ?_
    exact w_X5_takeLeap_27 hC hR hI (lv_sub hl [1, 0] rfl) hf
  · refine lv_iload_n hx hb dX5_takeLeap_16 rfl (lv_at hl 2 rfl) ?_
    refine lv_bipush (v := (9 : Int32)) hx hb dX5_takeLeap_17 (by decide) ?_
    refine lv_isub hx hb dX5_takeLeap_19 ?_
    refine lv_bipush (v := (6 : Int32)) hx hb dX5_takeLeap_20 (by decide) ?_
    refine lv_iadd hx hb dX5_takeLeap_22 ?_
    refine lv_goto (tgt := 27) hx hb dX5_takeLeap_23 (by decide) ?_
    exact w_X5_takeLeap_27 hC hR hI (lv_sub hl [1, 0] rfl) hf
def f_X5_takeLeap (n : Nat) (S : x_S) (a1 : Int32) : Option (x_S) :=
if a1 < (9 : Int32) then
f_X5_takeLeap_11 n S a1 (0 : Int32)
else
f_X5_takeLeap_11 n S a1 (1 : Int32)
set_option maxHeartbeats 4000000 in
set_option maxRecDepth 100000 in
theorem w_X5_takeLeap {r : x_S} {a1 : Int32} (hC : x_C p s m args meth c cX5_takeLeap 7 RX5 E A) (hR : x_Rv p l e { frames := 3, cells := 0, slots := 0, locals := 69 } s m args below meth c cX5_takeLeap E A Q (cw E ad ap r)) (hI : x_I E A s.heap (cw E ad ap S) H locs) (hl : lv_has ls 7 [(0, .ref (ad 599)), (1, .int a1)]) (hf : f_X5_takeLeap n S a1 = some r) : W p l e { frames := 3, cells := 0, slots := 0, locals := 69 } s m args below meth c H locs 0 0 Q (F0 m 0 ls []) := by
  obtain ⟨hx, hb, hml, hown, hts, hK, hN, hA⟩ := id hC
  unfold f_X5_takeLeap at hf
  refine lv_iload_n hx hb dX5_takeLeap_0 rfl (lv_at hl 1 rfl) ?_
  refine lv_bipush (v := (9 : Int32)) hx hb dX5_takeLeap_1 (by decide) ?_
  refine x_ilt hC 10 hf dX5_takeLeap_3 (by decide) (fun hf => ?_) (fun hf => ?_)
  · refine lv_iconst (v := (0 : Int32)) hx hb dX5_takeLeap_10 (by decide) ?_
    exact w_X5_takeLeap_11 hC hR hI (lv_sub hl [0, 1] rfl) hf
  · refine lv_iconst (v := (1 : Int32)) hx hb dX5_takeLeap_6 (by decide) ?_
    refine lv_goto (tgt := 11) hx hb dX5_takeLeap_7 (by decide) ?_
    exact w_X5_takeLeap_11 hC hR hI (lv_sub hl [0, 1] rfl) hf
theorem c_X5_takeLeap {a1 : Int32} {S1 : x_S} (hf : f_X5_takeLeap n S a1 = some S1) : x_M l yX5_takeLeap cX5_takeLeap 7 none 3 69 E [.ref (ad 599), .int a1] (cw E ad ap S) (cw E ad ap S1) none :=
  x_entV (by decide) (Nat.le_of_ble_eq_true rfl) (fun p e s m args below meth c A Q ls hC hI hR hl => w_X5_takeLeap (r := S1) hC hR hI hl hf)
-- X5_takeStatement
def f_X5_takeStatement_100 (n : Nat) (S : x_S) (a1 : Int32) : Option (x_S) :=
x_b (f_X5_takeTested n S a1) (fun S =>
some S)
set_option maxHeartbeats 4000000 in
set_option maxRecDepth 100000 in
theorem w_X5_takeStatement_100 {r : x_S} {a1 : Int32} (hC : x_C p s m args meth c cX5_takeStatement 2 RX5 E A) (hR : x_Rv p l e { frames := 4, cells := 0, slots := 0, locals := 95 } s m args below meth c cX5_takeStatement E A Q (cw E ad ap r)) (hI : x_I E A s.heap (cw E ad ap S) H locs) (hl : lv_has ls 2 [(0, .ref (ad 599)), (1, .int a1)]) (hf : f_X5_takeStatement_100 n S a1 = some r) : W p l e { frames := 4, cells := 0, slots := 0, locals := 95 } s m args below meth c H locs 0 0 Q (F0 m 100 ls []) := by
  obtain ⟨hx, hb, hml, hown, hts, hK, hN, hA⟩ := id hC
  unfold f_X5_takeStatement_100 at hf
  refine lv_aload_n hx hb dX5_takeStatement_100 rfl (lv_at hl 0 rfl) ?_
  refine lv_iload_n hx hb dX5_takeStatement_101 rfl (lv_at hl 1 rfl) ?_
  obtain ⟨S, hc6, hf⟩ := x_b_eq hf
  refine x_callV hC hI (c_X5_takeTested hc6) 5 5 rfl rfl kv_X5_98 rfl ⟨Nat.le_of_ble_eq_true rfl, Nat.le_of_ble_eq_true rfl⟩ ⟨Nat.le_refl _, Nat.le_refl _⟩ hl.1 rfl (Nat.le_of_ble_eq_true rfl) dX5_takeStatement_102 (fun H locs hI => ?_)
  refine lv_goto (tgt := 113) hx hb dX5_takeStatement_105 (by decide) ?_
  obtain rfl := Option.some.inj hf
  exact hR _ _ _ _ hI dX5_takeStatement_113
def f_X5_takeStatement_21 (n : Nat) (S : x_S) (a1 : Int32) (t0 : Int32) : Option (x_S) :=
x_b (f_X5_require n S t0 (2 : Int32)) (fun S =>
x_let (g_sc S 504) (fun v4 =>
if v4 = 0 then
if a1 = (0 : Int32) then
x_b (f_X5_takeAct n S) (fun S =>
some S)
else
if a1 = (1 : Int32) then
f_X5_takeStatement_100 n S a1
else
if a1 = (2 : Int32) then
f_X5_takeStatement_100 n S a1
else
if a1 = (3 : Int32) then
x_let (g_sc S 507) (fun v7 =>
x_let (s_sc S 507 (v7 + (1 : Int32))) (fun S =>
x_b (f_X5_openBody n S (3 : Int32) (-1 : Int32) (0 : Int32) (0 : Int32)) (fun S =>
some S)))
else
if a1 = (4 : Int32) then
f_X5_takeStatement_100 n S a1
else
if a1 = (5 : Int32) then
f_X5_takeStatement_100 n S a1
else
x_b (f_X5_takeLeap n S a1) (fun S =>
some S)
else
some S))
set_option maxHeartbeats 4000000 in
set_option maxRecDepth 100000 in
theorem w_X5_takeStatement_21 {r : x_S} {a1 : Int32} {t0 : Int32} (hC : x_C p s m args meth c cX5_takeStatement 2 RX5 E A) (hR : x_Rv p l e { frames := 4, cells := 0, slots := 0, locals := 95 } s m args below meth c cX5_takeStatement E A Q (cw E ad ap r)) (hI : x_I E A s.heap (cw E ad ap S) H locs) (hl : lv_has ls 2 [(0, .ref (ad 599)), (1, .int a1)]) (hf : f_X5_takeStatement_21 n S a1 t0 = some r) : W p l e { frames := 4, cells := 0, slots := 0, locals := 95 } s m args below meth c H locs 0 0 Q (F0 m 21 ls [.int t0, .ref (ad 599)]) := by
  obtain ⟨hx, hb, hml, hown, hts, hK, hN, hA⟩ := id hC
  unfold f_X5_takeStatement_21 at hf
  refine lv_iconst (v := (2 : Int32)) hx hb dX5_takeStatement_21 (by decide) ?_
  obtain ⟨S, hc3, hf⟩ := x_b_eq hf
  refine x_callV hC hI (c_X5_require hc3) 5 5 rfl rfl kv_X5_91 rfl ⟨Nat.le_of_ble_eq_true rfl, Nat.le_of_ble_eq_true rfl⟩ ⟨Nat.le_refl _, Nat.le_refl _⟩ hl.1 rfl (Nat.le_of_ble_eq_true rfl) dX5_takeStatement_22 (fun H locs hI => ?_)
  refine lv_aload_n hx hb dX5_takeStatement_25 rfl (lv_at hl 0 rfl) ?_
  refine gX5_4 hC hI hf lkf_X5_29 dX5_takeStatement_26 (fun v4 hf => ?_)
  refine x_eq0 hC 33 hf dX5_takeStatement_29 (by decide) (fun hf => ?_) (fun hf => ?_)
  · refine lv_iload_n hx hb dX5_takeStatement_33 rfl (lv_at hl 1 rfl) ?_
    refine x_case hf (fun q10 hf => ?_) (fun q10 hf => ?_)
    · refine lv_tableIn (tgt := 72) hx hb dX5_takeStatement_34 (by rw [q10]; decide) (by rw [q10]; decide) (by rw [q10]; rfl) (by decide) ?_
      refine lv_aload_n hx hb dX5_takeStatement_72 rfl (lv_at hl 0 rfl) ?_
      obtain ⟨S, hc5, hf⟩ := x_b_eq hf
      refine x_callV hC hI (c_X5_takeAct hc5) 5 5 rfl rfl kv_X5_95 rfl ⟨Nat.le_of_ble_eq_true rfl, Nat.le_of_ble_eq_true rfl⟩ ⟨Nat.le_refl _, Nat.le_refl _⟩ hl.1 rfl (Nat.le_of_ble_eq_true rfl) dX5_takeStatement_73 (fun H locs hI => ?_)
      refine lv_goto (tgt := 113) hx hb dX5_takeStatement_76 (by decide) ?_
      obtain rfl := Option.some.inj hf
      exact hR _ _ _ _ hI dX5_takeStatement_113
    · refine x_case hf (fun q11 hf => ?_) (fun q11 hf => ?_)
      · refine lv_tableIn (tgt := 100) hx hb dX5_takeStatement_34 (by rw [q11]; decide) (by rw [q11]; decide) (by rw [q11]; rfl) (by decide) ?_
        exact w_X5_takeStatement_100 hC hR hI (lv_sub hl [0, 1] rfl) hf
      · refine x_case hf (fun q12 hf => ?_) (fun q12 hf => ?_)
        · refine lv_tableIn (tgt := 100) hx hb dX5_takeStatement_34 (by rw [q12]; decide) (by rw [q12]; decide) (by rw [q12]; rfl) (by decide) ?_
          exact w_X5_takeStatement_100 hC hR hI (lv_sub hl [0, 1] rfl) hf
        · refine x_case hf (fun q13 hf => ?_) (fun q13 hf => ?_)
          · refine lv_tableIn (tgt := 79) hx hb dX5_takeStatement_34 (by rw [q13]; decide) (by rw [q13]; decide) (by rw [q13]; rfl) (by decide) ?_
            refine lv_aload_n hx hb dX5_takeStatement_79 rfl (lv_at hl 0 rfl) ?_
            refine lv_dup hx hb dX5_takeStatement_80 rfl ?_
            refine gX5_7 hC hI hf lkf_X5_38 dX5_takeStatement_81 (fun v7 hf => ?_)
            refine lv_iconst (v := (1 : Int32)) hx hb dX5_takeStatement_84 (by decide) ?_
            refine lv_iadd hx hb dX5_takeStatement_85 ?_
            refine pX5_7 hC hI hf lkf_X5_38 dX5_takeStatement_86 (fun S H locs hI hf => ?_)
            refine lv_aload_n hx hb dX5_takeStatement_89 rfl (lv_at hl 0 rfl) ?_
            refine lv_iconst (v := (3 : Int32)) hx hb dX5_takeStatement_90 (by decide) ?_
            refine lv_iconst (v := (-1 : Int32)) hx hb dX5_takeStatement_91 (by decide) ?_
            refine lv_iconst (v := (0 : Int32)) hx hb dX5_takeStatement_92 (by decide) ?_
            refine lv_iconst (v := (0 : Int32)) hx hb dX5_takeStatement_93 (by decide) ?_
            obtain ⟨S, hc8, hf⟩ := x_b_eq hf
            refine x_callV hC hI (c_X5_openBody hc8) 5 5 rfl rfl kv_X5_65 rfl ⟨Nat.le_of_ble_eq_true rfl, Nat.le_of_ble_eq_true rfl⟩ ⟨Nat.le_refl _, Nat.le_refl _⟩ hl.1 rfl (Nat.le_of_ble_eq_true rfl) dX5_takeStatement_94 (fun H locs hI => ?_)
            refine lv_goto (tgt := 113) hx hb dX5_takeStatement_97 (by decide) ?_
            obtain rfl := Option.some.inj hf
            exact hR _ _ _ _ hI dX5_takeStatement_113
          · refine x_case hf (fun q14 hf => ?_) (fun q14 hf => ?_)
            · refine lv_tableIn (tgt := 100) hx hb dX5_takeStatement_34 (by rw [q14]; decide) (by rw [q14]; decide) (by rw [q14]; rfl) (by decide) ?_
              exact w_X5_takeStatement_100 hC hR hI (lv_sub hl [0, 1] rfl) hf
            · refine x_case hf (fun q15 hf => ?_) (fun q15 hf => ?_)
              · refine lv_tableIn (tgt := 100) hx hb dX5_takeStatement_34 (by rw [q15]; decide) (by rw [q15]; decide) (by rw [q15]; rfl) (by decide) ?_
                exact w_X5_takeStatement_100 hC hR hI (lv_sub hl [0, 1] rfl) hf
              · refine lv_tableOut (tgt := 108) hx hb dX5_takeStatement_34 (by have z10 := lv_neT (a := 0) q10 (by decide); have z11 := lv_neT (a := 1) q11 (by decide); have z12 := lv_neT (a := 2) q12 (by decide); have z13 := lv_neT (a := 3) q13 (by decide); have z14 := lv_neT (a := 4) q14 (by decide); have z15 := lv_neT (a := 5) q15 (by decide); omega) (by decide) ?_
                refine lv_aload_n hx hb dX5_takeStatement_108 rfl (lv_at hl 0 rfl) ?_
                refine lv_iload_n hx hb dX5_takeStatement_109 rfl (lv_at hl 1 rfl) ?_
                obtain ⟨S, hc9, hf⟩ := x_b_eq hf
                refine x_callV hC hI (c_X5_takeLeap hc9) 5 5 rfl rfl kv_X5_102 rfl ⟨Nat.le_of_ble_eq_true rfl, Nat.le_of_ble_eq_true rfl⟩ ⟨Nat.le_refl _, Nat.le_refl _⟩ hl.1 rfl (Nat.le_of_ble_eq_true rfl) dX5_takeStatement_110 (fun H locs hI => ?_)
                obtain rfl := Option.some.inj hf
                exact hR _ _ _ _ hI dX5_takeStatement_113
  · obtain rfl := Option.some.inj hf
    exact hR _ _ _ _ hI dX5_takeStatement_32
def f_X5_takeStatement_20 (n : Nat) (S : x_S) (a1 : Int32) : Option (x_S) :=
f_X5_takeStatement_21 n S a1 (0 : Int32)
set_option maxHeartbeats 4000000 in
set_option maxRecDepth 100000 in
theorem w_X5_takeStatement_20 {r : x_S} {a1 : Int32} (hC : x_C p s m args meth c cX5_takeStatement 2 RX5 E A) (hR : x_Rv p l e { frames := 4, cells := 0, slots := 0, locals := 95 } s m args below meth c cX5_takeStatement E A Q (cw E ad ap r)) (hI : x_I E A s.heap (cw E ad ap S) H locs) (hl : lv_has ls 2 [(0, .ref (ad 599)), (1, .int a1)]) (hf : f_X5_takeStatement_20 n S a1 = some r) : W p l e { frames := 4, cells := 0, slots := 0, locals := 95 } s m args below meth c H locs 0 0 Q (F0 m 20 ls [.ref (ad 599)]) := by
  obtain ⟨hx, hb, hml, hown, hts, hK, hN, hA⟩ := id hC
  unfold f_X5_takeStatement_20 at hf
  refine lv_iconst (v := (0 : Int32)) hx hb dX5_takeStatement_20 (by decide) ?_
  exact w_X5_takeStatement_21 hC hR hI (lv_sub hl [0, 1] rfl) hf
def f_X5_takeStatement (n : Nat) (S : x_S) : Option (x_S) :=
x_b2 (f_X5_take n S) (fun v2 S =>
if v2 < 0 then
f_X5_takeStatement_20 n S v2
else
if (11 : Int32) < v2 then
f_X5_takeStatement_20 n S v2
else
f_X5_takeStatement_21 n S v2 (1 : Int32))
set_option maxHeartbeats 4000000 in
set_option maxRecDepth 100000 in
theorem w_X5_takeStatement {r : x_S} (hC : x_C p s m args meth c cX5_takeStatement 2 RX5 E A) (hR : x_Rv p l e { frames := 4, cells := 0, slots := 0, locals := 95 } s m args below meth c cX5_takeStatement E A Q (cw E ad ap r)) (hI : x_I E A s.heap (cw E ad ap S) H locs) (hl : lv_has ls 2 [(0, .ref (ad 599))]) (hf : f_X5_takeStatement n S = some r) : W p l e { frames := 4, cells := 0, slots := 0, locals := 95 } s m args below meth c H locs 0 0 Q (F0 m 0 ls []) := by
  obtain ⟨hx, hb, hml, hown, hts, hK, hN, hA⟩ := id hC
  unfold f_X5_takeStatement at hf
  refine lv_aload_n hx hb dX5_takeStatement_0 rfl (lv_at hl 0 rfl) ?_
  obtain ⟨v2, S, hc1, hf⟩ := x_b2_eq hf
  refine x_callV hC hI (c_X5_take hc1) 5 5 rfl rfl kv_X5_87 rfl ⟨Nat.le_of_ble_eq_true rfl, Nat.le_of_ble_eq_true rfl⟩ ⟨Nat.le_refl _, Nat.le_refl _⟩ hl.1 rfl (Nat.le_of_ble_eq_true rfl) dX5_takeStatement_1 (fun H locs hI => ?_)
  refine lv_istore_n (lv' := [(1, .int v2), (0, .ref (ad 599))]) hx hb dX5_takeStatement_4 rfl hl (by decide) rfl (fun ls hl => ?_)
  refine lv_aload_n hx hb dX5_takeStatement_5 rfl (lv_at hl 1 rfl) ?_
  refine lv_iload_n hx hb dX5_takeStatement_6 rfl (lv_at hl 0 rfl) ?_
  refine x_lt0 hC 20 hf dX5_takeStatement_7 (by decide) (fun hf => ?_) (fun hf => ?_)
  · exact w_X5_takeStatement_20 hC hR hI (lv_sub hl [1, 0] rfl) hf
  · refine lv_iload_n hx hb dX5_takeStatement_10 rfl (lv_at hl 0 rfl) ?_
    refine lv_bipush (v := (11 : Int32)) hx hb dX5_takeStatement_11 (by decide) ?_
    refine x_igt hC 20 hf dX5_takeStatement_13 (by decide) (fun hf => ?_) (fun hf => ?_)
    · exact w_X5_takeStatement_20 hC hR hI (lv_sub hl [1, 0] rfl) hf
    · refine lv_iconst (v := (1 : Int32)) hx hb dX5_takeStatement_16 (by decide) ?_
      refine lv_goto (tgt := 21) hx hb dX5_takeStatement_17 (by decide) ?_
      exact w_X5_takeStatement_21 hC hR hI (lv_sub hl [1, 0] rfl) hf
theorem c_X5_takeStatement {S1 : x_S} (hf : f_X5_takeStatement n S = some S1) : x_M l yX5_takeStatement cX5_takeStatement 2 none 4 95 E [.ref (ad 599)] (cw E ad ap S) (cw E ad ap S1) none :=
  x_entV (by decide) (Nat.le_of_ble_eq_true rfl) (fun p e s m args below meth c A Q ls hC hI hR hl => w_X5_takeStatement (r := S1) hC hR hI hl hf)
end
