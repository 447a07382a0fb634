section
variable {p : Program} {l : Launch} {e : Env} {s : State} {m : MethodId} {args : Array Value} {below : List Frame} {meth : Method} {c : Code} {H : Heap} {locs : List Loc} {Q : State → Prop}
variable {E : x_E} {A : Nat → Prop} {ls : Array Slot} {ad : Nat → Nat} {ap : Nat → Nat → Nat} {S : x_S} {w : va_W} {n : Nat}
-- X6_told
def f_X6_told (n : Nat) (S : x_S) (a1 : Int32) (a2 : Int32) (a3 : Int32) : Option (Int32 × x_S) :=
x_b2 (f_X6_find n S a1) (fun o2 S => x_o o2 (
some ((-2 : Int32), S)) (fun i3 =>
x_g (i3 < g_np S) (x_b2 (f_X2_has n S i3 a2) (fun v5 S =>
if v5 = 0 then
some ((-2 : Int32), S)
else
if a3 = (0 : Int32) then
x_g (i3 < g_np S) (
x_g (i3 < g_np S) (x_g (¬ (a2 < 0 ∨ 60 ≤ (a2).toNatClampNeg)) (x_let (g_pa S 0 i3 (a2).toNatClampNeg) (fun v6 =>
some (v6, S)))))
else
if a3 = (1 : Int32) then
x_g (i3 < g_np S) (
x_g (i3 < g_np S) (x_g (¬ (a2 < 0 ∨ 60 ≤ (a2).toNatClampNeg)) (x_let (g_pa S 1 i3 (a2).toNatClampNeg) (fun v7 =>
some (v7, S)))))
else
if a3 = (2 : Int32) then
x_g (i3 < g_np S) (
x_g (i3 < g_np S) (x_g (¬ (a2 < 0 ∨ 60 ≤ (a2).toNatClampNeg)) (x_let (g_pa S 2 i3 (a2).toNatClampNeg) (fun v8 =>
some (v8, S)))))
else
if a3 = (3 : Int32) then
x_g (i3 < g_np S) (
x_g (i3 < g_np S) (x_g (¬ (a2 < 0 ∨ 60 ≤ (a2).toNatClampNeg)) (x_let (g_pa S 3 i3 (a2).toNatClampNeg) (fun v9 =>
some (v9, S)))))
else
if a3 = (4 : Int32) then
x_g (i3 < g_np S) (x_let (g_ps S 5 i3) (fun v10 =>
if v10 = 0 then
some ((-1 : Int32), S)
else
x_b (f_X6_treeOf n S a1 i3) (fun S =>
x_g (¬ (a2 < 0 ∨ 60 ≤ (a2).toNatClampNeg)) (x_let (g_ar S 406 (a2).toNatClampNeg) (fun v12 =>
some (v12, S))))))
else
if a3 = (5 : Int32) then
x_g (i3 < g_np S) (x_let (g_ps S 5 i3) (fun v13 =>
if v13 = 0 then
some ((-1 : Int32), S)
else
x_b2 (f_X6_cameTo n S i3 a2) (fun v15 S =>
some (v15, S))))
else
some ((-2 : Int32), S)))))
set_option maxHeartbeats 4000000 in
set_option maxRecDepth 100000 in
theorem w_X6_told {r : Int32 × x_S} {a1 : Int32} {a2 : Int32} {a3 : Int32} (hC : x_C p s m args meth c cX6_told 5 RX6 E A) (hR : x_Ri p l e { frames := 7, cells := 0, slots := 0, locals := 161 } s m args below meth c cX6_told E A Q (cw E ad ap r.2) r.1) (hI : x_I E A s.heap (cw E ad ap S) H locs) (hl : lv_has ls 5 [(0, .ref (ad 699)), (1, .int a1), (2, .int a2), (3, .int a3)]) (hf : f_X6_told n S a1 a2 a3 = some r) : W p l e { frames := 7, cells := 0, slots := 0, locals := 161 } s m args below meth c H locs 0 0 Q (F0 m 0 ls []) := by
  obtain ⟨hx, hb, hml, hown, hts, hK, hN, hA⟩ := id hC
  unfold f_X6_told at hf
  refine lv_aload_n hx hb dX6_told_0 rfl (lv_at hl 0 rfl) ?_
  refine lv_iload_n hx hb dX6_told_1 rfl (lv_at hl 1 rfl) ?_
  obtain ⟨o2, S, hc1, hf⟩ := x_b2_eq hf
  refine x_callV hC hI (c_X6_find hc1) 0 6 rfl rfl kv_X6_68 rfl ⟨Nat.le_of_ble_eq_true rfl, Nat.le_of_ble_eq_true rfl⟩ ⟨Nat.le_refl _, Nat.le_refl _⟩ hl.1 rfl (Nat.le_of_ble_eq_true rfl) dX6_told_2 (fun H locs hI => ?_)
  refine x_casesR hf (fun hf => ?_) (fun i3 hf => ?_)
  · refine lv_astoreN (lv' := [(4, .null), (0, .ref (ad 699)), (1, .int a1), (2, .int a2), (3, .int a3)]) hx hb dX6_told_5 hl (by decide) rfl (fun ls hl => ?_)
    refine lv_aloadN hx hb dX6_told_7 (lv_at hl 0 rfl) ?_
    refine lv_ifnullN (tgt := 21) hx hb dX6_told_9 (by decide) ?_
    refine lv_bipush (v := (-2 : Int32)) hx hb dX6_told_21 (by decide) ?_
    obtain rfl := Option.some.inj hf
    exact hR _ _ _ _ hI dX6_told_23
  · refine lv_astore (lv' := [(4, .ref (ap i3 0)), (0, .ref (ad 699)), (1, .int a1), (2, .int a2), (3, .int a3)]) hx hb dX6_told_5 hl (by decide) rfl (fun ls hl => ?_)
    refine lv_aload hx hb dX6_told_7 (lv_at hl 0 rfl) ?_
    refine lv_ifnull hx hb dX6_told_9 ?_
    refine lv_aload hx hb dX6_told_12 (lv_at hl 0 rfl) ?_
    refine lv_iload_n hx hb dX6_told_14 rfl (lv_at hl 3 rfl) ?_
    obtain ⟨h9, hf⟩ := x_g_eq hf
    obtain ⟨v5, S, hc4, hf⟩ := x_b2_eq hf
    refine x_callV hC hI (c_X2_has hc4) (36 + (5 * i3 + 0)) 2 (x_cw_get E ad ap _ i3 0 (by decide) h9) rfl kv_X6_83 rfl ⟨Nat.le_of_ble_eq_true rfl, Nat.le_of_ble_eq_true rfl⟩ ⟨Nat.le_refl _, Nat.le_refl _⟩ hl.1 rfl (Nat.le_of_ble_eq_true rfl) dX6_told_15 (fun H locs hI => ?_)
    refine x_ne0 hC 24 hf dX6_told_18 (by decide) (fun hf => ?_) (fun hf => ?_)
    · refine lv_iload_n hx hb dX6_told_24 rfl (lv_at hl 4 rfl) ?_
      refine x_case hf (fun q10 hf => ?_) (fun q10 hf => ?_)
      · refine lv_tableIn (tgt := 64) hx hb dX6_told_25 (by rw [q10]; decide) (by rw [q10]; decide) (by rw [q10]; rfl) (by decide) ?_
        refine lv_aload hx hb dX6_told_64 (lv_at hl 0 rfl) ?_
        refine gX2_0 hC hI hf lkf_X6_87 dX6_told_66 (fun hf => ?_)
        refine lv_iload_n hx hb dX6_told_69 rfl (lv_at hl 3 rfl) ?_
        refine aX2_0 hC hI hf dX6_told_70 (fun v6 hf => ?_)
        obtain rfl := Option.some.inj hf
        exact hR _ _ _ _ hI dX6_told_71
      · refine x_case hf (fun q11 hf => ?_) (fun q11 hf => ?_)
        · refine lv_tableIn (tgt := 72) hx hb dX6_told_25 (by rw [q11]; decide) (by rw [q11]; decide) (by rw [q11]; rfl) (by decide) ?_
          refine lv_aload hx hb dX6_told_72 (lv_at hl 0 rfl) ?_
          refine gX2_1 hC hI hf lkf_X6_90 dX6_told_74 (fun hf => ?_)
          refine lv_iload_n hx hb dX6_told_77 rfl (lv_at hl 3 rfl) ?_
          refine aX2_1 hC hI hf dX6_told_78 (fun v7 hf => ?_)
          obtain rfl := Option.some.inj hf
          exact hR _ _ _ _ hI dX6_told_79
        · refine x_case hf (fun q12 hf => ?_) (fun q12 hf => ?_)
          · refine lv_tableIn (tgt := 80) hx hb dX6_told_25 (by rw [q12]; decide) (by rw [q12]; decide) (by rw [q12]; rfl) (by decide) ?_
            refine lv_aload hx hb dX6_told_80 (lv_at hl 0 rfl) ?_
            refine gX2_2 hC hI hf lkf_X6_93 dX6_told_82 (fun hf => ?_)
            refine lv_iload_n hx hb dX6_told_85 rfl (lv_at hl 3 rfl) ?_
            refine aX2_2 hC hI hf dX6_told_86 (fun v8 hf => ?_)
            obtain rfl := Option.some.inj hf
            exact hR _ _ _ _ hI dX6_told_87
          · refine x_case hf (fun q13 hf => ?_) (fun q13 hf => ?_)
            · refine lv_tableIn (tgt := 88) hx hb dX6_told_25 (by rw [q13]; decide) (by rw [q13]; decide) (by rw [q13]; rfl) (by decide) ?_
              refine lv_aload hx hb dX6_told_88 (lv_at hl 0 rfl) ?_
              refine gX2_3 hC hI hf lkf_X6_96 dX6_told_90 (fun hf => ?_)
              refine lv_iload_n hx hb dX6_told_93 rfl (lv_at hl 3 rfl) ?_
              refine aX2_3 hC hI hf dX6_told_94 (fun v9 hf => ?_)
              obtain rfl := Option.some.inj hf
              exact hR _ _ _ _ hI dX6_told_95
            · refine x_case hf (fun q14 hf => ?_) (fun q14 hf => ?_)
              · refine lv_tableIn (tgt := 96) hx hb dX6_told_25 (by rw [q14]; decide) (by rw [q14]; decide) (by rw [q14]; rfl) (by decide) ?_
                refine lv_aload hx hb dX6_told_96 (lv_at hl 0 rfl) ?_
                refine gX2_5 hC hI hf lkf_X6_99 dX6_told_98 (fun v10 hf => ?_)
                refine x_eq0 hC 119 hf dX6_told_101 (by decide) (fun hf => ?_) (fun hf => ?_)
                · refine lv_iconst (v := (-1 : Int32)) hx hb dX6_told_119 (by decide) ?_
                  obtain rfl := Option.some.inj hf
                  exact hR _ _ _ _ hI dX6_told_120
                · refine lv_aload_n hx hb dX6_told_104 rfl (lv_at hl 1 rfl) ?_
                  refine lv_iload_n hx hb dX6_told_105 rfl (lv_at hl 2 rfl) ?_
                  refine lv_aload hx hb dX6_told_106 (lv_at hl 0 rfl) ?_
                  obtain ⟨S, hc11, hf⟩ := x_b_eq hf
                  refine x_callV hC hI (c_X6_treeOf hc11) 0 6 rfl rfl kv_X6_103 rfl ⟨Nat.le_of_ble_eq_true rfl, Nat.le_of_ble_eq_true rfl⟩ ⟨Nat.le_refl _, Nat.le_refl _⟩ hl.1 rfl (Nat.le_of_ble_eq_true rfl) dX6_told_108 (fun H locs hI => ?_)
                  refine gX4_6 hC hI lkf_X6_107 dX6_told_111 ?_
                  refine lv_iload_n hx hb dX6_told_114 rfl (lv_at hl 3 rfl) ?_
                  refine aX4_6 hC hI hf dX6_told_115 (fun v12 hf => ?_)
                  refine lv_goto (tgt := 120) hx hb dX6_told_116 (by decide) ?_
                  obtain rfl := Option.some.inj hf
                  exact hR _ _ _ _ hI dX6_told_120
              · refine x_case hf (fun q15 hf => ?_) (fun q15 hf => ?_)
                · refine lv_tableIn (tgt := 121) hx hb dX6_told_25 (by rw [q15]; decide) (by rw [q15]; decide) (by rw [q15]; rfl) (by decide) ?_
                  refine lv_aload hx hb dX6_told_121 (lv_at hl 0 rfl) ?_
                  refine gX2_5 hC hI hf lkf_X6_99 dX6_told_123 (fun v13 hf => ?_)
                  refine x_eq0 hC 139 hf dX6_told_126 (by decide) (fun hf => ?_) (fun hf => ?_)
                  · refine lv_iconst (v := (-1 : Int32)) hx hb dX6_told_139 (by decide) ?_
                    obtain rfl := Option.some.inj hf
                    exact hR _ _ _ _ hI dX6_told_140
                  · refine lv_aload_n hx hb dX6_told_129 rfl (lv_at hl 1 rfl) ?_
                    refine lv_aload hx hb dX6_told_130 (lv_at hl 0 rfl) ?_
                    refine lv_iload_n hx hb dX6_told_132 rfl (lv_at hl 3 rfl) ?_
                    obtain ⟨v15, S, hc14, hf⟩ := x_b2_eq hf
                    refine x_callV hC hI (c_X6_cameTo hc14) 0 6 rfl rfl kv_X6_112 rfl ⟨Nat.le_of_ble_eq_true rfl, Nat.le_of_ble_eq_true rfl⟩ ⟨Nat.le_refl _, Nat.le_refl _⟩ hl.1 rfl (Nat.le_of_ble_eq_true rfl) dX6_told_133 (fun H locs hI => ?_)
                    refine lv_goto (tgt := 140) hx hb dX6_told_136 (by decide) ?_
                    obtain rfl := Option.some.inj hf
                    exact hR _ _ _ _ hI dX6_told_140
                · refine lv_tableOut (tgt := 141) hx hb dX6_told_25 (by have z10 := lv_neT (a := 0) q10 (by decide); have z11 := lv_neT (a := 1) q11 (by decide); have z12 := lv_neT (a := 2) q12 (by decide); have z13 := lv_neT (a := 3) q13 (by decide); have z14 := lv_neT (a := 4) q14 (by decide); have z15 := lv_neT (a := 5) q15 (by decide); omega) (by decide) ?_
                  refine lv_bipush (v := (-2 : Int32)) hx hb dX6_told_141 (by decide) ?_
                  obtain rfl := Option.some.inj hf
                  exact hR _ _ _ _ hI dX6_told_143
    · refine lv_bipush (v := (-2 : Int32)) hx hb dX6_told_21 (by decide) ?_
      obtain rfl := Option.some.inj hf
      exact hR _ _ _ _ hI dX6_told_23
theorem c_X6_told {a1 : Int32} {a2 : Int32} {a3 : Int32} {v : Int32} {S1 : x_S} (hf : f_X6_told n S a1 a2 a3 = some (v, S1)) : x_M l yX6_told cX6_told 5 (some .int) 7 161 E [.ref (ad 699), .int a1, .int a2, .int a3] (cw E ad ap S) (cw E ad ap S1) (some (.int v)) :=
  x_entI (by decide) (Nat.le_of_ble_eq_true rfl) (fun p e s m args below meth c A Q ls hC hI hR hl => w_X6_told (r := (v, S1)) hC hR hI hl hf)
-- X2_isAlike
def f_X2_isAlike_15 (n : Nat) (rec15 : x_S × Nat × Nat × Int32 → Option (Int32 × x_S)) (S : x_S) (a0 : Nat) (a1 : Nat) (a2 : Int32) : Option (Int32 × x_S) :=
x_g (a0 < g_np S) (x_let (g_ps S 4 a0) (fun v3 =>
if v3 ≤ a2 then
x_g ((1 : Int32) = 0 ∨ (1 : Int32) = 1) (some ((1 : Int32), S))
else
x_g (a0 < g_np S) (
x_g (a0 < g_np S) (x_g (¬ (a2 < 0 ∨ 60 ≤ (a2).toNatClampNeg)) (x_let (g_pa S 0 a0 (a2).toNatClampNeg) (fun v4 =>
x_g (a1 < g_np S) (
x_g (a1 < g_np S) (x_g (¬ (a2 < 0 ∨ 60 ≤ (a2).toNatClampNeg)) (x_let (g_pa S 0 a1 (a2).toNatClampNeg) (fun v5 =>
if v4 = v5 then
x_g (a0 < g_np S) (
x_g (a0 < g_np S) (x_g (¬ (a2 < 0 ∨ 60 ≤ (a2).toNatClampNeg)) (x_let (g_pa S 1 a0 (a2).toNatClampNeg) (fun v6 =>
x_g (a1 < g_np S) (
x_g (a1 < g_np S) (x_g (¬ (a2 < 0 ∨ 60 ≤ (a2).toNatClampNeg)) (x_let (g_pa S 1 a1 (a2).toNatClampNeg) (fun v7 =>
if v6 = v7 then
x_g (a0 < g_np S) (
x_g (a0 < g_np S) (x_g (¬ (a2 < 0 ∨ 60 ≤ (a2).toNatClampNeg)) (x_let (g_pa S 2 a0 (a2).toNatClampNeg) (fun v8 =>
x_g (a1 < g_np S) (
x_g (a1 < g_np S) (x_g (¬ (a2 < 0 ∨ 60 ≤ (a2).toNatClampNeg)) (x_let (g_pa S 2 a1 (a2).toNatClampNeg) (fun v9 =>
if v8 = v9 then
x_g (a0 < g_np S) (
x_g (a0 < g_np S) (x_g (¬ (a2 < 0 ∨ 60 ≤ (a2).toNatClampNeg)) (x_let (g_pa S 3 a0 (a2).toNatClampNeg) (fun v10 =>
x_g (a1 < g_np S) (
x_g (a1 < g_np S) (x_g (¬ (a2 < 0 ∨ 60 ≤ (a2).toNatClampNeg)) (x_let (g_pa S 3 a1 (a2).toNatClampNeg) (fun v11 =>
if v10 = v11 then
rec15 (S, a0, a1, (a2 + (1 : Int32)))
else
x_g ((0 : Int32) = 0 ∨ (0 : Int32) = 1) (some ((0 : Int32), S))))))))))
else
x_g ((0 : Int32) = 0 ∨ (0 : Int32) = 1) (some ((0 : Int32), S))))))))))
else
x_g ((0 : Int32) = 0 ∨ (0 : Int32) = 1) (some ((0 : Int32), S))))))))))
else
x_g ((0 : Int32) = 0 ∨ (0 : Int32) = 1) (some ((0 : Int32), S))))))))))))
set_option maxHeartbeats 4000000 in
set_option maxRecDepth 100000 in
theorem w_X2_isAlike_15 {r : Int32 × x_S} {a0 : Nat} {a1 : Nat} {a2 : Int32} {rec15 : x_S × Nat × Nat × Int32 → Option (Int32 × x_S)} (hC : x_C p s m args meth c cX2_isAlike 3 RX2 E A) (hR : x_Rz p l e { frames := 0, cells := 0, slots := 0, locals := 0 } s m args below meth c cX2_isAlike E A Q (cw E ad ap r.2) r.1) (hrec15 : ∀ z : x_S × Nat × Nat × Int32, rec15 z = some r → ∀ (H : Heap) (locs : List Loc) (ls : Array Slot), x_I E A s.heap (cw E ad ap z.1) H locs → lv_has ls 3 [(0, .ref (ap z.2.1 0)), (1, .ref (ap z.2.2.1 0)), (2, .int z.2.2.2)] → W p l e { frames := 0, cells := 0, slots := 0, locals := 0 } s m args below meth c H locs 0 0 Q (F0 m 15 ls [])) (hI : x_I E A s.heap (cw E ad ap S) H locs) (hl : lv_has ls 3 [(0, .ref (ap a0 0)), (1, .ref (ap a1 0)), (2, .int a2)]) (hf : f_X2_isAlike_15 n rec15 S a0 a1 a2 = some r) : W p l e { frames := 0, cells := 0, slots := 0, locals := 0 } s m args below meth c H locs 0 0 Q (F0 m 15 ls []) := by
  obtain ⟨hx, hb, hml, hown, hts, hK, hN, hA⟩ := id hC
  unfold f_X2_isAlike_15 at hf
  refine lv_iload_n hx hb dX2_isAlike_15 rfl (lv_at hl 2 rfl) ?_
  refine lv_aload_n hx hb dX2_isAlike_16 rfl (lv_at hl 0 rfl) ?_
  refine gX2_4 hC hI hf lkf_X2_24 dX2_isAlike_17 (fun v3 hf => ?_)
  refine x_ige hC 91 hf dX2_isAlike_20 (by decide) (fun hf => ?_) (fun hf => ?_)
  · refine lv_iconst (v := (1 : Int32)) hx hb dX2_isAlike_91 (by decide) ?_
    obtain ⟨h9, hf⟩ := x_g_eq hf
    obtain rfl := Option.some.inj hf
    exact hR _ _ _ _ h9 hI dX2_isAlike_92
  · refine lv_aload_n hx hb dX2_isAlike_23 rfl (lv_at hl 0 rfl) ?_
    refine gX2_0 hC hI hf lkf_X2_9 dX2_isAlike_24 (fun hf => ?_)
    refine lv_iload_n hx hb dX2_isAlike_27 rfl (lv_at hl 2 rfl) ?_
    refine aX2_0 hC hI hf dX2_isAlike_28 (fun v4 hf => ?_)
    refine lv_aload_n hx hb dX2_isAlike_29 rfl (lv_at hl 1 rfl) ?_
    refine gX2_0 hC hI hf lkf_X2_9 dX2_isAlike_30 (fun hf => ?_)
    refine lv_iload_n hx hb dX2_isAlike_33 rfl (lv_at hl 2 rfl) ?_
    refine aX2_0 hC hI hf dX2_isAlike_34 (fun v5 hf => ?_)
    refine x_ine hC 83 hf dX2_isAlike_35 (by decide) (fun hf => ?_) (fun hf => ?_)
    · refine lv_iconst (v := (0 : Int32)) hx hb dX2_isAlike_83 (by decide) ?_
      obtain ⟨h9, hf⟩ := x_g_eq hf
      obtain rfl := Option.some.inj hf
      exact hR _ _ _ _ h9 hI dX2_isAlike_84
    · refine lv_aload_n hx hb dX2_isAlike_38 rfl (lv_at hl 0 rfl) ?_
      refine gX2_1 hC hI hf lkf_X2_15 dX2_isAlike_39 (fun hf => ?_)
      refine lv_iload_n hx hb dX2_isAlike_42 rfl (lv_at hl 2 rfl) ?_
      refine aX2_1 hC hI hf dX2_isAlike_43 (fun v6 hf => ?_)
      refine lv_aload_n hx hb dX2_isAlike_44 rfl (lv_at hl 1 rfl) ?_
      refine gX2_1 hC hI hf lkf_X2_15 dX2_isAlike_45 (fun hf => ?_)
      refine lv_iload_n hx hb dX2_isAlike_48 rfl (lv_at hl 2 rfl) ?_
      refine aX2_1 hC hI hf dX2_isAlike_49 (fun v7 hf => ?_)
      refine x_ine hC 83 hf dX2_isAlike_50 (by decide) (fun hf => ?_) (fun hf => ?_)
      · refine lv_iconst (v := (0 : Int32)) hx hb dX2_isAlike_83 (by decide) ?_
        obtain ⟨h9, hf⟩ := x_g_eq hf
        obtain rfl := Option.some.inj hf
        exact hR _ _ _ _ h9 hI dX2_isAlike_84
      · refine lv_aload_n hx hb dX2_isAlike_53 rfl (lv_at hl 0 rfl) ?_
        refine gX2_2 hC hI hf lkf_X2_18 dX2_isAlike_54 (fun hf => ?_)
        refine lv_iload_n hx hb dX2_isAlike_57 rfl (lv_at hl 2 rfl) ?_
        refine aX2_2 hC hI hf dX2_isAlike_58 (fun v8 hf => ?_)
        refine lv_aload_n hx hb dX2_isAlike_59 rfl (lv_at hl 1 rfl) ?_
        refine gX2_2 hC hI hf lkf_X2_18 dX2_isAlike_60 (fun hf => ?_)
        refine lv_iload_n hx hb dX2_isAlike_63 rfl (lv_at hl 2 rfl) ?_
        refine aX2_2 hC hI hf dX2_isAlike_64 (fun v9 hf => ?_)
        refine x_ine hC 83 hf dX2_isAlike_65 (by decide) (fun hf => ?_) (fun hf => ?_)
        · refine lv_iconst (v := (0 : Int32)) hx hb dX2_isAlike_83 (by decide) ?_
          obtain ⟨h9, hf⟩ := x_g_eq hf
          obtain rfl := Option.some.inj hf
          exact hR _ _ _ _ h9 hI dX2_isAlike_84
        · refine lv_aload_n hx hb dX2_isAlike_68 rfl (lv_at hl 0 rfl) ?_
          refine gX2_3 hC hI hf lkf_X2_21 dX2_isAlike_69 (fun hf => ?_)
          refine lv_iload_n hx hb dX2_isAlike_72 rfl (lv_at hl 2 rfl) ?_
          refine aX2_3 hC hI hf dX2_isAlike_73 (fun v10 hf => ?_)
          refine lv_aload_n hx hb dX2_isAlike_74 rfl (lv_at hl 1 rfl) ?_
          refine gX2_3 hC hI hf lkf_X2_21 dX2_isAlike_75 (fun hf => ?_)
          refine lv_iload_n hx hb dX2_isAlike_78 rfl (lv_at hl 2 rfl) ?_
          refine aX2_3 hC hI hf dX2_isAlike_79 (fun v11 hf => ?_)
          refine x_ieq hC 85 hf dX2_isAlike_80 (by decide) (fun hf => ?_) (fun hf => ?_)
          · refine lv_iinc (v := (a2 + (1 : Int32))) (lv' := [(2, .int (a2 + (1 : Int32))), (0, .ref (ap a0 0)), (1, .ref (ap a1 0))]) hx hb dX2_isAlike_85 hl (k := 2) rfl rfl (by decide) rfl (fun ls hl => ?_)
            refine lv_goto (tgt := 15) hx hb dX2_isAlike_88 (by decide) ?_
            exact hrec15 _ hf _ _ _ hI (lv_sub hl [1, 2, 0] rfl)
          · refine lv_iconst (v := (0 : Int32)) hx hb dX2_isAlike_83 (by decide) ?_
            obtain ⟨h9, hf⟩ := x_g_eq hf
            obtain rfl := Option.some.inj hf
            exact hR _ _ _ _ h9 hI dX2_isAlike_84
theorem w_X2_isAlike_15_loop {r : Int32 × x_S} (hC : x_C p s m args meth c cX2_isAlike 3 RX2 E A) (hR : x_Rz p l e { frames := 0, cells := 0, slots := 0, locals := 0 } s m args below meth c cX2_isAlike E A Q (cw E ad ap r.2) r.1) : ∀ (k : Nat) (z : x_S × Nat × Nat × Int32), x_loop (fun rec z => f_X2_isAlike_15 n rec z.1 z.2.1 z.2.2.1 z.2.2.2) k z = some r → ∀ (H : Heap) (locs : List Loc) (ls : Array Slot), x_I E A s.heap (cw E ad ap z.1) H locs → lv_has ls 3 [(0, .ref (ap z.2.1 0)), (1, .ref (ap z.2.2.1 0)), (2, .int z.2.2.2)] → W p l e { frames := 0, cells := 0, slots := 0, locals := 0 } s m args below meth c H locs 0 0 Q (F0 m 15 ls []) :=
  x_loop_ind (P := fun (z : x_S × Nat × Nat × Int32) => ∀ (H : Heap) (locs : List Loc) (ls : Array Slot), x_I E A s.heap (cw E ad ap z.1) H locs → lv_has ls 3 [(0, .ref (ap z.2.1 0)), (1, .ref (ap z.2.2.1 0)), (2, .int z.2.2.2)] → W p l e { frames := 0, cells := 0, slots := 0, locals := 0 } s m args below meth c H locs 0 0 Q (F0 m 15 ls [])) (fun rec hrec z hf H locs ls hI hl => w_X2_isAlike_15 hC hR hrec hI hl hf)
def f_X2_isAlike (n : Nat) (S : x_S) (a0 : Nat) (a1 : Nat) : Option (Int32 × x_S) :=
x_g (a0 < g_np S) (x_let (g_ps S 4 a0) (fun v1 =>
x_g (a1 < g_np S) (x_let (g_ps S 4 a1) (fun v2 =>
if v1 = v2 then
x_loop (fun rec z => f_X2_isAlike_15 n rec z.1 z.2.1 z.2.2.1 z.2.2.2) n (S, a0, a1, (0 : Int32))
else
x_g ((0 : Int32) = 0 ∨ (0 : Int32) = 1) (some ((0 : Int32), S))))))
set_option maxHeartbeats 4000000 in
set_option maxRecDepth 100000 in
theorem w_X2_isAlike {r : Int32 × x_S} {a0 : Nat} {a1 : Nat} (hC : x_C p s m args meth c cX2_isAlike 3 RX2 E A) (hR : x_Rz p l e { frames := 0, cells := 0, slots := 0, locals := 0 } s m args below meth c cX2_isAlike E A Q (cw E ad ap r.2) r.1) (hI : x_I E A s.heap (cw E ad ap S) H locs) (hl : lv_has ls 3 [(0, .ref (ap a0 0)), (1, .ref (ap a1 0))]) (hf : f_X2_isAlike n S a0 a1 = some r) : W p l e { frames := 0, cells := 0, slots := 0, locals := 0 } s m args below meth c H locs 0 0 Q (F0 m 0 ls []) := by
  obtain ⟨hx, hb, hml, hown, hts, hK, hN, hA⟩ := id hC
  unfold f_X2_isAlike at hf
  refine lv_aload_n hx hb dX2_isAlike_0 rfl (lv_at hl 0 rfl) ?_
  refine gX2_4 hC hI hf lkf_X2_24 dX2_isAlike_1 (fun v1 hf => ?_)
  refine lv_aload_n hx hb dX2_isAlike_4 rfl (lv_at hl 1 rfl) ?_
  refine gX2_4 hC hI hf lkf_X2_24 dX2_isAlike_5 (fun v2 hf => ?_)
  refine x_ieq hC 13 hf dX2_isAlike_8 (by decide) (fun hf => ?_) (fun hf => ?_)
  · refine lv_iconst (v := (0 : Int32)) hx hb dX2_isAlike_13 (by decide) ?_
    refine lv_istore_n (lv' := [(2, .int (0 : Int32)), (0, .ref (ap a0 0)), (1, .ref (ap a1 0))]) hx hb dX2_isAlike_14 rfl hl (by decide) rfl (fun ls hl => ?_)
    exact w_X2_isAlike_15_loop hC hR _ _ hf _ _ _ hI (lv_sub hl [1, 2, 0] rfl)
  · refine lv_iconst (v := (0 : Int32)) hx hb dX2_isAlike_11 (by decide) ?_
    obtain ⟨h9, hf⟩ := x_g_eq hf
    obtain rfl := Option.some.inj hf
    exact hR _ _ _ _ h9 hI dX2_isAlike_12
theorem c_X2_isAlike {a0 : Nat} {a1 : Nat} {v : Int32} {S1 : x_S} (hf : f_X2_isAlike n S a0 a1 = some (v, S1)) : x_M l yX2_isAlike cX2_isAlike 3 (some .boolean) 0 0 E [.ref (ap a0 0), .ref (ap a1 0)] (cw E ad ap S) (cw E ad ap S1) (some (.int v)) :=
  x_entZ (by decide) (Nat.le_of_ble_eq_true rfl) (fun p e s m args below meth c A Q ls hC hI hR hl => w_X2_isAlike (r := (v, S1)) hC hR hI hl hf)
-- X6_leastAlike
def f_X6_leastAlike_30 (n : Nat) (rec2 : x_S × Int32 × Nat × Int32 → Option (Int32 × x_S)) (S : x_S) (a1 : Int32) (a2 : Nat) (a3 : Int32) : Option (Int32 × x_S) :=
rec2 (S, a1, a2, (a3 + (1 : Int32)))
set_option maxHeartbeats 4000000 in
set_option maxRecDepth 100000 in
theorem w_X6_leastAlike_30 {r : Int32 × x_S} {a1 : Int32} {a2 : Nat} {a3 : Int32} {rec2 : x_S × Int32 × Nat × Int32 → Option (Int32 × x_S)} (hC : x_C p s m args meth c cX6_leastAlike 5 RX6 E A) (hR : x_Ri p l e { frames := 1, cells := 0, slots := 0, locals := 22 } s m args below meth c cX6_leastAlike E A Q (cw E ad ap r.2) r.1) (hrec2 : ∀ z : x_S × Int32 × Nat × Int32, rec2 z = some r → ∀ (H : Heap) (locs : List Loc) (ls : Array Slot), x_I E A s.heap (cw E ad ap z.1) H locs → lv_has ls 5 [(0, .ref (ad 699)), (1, .int z.2.1), (2, .ref (ap z.2.2.1 0)), (3, .int z.2.2.2)] → W p l e { frames := 1, cells := 0, slots := 0, locals := 22 } s m args below meth c H locs 0 0 Q (F0 m 2 ls [])) (hI : x_I E A s.heap (cw E ad ap S) H locs) (hl : lv_has ls 5 [(0, .ref (ad 699)), (1, .int a1), (2, .ref (ap a2 0)), (3, .int a3)]) (hf : f_X6_leastAlike_30 n rec2 S a1 a2 a3 = some r) : W p l e { frames := 1, cells := 0, slots := 0, locals := 22 } s m args below meth c H locs 0 0 Q (F0 m 30 ls []) := by
  obtain ⟨hx, hb, hml, hown, hts, hK, hN, hA⟩ := id hC
  unfold f_X6_leastAlike_30 at hf
  refine lv_iinc (v := (a3 + (1 : Int32))) (lv' := [(3, .int (a3 + (1 : Int32))), (0, .ref (ad 699)), (1, .int a1), (2, .ref (ap a2 0))]) hx hb dX6_leastAlike_30 hl (k := 3) rfl rfl (by decide) rfl (fun ls hl => ?_)
  refine lv_goto (tgt := 2) hx hb dX6_leastAlike_33 (by decide) ?_
  exact hrec2 _ hf _ _ _ hI (lv_sub hl [1, 2, 3, 0] rfl)
def f_X6_leastAlike_2 (n : Nat) (rec2 : x_S × Int32 × Nat × Int32 → Option (Int32 × x_S)) (S : x_S) (a1 : Int32) (a2 : Nat) (a3 : Int32) : Option (Int32 × x_S) :=
if a1 ≤ a3 then
some (a1, S)
else
x_b2 (f_X6_find n S a3) (fun o2 S => x_o o2 (
f_X6_leastAlike_30 n rec2 S a1 a2 a3) (fun i3 =>
x_g (i3 < g_np S) (x_b2 (f_X2_isAlike n S i3 a2) (fun v5 S =>
if v5 = 0 then
f_X6_leastAlike_30 n rec2 S a1 a2 a3
else
some (a3, S)))))
set_option maxHeartbeats 4000000 in
set_option maxRecDepth 100000 in
theorem w_X6_leastAlike_2 {r : Int32 × x_S} {a1 : Int32} {a2 : Nat} {a3 : Int32} {rec2 : x_S × Int32 × Nat × Int32 → Option (Int32 × x_S)} (hC : x_C p s m args meth c cX6_leastAlike 5 RX6 E A) (hR : x_Ri p l e { frames := 1, cells := 0, slots := 0, locals := 22 } s m args below meth c cX6_leastAlike E A Q (cw E ad ap r.2) r.1) (hrec2 : ∀ z : x_S × Int32 × Nat × Int32, rec2 z = some r → ∀ (H : Heap) (locs : List Loc) (ls : Array Slot), x_I E A s.heap (cw E ad ap z.1) H locs → lv_has ls 5 [(0, .ref (ad 699)), (1, .int z.2.1), (2, .ref (ap z.2.2.1 0)), (3, .int z.2.2.2)] → W p l e { frames := 1, cells := 0, slots := 0, locals := 22 } s m args below meth c H locs 0 0 Q (F0 m 2 ls [])) (hI : x_I E A s.heap (cw E ad ap S) H locs) (hl : lv_has ls 5 [(0, .ref (ad 699)), (1, .int a1), (2, .ref (ap a2 0)), (3, .int a3)]) (hf : f_X6_leastAlike_2 n rec2 S a1 a2 a3 = some r) : W p l e { frames := 1, cells := 0, slots := 0, locals := 22 } s m args below meth c H locs 0 0 Q (F0 m 2 ls []) := by
  obtain ⟨hx, hb, hml, hown, hts, hK, hN, hA⟩ := id hC
  unfold f_X6_leastAlike_2 at hf
  refine lv_iload_n hx hb dX6_leastAlike_2 rfl (lv_at hl 3 rfl) ?_
  refine lv_iload_n hx hb dX6_leastAlike_3 rfl (lv_at hl 1 rfl) ?_
  refine x_ige hC 36 hf dX6_leastAlike_4 (by decide) (fun hf => ?_) (fun hf => ?_)
  · refine lv_iload_n hx hb dX6_leastAlike_36 rfl (lv_at hl 1 rfl) ?_
    obtain rfl := Option.some.inj hf
    exact hR _ _ _ _ hI dX6_leastAlike_37
  · refine lv_aload_n hx hb dX6_leastAlike_7 rfl (lv_at hl 0 rfl) ?_
    refine lv_iload_n hx hb dX6_leastAlike_8 rfl (lv_at hl 3 rfl) ?_
    obtain ⟨o2, S, hc1, hf⟩ := x_b2_eq hf
    refine x_callV hC hI (c_X6_find hc1) 0 6 rfl rfl kv_X6_68 rfl ⟨Nat.le_of_ble_eq_true rfl, Nat.le_of_ble_eq_true rfl⟩ ⟨Nat.le_refl _, Nat.le_refl _⟩ hl.1 rfl (Nat.le_of_ble_eq_true rfl) dX6_leastAlike_9 (fun H locs hI => ?_)
    refine x_casesR hf (fun hf => ?_) (fun i3 hf => ?_)
    · refine lv_astoreN (lv' := [(4, .null), (0, .ref (ad 699)), (1, .int a1), (2, .ref (ap a2 0)), (3, .int a3)]) hx hb dX6_leastAlike_12 hl (by decide) rfl (fun ls hl => ?_)
      refine lv_aloadN hx hb dX6_leastAlike_14 (lv_at hl 0 rfl) ?_
      refine lv_ifnullN (tgt := 30) hx hb dX6_leastAlike_16 (by decide) ?_
      exact w_X6_leastAlike_30 hC hR hrec2 hI (lv_sub hl [1, 2, 3, 4] rfl) hf
    · refine lv_astore (lv' := [(4, .ref (ap i3 0)), (0, .ref (ad 699)), (1, .int a1), (2, .ref (ap a2 0)), (3, .int a3)]) hx hb dX6_leastAlike_12 hl (by decide) rfl (fun ls hl => ?_)
      refine lv_aload hx hb dX6_leastAlike_14 (lv_at hl 0 rfl) ?_
      refine lv_ifnull hx hb dX6_leastAlike_16 ?_
      refine lv_aload hx hb dX6_leastAlike_19 (lv_at hl 0 rfl) ?_
      refine lv_aload_n hx hb dX6_leastAlike_21 rfl (lv_at hl 3 rfl) ?_
      obtain ⟨h9, hf⟩ := x_g_eq hf
      obtain ⟨v5, S, hc4, hf⟩ := x_b2_eq hf
      refine x_callV hC hI (c_X2_isAlike hc4) (36 + (5 * i3 + 0)) 2 (x_cw_get E ad ap _ i3 0 (by decide) h9) rfl kv_X6_156 rfl ⟨Nat.le_of_ble_eq_true rfl, Nat.le_of_ble_eq_true rfl⟩ ⟨Nat.le_refl _, Nat.le_refl _⟩ hl.1 rfl (Nat.le_of_ble_eq_true rfl) dX6_leastAlike_22 (fun H locs hI => ?_)
      refine x_eq0 hC 30 hf dX6_leastAlike_25 (by decide) (fun hf => ?_) (fun hf => ?_)
      · exact w_X6_leastAlike_30 hC hR hrec2 hI (lv_sub hl [1, 2, 3, 4] rfl) hf
      · refine lv_iload_n hx hb dX6_leastAlike_28 rfl (lv_at hl 4 rfl) ?_
        obtain rfl := Option.some.inj hf
        exact hR _ _ _ _ hI dX6_leastAlike_29
theorem w_X6_leastAlike_2_loop {r : Int32 × x_S} (hC : x_C p s m args meth c cX6_leastAlike 5 RX6 E A) (hR : x_Ri p l e { frames := 1, cells := 0, slots := 0, locals := 22 } s m args below meth c cX6_leastAlike E A Q (cw E ad ap r.2) r.1) : ∀ (k : Nat) (z : x_S × Int32 × Nat × Int32), x_loop (fun rec z => f_X6_leastAlike_2 n rec z.1 z.2.1 z.2.2.1 z.2.2.2) k z = some r → ∀ (H : Heap) (locs : List Loc) (ls : Array Slot), x_I E A s.heap (cw E ad ap z.1) H locs → lv_has ls 5 [(0, .ref (ad 699)), (1, .int z.2.1), (2, .ref (ap z.2.2.1 0)), (3, .int z.2.2.2)] → W p l e { frames := 1, cells := 0, slots := 0, locals := 22 } s m args below meth c H locs 0 0 Q (F0 m 2 ls []) :=
  x_loop_ind (P := fun (z : x_S × Int32 × Nat × Int32) => ∀ (H : Heap) (locs : List Loc) (ls : Array Slot), x_I E A s.heap (cw E ad ap z.1) H locs → lv_has ls 5 [(0, .ref (ad 699)), (1, .int z.2.1), (2, .ref (ap z.2.2.1 0)), (3, .int z.2.2.2)] → W p l e { frames := 1, cells := 0, slots := 0, locals := 22 } s m args below meth c H locs 0 0 Q (F0 m 2 ls [])) (fun rec hrec z hf H locs ls hI hl => w_X6_leastAlike_2 hC hR hrec hI hl hf)
def f_X6_leastAlike (n : Nat) (S : x_S) (a1 : Int32) (a2 : Nat) : Option (Int32 × x_S) :=
x_loop (fun rec z => f_X6_leastAlike_2 n rec z.1 z.2.1 z.2.2.1 z.2.2.2) n (S, a1, a2, (0 : Int32))
set_option maxHeartbeats 4000000 in
set_option maxRecDepth 100000 in
theorem w_X6_leastAlike {r : Int32 × x_S} {a1 : Int32} {a2 : Nat} (hC : x_C p s m args meth c cX6_leastAlike 5 RX6 E A) (hR : x_Ri p l e { frames := 1, cells := 0, slots := 0, locals := 22 } s m args below meth c cX6_leastAlike E A Q (cw E ad ap r.2) r.1) (hI : x_I E A s.heap (cw E ad ap S) H locs) (hl : lv_has ls 5 [(0, .ref (ad 699)), (1, .int a1), (2, .ref (ap a2 0))]) (hf : f_X6_leastAlike n S a1 a2 = some r) : W p l e { frames := 1, cells := 0, slots := 0, locals := 22 } s m args below meth c H locs 0 0 Q (F0 m 0 ls []) := by
  obtain ⟨hx, hb, hml, hown, hts, hK, hN, hA⟩ := id hC
  unfold f_X6_leastAlike at hf
  refine lv_iconst (v := (0 : Int32)) hx hb dX6_leastAlike_0 (by decide) ?_
  refine lv_istore_n (lv' := [(3, .int (0 : Int32)), (0, .ref (ad 699)), (1, .int a1), (2, .ref (ap a2 0))]) hx hb dX6_leastAlike_1 rfl hl (by decide) rfl (fun ls hl => ?_)
  exact w_X6_leastAlike_2_loop hC hR _ _ hf _ _ _ hI (lv_sub hl [1, 2, 3, 0] rfl)
theorem c_X6_leastAlike {a1 : Int32} {a2 : Nat} {v : Int32} {S1 : x_S} (hf : f_X6_leastAlike n S a1 a2 = some (v, S1)) : x_M l yX6_leastAlike cX6_leastAlike 5 (some .int) 1 22 E [.ref (ad 699), .int a1, .ref (ap a2 0)] (cw E ad ap S) (cw E ad ap S1) (some (.int v)) :=
  x_entI (by decide) (Nat.le_of_ble_eq_true rfl) (fun p e s m args below meth c A Q ls hC hI hR hl => w_X6_leastAlike (r := (v, S1)) hC hR hI hl hf)
-- X2_hasCallOf
def f_X2_hasCallOf_32 (n : Nat) (rec2 : x_S × Nat × Int32 × Int32 → Option (Int32 × x_S)) (S : x_S) (a0 : Nat) (a1 : Int32) (a2 : Int32) : Option (Int32 × x_S) :=
rec2 (S, a0, a1, (a2 + (1 : Int32)))
set_option maxHeartbeats 4000000 in
set_option maxRecDepth 100000 in
theorem w_X2_hasCallOf_32 {r : Int32 × x_S} {a0 : Nat} {a1 : Int32} {a2 : Int32} {rec2 : x_S × Nat × Int32 × Int32 → Option (Int32 × x_S)} (hC : x_C p s m args meth c cX2_hasCallOf 3 RX2 E A) (hR : x_Rz p l e { frames := 0, cells := 0, slots := 0, locals := 0 } s m args below meth c cX2_hasCallOf E A Q (cw E ad ap r.2) r.1) (hrec2 : ∀ z : x_S × Nat × Int32 × Int32, rec2 z = some r → ∀ (H : Heap) (locs : List Loc) (ls : Array Slot), x_I E A s.heap (cw E ad ap z.1) H locs → lv_has ls 3 [(0, .ref (ap z.2.1 0)), (1, .int z.2.2.1), (2, .int z.2.2.2)] → W p l e { frames := 0, cells := 0, slots := 0, locals := 0 } s m args below meth c H locs 0 0 Q (F0 m 2 ls [])) (hI : x_I E A s.heap (cw E ad ap S) H locs) (hl : lv_has ls 3 [(0, .ref (ap a0 0)), (1, .int a1), (2, .int a2)]) (hf : f_X2_hasCallOf_32 n rec2 S a0 a1 a2 = some r) : W p l e { frames := 0, cells := 0, slots := 0, locals := 0 } s m args below meth c H locs 0 0 Q (F0 m 32 ls []) := by
  obtain ⟨hx, hb, hml, hown, hts, hK, hN, hA⟩ := id hC
  unfold f_X2_hasCallOf_32 at hf
  refine lv_iinc (v := (a2 + (1 : Int32))) (lv' := [(2, .int (a2 + (1 : Int32))), (0, .ref (ap a0 0)), (1, .int a1)]) hx hb dX2_hasCallOf_32 hl (k := 2) rfl rfl (by decide) rfl (fun ls hl => ?_)
  refine lv_goto (tgt := 2) hx hb dX2_hasCallOf_35 (by decide) ?_
  exact hrec2 _ hf _ _ _ hI (lv_sub hl [1, 2, 0] rfl)
def f_X2_hasCallOf_2 (n : Nat) (rec2 : x_S × Nat × Int32 × Int32 → Option (Int32 × x_S)) (S : x_S) (a0 : Nat) (a1 : Int32) (a2 : Int32) : Option (Int32 × x_S) :=
x_g (a0 < g_np S) (x_let (g_ps S 4 a0) (fun v1 =>
if v1 ≤ a2 then
x_g ((0 : Int32) = 0 ∨ (0 : Int32) = 1) (some ((0 : Int32), S))
else
x_g (a0 < g_np S) (
x_g (a0 < g_np S) (x_g (¬ (a2 < 0 ∨ 60 ≤ (a2).toNatClampNeg)) (x_let (g_pa S 0 a0 (a2).toNatClampNeg) (fun v2 =>
if v2 = (5 : Int32) then
x_g (a0 < g_np S) (
x_g (a0 < g_np S) (x_g (¬ (a2 < 0 ∨ 60 ≤ (a2).toNatClampNeg)) (x_let (g_pa S 1 a0 (a2).toNatClampNeg) (fun v3 =>
if v3 = a1 then
x_g ((1 : Int32) = 0 ∨ (1 : Int32) = 1) (some ((1 : Int32), S))
else
f_X2_hasCallOf_32 n rec2 S a0 a1 a2))))
else
f_X2_hasCallOf_32 n rec2 S a0 a1 a2))))))
set_option maxHeartbeats 4000000 in
set_option maxRecDepth 100000 in
theorem w_X2_hasCallOf_2 {r : Int32 × x_S} {a0 : Nat} {a1 : Int32} {a2 : Int32} {rec2 : x_S × Nat × Int32 × Int32 → Option (Int32 × x_S)} (hC : x_C p s m args meth c cX2_hasCallOf 3 RX2 E A) (hR : x_Rz p l e { frames := 0, cells := 0, slots := 0, locals := 0 } s m args below meth c cX2_hasCallOf E A Q (cw E ad ap r.2) r.1) (hrec2 : ∀ z : x_S × Nat × Int32 × Int32, rec2 z = some r → ∀ (H : Heap) (locs : List Loc) (ls : Array Slot), x_I E A s.heap (cw E ad ap z.1) H locs → lv_has ls 3 [(0, .ref (ap z.2.1 0)), (1, .int z.2.2.1), (2, .int z.2.2.2)] → W p l e { frames := 0, cells := 0, slots := 0, locals := 0 } s m args below meth c H locs 0 0 Q (F0 m 2 ls [])) (hI : x_I E A s.heap (cw E ad ap S) H locs) (hl : lv_has ls 3 [(0, .ref (ap a0 0)), (1, .int a1), (2, .int a2)]) (hf : f_X2_hasCallOf_2 n rec2 S a0 a1 a2 = some r) : W p l e { frames := 0, cells := 0, slots := 0, locals := 0 } s m args below meth c H locs 0 0 Q (F0 m 2 ls []) := by
  obtain ⟨hx, hb, hml, hown, hts, hK, hN, hA⟩ := id hC
  unfold f_X2_hasCallOf_2 at hf
  refine lv_iload_n hx hb dX2_hasCallOf_2 rfl (lv_at hl 2 rfl) ?_
  refine lv_aload_n hx hb dX2_hasCallOf_3 rfl (lv_at hl 0 rfl) ?_
  refine gX2_4 hC hI hf lkf_X2_24 dX2_hasCallOf_4 (fun v1 hf => ?_)
  refine x_ige hC 38 hf dX2_hasCallOf_7 (by decide) (fun hf => ?_) (fun hf => ?_)
  · refine lv_iconst (v := (0 : Int32)) hx hb dX2_hasCallOf_38 (by decide) ?_
    obtain ⟨h9, hf⟩ := x_g_eq hf
    obtain rfl := Option.some.inj hf
    exact hR _ _ _ _ h9 hI dX2_hasCallOf_39
  · refine lv_aload_n hx hb dX2_hasCallOf_10 rfl (lv_at hl 0 rfl) ?_
    refine gX2_0 hC hI hf lkf_X2_9 dX2_hasCallOf_11 (fun hf => ?_)
    refine lv_iload_n hx hb dX2_hasCallOf_14 rfl (lv_at hl 2 rfl) ?_
    refine aX2_0 hC hI hf dX2_hasCallOf_15 (fun v2 hf => ?_)
    refine lv_iconst (v := (5 : Int32)) hx hb dX2_hasCallOf_16 (by decide) ?_
    refine x_ine hC 32 hf dX2_hasCallOf_17 (by decide) (fun hf => ?_) (fun hf => ?_)
    · exact w_X2_hasCallOf_32 hC hR hrec2 hI (lv_sub hl [0, 1, 2] rfl) hf
    · refine lv_aload_n hx hb dX2_hasCallOf_20 rfl (lv_at hl 0 rfl) ?_
      refine gX2_1 hC hI hf lkf_X2_15 dX2_hasCallOf_21 (fun hf => ?_)
      refine lv_iload_n hx hb dX2_hasCallOf_24 rfl (lv_at hl 2 rfl) ?_
      refine aX2_1 hC hI hf dX2_hasCallOf_25 (fun v3 hf => ?_)
      refine lv_iload_n hx hb dX2_hasCallOf_26 rfl (lv_at hl 1 rfl) ?_
      refine x_ine hC 32 hf dX2_hasCallOf_27 (by decide) (fun hf => ?_) (fun hf => ?_)
      · exact w_X2_hasCallOf_32 hC hR hrec2 hI (lv_sub hl [0, 1, 2] rfl) hf
      · refine lv_iconst (v := (1 : Int32)) hx hb dX2_hasCallOf_30 (by decide) ?_
        obtain ⟨h9, hf⟩ := x_g_eq hf
        obtain rfl := Option.some.inj hf
        exact hR _ _ _ _ h9 hI dX2_hasCallOf_31
theorem w_X2_hasCallOf_2_loop {r : Int32 × x_S} (hC : x_C p s m args meth c cX2_hasCallOf 3 RX2 E A) (hR : x_Rz p l e { frames := 0, cells := 0, slots := 0, locals := 0 } s m args below meth c cX2_hasCallOf E A Q (cw E ad ap r.2) r.1) : ∀ (k : Nat) (z : x_S × Nat × Int32 × Int32), x_loop (fun rec z => f_X2_hasCallOf_2 n rec z.1 z.2.1 z.2.2.1 z.2.2.2) k z = some r → ∀ (H : Heap) (locs : List Loc) (ls : Array Slot), x_I E A s.heap (cw E ad ap z.1) H locs → lv_has ls 3 [(0, .ref (ap z.2.1 0)), (1, .int z.2.2.1), (2, .int z.2.2.2)] → W p l e { frames := 0, cells := 0, slots := 0, locals := 0 } s m args below meth c H locs 0 0 Q (F0 m 2 ls []) :=
  x_loop_ind (P := fun (z : x_S × Nat × Int32 × Int32) => ∀ (H : Heap) (locs : List Loc) (ls : Array Slot), x_I E A s.heap (cw E ad ap z.1) H locs → lv_has ls 3 [(0, .ref (ap z.2.1 0)), (1, .int z.2.2.1), (2, .int z.2.2.2)] → W p l e { frames := 0, cells := 0, slots := 0, locals := 0 } s m args below meth c H locs 0 0 Q (F0 m 2 ls [])) (fun rec hrec z hf H locs ls hI hl => w_X2_hasCallOf_2 hC hR hrec hI hl hf)
def f_X2_hasCallOf (n : Nat) (S : x_S) (a0 : Nat) (a1 : Int32) : Option (Int32 × x_S) :=
x_loop (fun rec z => f_X2_hasCallOf_2 n rec z.1 z.2.1 z.2.2.1 z.2.2.2) n (S, a0, a1, (0 : Int32))
set_option maxHeartbeats 4000000 in
set_option maxRecDepth 100000 in
theorem w_X2_hasCallOf {r : Int32 × x_S} {a0 : Nat} {a1 : Int32} (hC : x_C p s m args meth c cX2_hasCallOf 3 RX2 E A) (hR : x_Rz p l e { frames := 0, cells := 0, slots := 0, locals := 0 } s m args below meth c cX2_hasCallOf E A Q (cw E ad ap r.2) r.1) (hI : x_I E A s.heap (cw E ad ap S) H locs) (hl : lv_has ls 3 [(0, .ref (ap a0 0)), (1, .int a1)]) (hf : f_X2_hasCallOf n S a0 a1 = some r) : W p l e { frames := 0, cells := 0, slots := 0, locals := 0 } s m args below meth c H locs 0 0 Q (F0 m 0 ls []) := by
  obtain ⟨hx, hb, hml, hown, hts, hK, hN, hA⟩ := id hC
  unfold f_X2_hasCallOf at hf
  refine lv_iconst (v := (0 : Int32)) hx hb dX2_hasCallOf_0 (by decide) ?_
  refine lv_istore_n (lv' := [(2, .int (0 : Int32)), (0, .ref (ap a0 0)), (1, .int a1)]) hx hb dX2_hasCallOf_1 rfl hl (by decide) rfl (fun ls hl => ?_)
  exact w_X2_hasCallOf_2_loop hC hR _ _ hf _ _ _ hI (lv_sub hl [1, 2, 0] rfl)
theorem c_X2_hasCallOf {a0 : Nat} {a1 : Int32} {v : Int32} {S1 : x_S} (hf : f_X2_hasCallOf n S a0 a1 = some (v, S1)) : x_M l yX2_hasCallOf cX2_hasCallOf 3 (some .boolean) 0 0 E [.ref (ap a0 0), .int a1] (cw E ad ap S) (cw E ad ap S1) (some (.int v)) :=
  x_entZ (by decide) (Nat.le_of_ble_eq_true rfl) (fun p e s m args below meth c A Q ls hC hI hR hl => w_X2_hasCallOf (r := (v, S1)) hC hR hI hl hf)
-- X6_callersOf
def f_X6_callersOf_36 (n : Nat) (rec4 : x_S × Int32 × Int32 × Int32 → Option (Int32 × x_S)) (S : x_S) (a1 : Int32) (a2 : Int32) (a3 : Int32) : Option (Int32 × x_S) :=
rec4 (S, a1, a2, (a3 + (1 : Int32)))
set_option maxHeartbeats 4000000 in
set_option maxRecDepth 100000 in
theorem w_X6_callersOf_36 {r : Int32 × x_S} {a1 : Int32} {a2 : Int32} {a3 : Int32} {rec4 : x_S × Int32 × Int32 × Int32 → Option (Int32 × x_S)} (hC : x_C p s m args meth c cX6_callersOf 5 RX6 E A) (hR : x_Ri p l e { frames := 1, cells := 0, slots := 0, locals := 22 } s m args below meth c cX6_callersOf E A Q (cw E ad ap r.2) r.1) (hrec4 : ∀ z : x_S × Int32 × Int32 × Int32, rec4 z = some r → ∀ (H : Heap) (locs : List Loc) (ls : Array Slot), x_I E A s.heap (cw E ad ap z.1) H locs → lv_has ls 5 [(0, .ref (ad 699)), (1, .int z.2.1), (2, .int z.2.2.1), (3, .int z.2.2.2)] → W p l e { frames := 1, cells := 0, slots := 0, locals := 22 } s m args below meth c H locs 0 0 Q (F0 m 4 ls [])) (hI : x_I E A s.heap (cw E ad ap S) H locs) (hl : lv_has ls 5 [(0, .ref (ad 699)), (1, .int a1), (2, .int a2), (3, .int a3)]) (hf : f_X6_callersOf_36 n rec4 S a1 a2 a3 = some r) : W p l e { frames := 1, cells := 0, slots := 0, locals := 22 } s m args below meth c H locs 0 0 Q (F0 m 36 ls []) := by
  obtain ⟨hx, hb, hml, hown, hts, hK, hN, hA⟩ := id hC
  unfold f_X6_callersOf_36 at hf
  refine lv_iinc (v := (a3 + (1 : Int32))) (lv' := [(3, .int (a3 + (1 : Int32))), (0, .ref (ad 699)), (1, .int a1), (2, .int a2)]) hx hb dX6_callersOf_36 hl (k := 3) rfl rfl (by decide) rfl (fun ls hl => ?_)
  refine lv_goto (tgt := 4) hx hb dX6_callersOf_39 (by decide) ?_
  exact hrec4 _ hf _ _ _ hI (lv_sub hl [1, 2, 3, 0] rfl)
def f_X6_callersOf_4 (n : Nat) (rec4 : x_S × Int32 × Int32 × Int32 → Option (Int32 × x_S)) (S : x_S) (a1 : Int32) (a2 : Int32) (a3 : Int32) : Option (Int32 × x_S) :=
x_let (g_sc S 601) (fun v1 =>
if v1 ≤ a3 then
some (a2, S)
else
x_b2 (f_X6_find n S a3) (fun o3 S => x_o o3 (
f_X6_callersOf_36 n rec4 S a1 a2 a3) (fun i4 =>
x_g (i4 < g_np S) (x_b2 (f_X2_hasCallOf n S i4 a1) (fun v6 S =>
if v6 = 0 then
f_X6_callersOf_36 n rec4 S a1 a2 a3
else
f_X6_callersOf_36 n rec4 S a1 (a2 + (1 : Int32)) a3)))))
set_option maxHeartbeats 4000000 in
set_option maxRecDepth 100000 in
theorem w_X6_callersOf_4 {r : Int32 × x_S} {a1 : Int32} {a2 : Int32} {a3 : Int32} {rec4 : x_S × Int32 × Int32 × Int32 → Option (Int32 × x_S)} (hC : x_C p s m args meth c cX6_callersOf 5 RX6 E A) (hR : x_Ri p l e { frames := 1, cells := 0, slots := 0, locals := 22 } s m args below meth c cX6_callersOf E A Q (cw E ad ap r.2) r.1) (hrec4 : ∀ z : x_S × Int32 × Int32 × Int32, rec4 z = some r → ∀ (H : Heap) (locs : List Loc) (ls : Array Slot), x_I E A s.heap (cw E ad ap z.1) H locs → lv_has ls 5 [(0, .ref (ad 699)), (1, .int z.2.1), (2, .int z.2.2.1), (3, .int z.2.2.2)] → W p l e { frames := 1, cells := 0, slots := 0, locals := 22 } s m args below meth c H locs 0 0 Q (F0 m 4 ls [])) (hI : x_I E A s.heap (cw E ad ap S) H locs) (hl : lv_has ls 5 [(0, .ref (ad 699)), (1, .int a1), (2, .int a2), (3, .int a3)]) (hf : f_X6_callersOf_4 n rec4 S a1 a2 a3 = some r) : W p l e { frames := 1, cells := 0, slots := 0, locals := 22 } s m args below meth c H locs 0 0 Q (F0 m 4 ls []) := by
  obtain ⟨hx, hb, hml, hown, hts, hK, hN, hA⟩ := id hC
  unfold f_X6_callersOf_4 at hf
  refine lv_iload_n hx hb dX6_callersOf_4 rfl (lv_at hl 3 rfl) ?_
  refine lv_aload_n hx hb dX6_callersOf_5 rfl (lv_at hl 0 rfl) ?_
  refine gX6_1 hC hI hf lkf_X6_15 dX6_callersOf_6 (fun v1 hf => ?_)
  refine x_ige hC 42 hf dX6_callersOf_9 (by decide) (fun hf => ?_) (fun hf => ?_)
  · refine lv_iload_n hx hb dX6_callersOf_42 rfl (lv_at hl 2 rfl) ?_
    obtain rfl := Option.some.inj hf
    exact hR _ _ _ _ hI dX6_callersOf_43
  · refine lv_aload_n hx hb dX6_callersOf_12 rfl (lv_at hl 0 rfl) ?_
    refine lv_iload_n hx hb dX6_callersOf_13 rfl (lv_at hl 3 rfl) ?_
    obtain ⟨o3, S, hc2, hf⟩ := x_b2_eq hf
    refine x_callV hC hI (c_X6_find hc2) 0 6 rfl rfl kv_X6_68 rfl ⟨Nat.le_of_ble_eq_true rfl, Nat.le_of_ble_eq_true rfl⟩ ⟨Nat.le_refl _, Nat.le_refl _⟩ hl.1 rfl (Nat.le_of_ble_eq_true rfl) dX6_callersOf_14 (fun H locs hI => ?_)
    refine x_casesR hf (fun hf => ?_) (fun i4 hf => ?_)
    · refine lv_astoreN (lv' := [(4, .null), (0, .ref (ad 699)), (1, .int a1), (2, .int a2), (3, .int a3)]) hx hb dX6_callersOf_17 hl (by decide) rfl (fun ls hl => ?_)
      refine lv_aloadN hx hb dX6_callersOf_19 (lv_at hl 0 rfl) ?_
      refine lv_ifnullN (tgt := 36) hx hb dX6_callersOf_21 (by decide) ?_
      exact w_X6_callersOf_36 hC hR hrec4 hI (lv_sub hl [1, 2, 3, 4] rfl) hf
    · refine lv_astore (lv' := [(4, .ref (ap i4 0)), (0, .ref (ad 699)), (1, .int a1), (2, .int a2), (3, .int a3)]) hx hb dX6_callersOf_17 hl (by decide) rfl (fun ls hl => ?_)
      refine lv_aload hx hb dX6_callersOf_19 (lv_at hl 0 rfl) ?_
      refine lv_ifnull hx hb dX6_callersOf_21 ?_
      refine lv_aload hx hb dX6_callersOf_24 (lv_at hl 0 rfl) ?_
      refine lv_iload_n hx hb dX6_callersOf_26 rfl (lv_at hl 2 rfl) ?_
      obtain ⟨h9, hf⟩ := x_g_eq hf
      obtain ⟨v6, S, hc5, hf⟩ := x_b2_eq hf
      refine x_callV hC hI (c_X2_hasCallOf hc5) (36 + (5 * i4 + 0)) 2 (x_cw_get E ad ap _ i4 0 (by decide) h9) rfl kv_X6_215 rfl ⟨Nat.le_of_ble_eq_true rfl, Nat.le_of_ble_eq_true rfl⟩ ⟨Nat.le_refl _, Nat.le_refl _⟩ hl.1 rfl (Nat.le_of_ble_eq_true rfl) dX6_callersOf_27 (fun H locs hI => ?_)
      refine x_eq0 hC 36 hf dX6_callersOf_30 (by decide) (fun hf => ?_) (fun hf => ?_)
      · exact w_X6_callersOf_36 hC hR hrec4 hI (lv_sub hl [1, 2, 3, 4] rfl) hf
      · refine lv_iinc (v := (a2 + (1 : Int32))) (lv' := [(2, .int (a2 + (1 : Int32))), (4, .ref (ap i4 0)), (0, .ref (ad 699)), (1, .int a1), (3, .int a3)]) hx hb dX6_callersOf_33 hl (k := 3) rfl rfl (by decide) rfl (fun ls hl => ?_)
        exact w_X6_callersOf_36 hC hR hrec4 hI (lv_sub hl [2, 3, 0, 4] rfl) hf
theorem w_X6_callersOf_4_loop {r : Int32 × x_S} (hC : x_C p s m args meth c cX6_callersOf 5 RX6 E A) (hR : x_Ri p l e { frames := 1, cells := 0, slots := 0, locals := 22 } s m args below meth c cX6_callersOf E A Q (cw E ad ap r.2) r.1) : ∀ (k : Nat) (z : x_S × Int32 × Int32 × Int32), x_loop (fun rec z => f_X6_callersOf_4 n rec z.1 z.2.1 z.2.2.1 z.2.2.2) k z = some r → ∀ (H : Heap) (locs : List Loc) (ls : Array Slot), x_I E A s.heap (cw E ad ap z.1) H locs → lv_has ls 5 [(0, .ref (ad 699)), (1, .int z.2.1), (2, .int z.2.2.1), (3, .int z.2.2.2)] → W p l e { frames := 1, cells := 0, slots := 0, locals := 22 } s m args below meth c H locs 0 0 Q (F0 m 4 ls []) :=
  x_loop_ind (P := fun (z : x_S × Int32 × Int32 × Int32) => ∀ (H : Heap) (locs : List Loc) (ls : Array Slot), x_I E A s.heap (cw E ad ap z.1) H locs → lv_has ls 5 [(0, .ref (ad 699)), (1, .int z.2.1), (2, .int z.2.2.1), (3, .int z.2.2.2)] → W p l e { frames := 1, cells := 0, slots := 0, locals := 22 } s m args below meth c H locs 0 0 Q (F0 m 4 ls [])) (fun rec hrec z hf H locs ls hI hl => w_X6_callersOf_4 hC hR hrec hI hl hf)
def f_X6_callersOf (n : Nat) (S : x_S) (a1 : Int32) : Option (Int32 × x_S) :=
x_loop (fun rec z => f_X6_callersOf_4 n rec z.1 z.2.1 z.2.2.1 z.2.2.2) n (S, a1, (0 : Int32), (0 : Int32))
set_option maxHeartbeats 4000000 in
set_option maxRecDepth 100000 in
theorem w_X6_callersOf {r : Int32 × x_S} {a1 : Int32} (hC : x_C p s m args meth c cX6_callersOf 5 RX6 E A) (hR : x_Ri p l e { frames := 1, cells := 0, slots := 0, locals := 22 } s m args below meth c cX6_callersOf E A Q (cw E ad ap r.2) r.1) (hI : x_I E A s.heap (cw E ad ap S) H locs) (hl : lv_has ls 5 [(0, .ref (ad 699)), (1, .int a1)]) (hf : f_X6_callersOf n S a1 = some r) : W p l e { frames := 1, cells := 0, slots := 0, locals := 22 } s m args below meth c H locs 0 0 Q (F0 m 0 ls []) := by
  obtain ⟨hx, hb, hml, hown, hts, hK, hN, hA⟩ := id hC
  unfold f_X6_callersOf at hf
  refine lv_iconst (v := (0 : Int32)) hx hb dX6_callersOf_0 (by decide) ?_
  refine lv_istore_n (lv' := [(2, .int (0 : Int32)), (0, .ref (ad 699)), (1, .int a1)]) hx hb dX6_callersOf_1 rfl hl (by decide) rfl (fun ls hl => ?_)
  refine lv_iconst (v := (0 : Int32)) hx hb dX6_callersOf_2 (by decide) ?_
  refine lv_istore_n (lv' := [(3, .int (0 : Int32)), (2, .int (0 : Int32)), (0, .ref (ad 699)), (1, .int a1)]) hx hb dX6_callersOf_3 rfl hl (by decide) rfl (fun ls hl => ?_)
  exact w_X6_callersOf_4_loop hC hR _ _ hf _ _ _ hI (lv_sub hl [2, 3, 1, 0] rfl)
theorem c_X6_callersOf {a1 : Int32} {v : Int32} {S1 : x_S} (hf : f_X6_callersOf n S a1 = some (v, S1)) : x_M l yX6_callersOf cX6_callersOf 5 (some .int) 1 22 E [.ref (ad 699), .int a1] (cw E ad ap S) (cw E ad ap S1) (some (.int v)) :=
  x_entI (by decide) (Nat.le_of_ble_eq_true rfl) (fun p e s m args below meth c A Q ls hC hI hR hl => w_X6_callersOf (r := (v, S1)) hC hR hI hl hf)
-- X6_ofWhole
def f_X6_ofWhole (n : Nat) (S : x_S) (a1 : Int32) (a2 : Nat) (a3 : Int32) : Option (Int32 × x_S) :=
if a3 = (3 : Int32) then
x_b (f_X6_treeOf n S a1 a2) (fun S =>
x_let (g_sc S 408) (fun v2 =>
some (v2, S)))
else
if a3 = (4 : Int32) then
x_b (f_X6_treeOf n S a1 a2) (fun S =>
x_let (g_sc S 410) (fun v4 =>
some (v4, S)))
else
if a3 = (5 : Int32) then
x_b (f_X0_explore n S a2) (fun S =>
x_g (a2 < g_np S) (x_let (g_ps S 4 a2) (fun v6 =>
x_let (g_sc S 3) (fun v7 =>
some ((v6 - v7), S)))))
else
if a3 = (6 : Int32) then
x_b (f_X6_treeOf n S a1 a2) (fun S =>
x_let (g_sc S 411) (fun v9 =>
some (v9, S)))
else
x_b2 (f_X6_callersOf n S a1) (fun v11 S =>
some (v11, S))
set_option maxHeartbeats 4000000 in
set_option maxRecDepth 100000 in
theorem w_X6_ofWhole {r : Int32 × x_S} {a1 : Int32} {a2 : Nat} {a3 : Int32} (hC : x_C p s m args meth c cX6_ofWhole 4 RX6 E A) (hR : x_Ri p l e { frames := 7, cells := 0, slots := 0, locals := 161 } s m args below meth c cX6_ofWhole E A Q (cw E ad ap r.2) r.1) (hI : x_I E A s.heap (cw E ad ap S) H locs) (hl : lv_has ls 4 [(0, .ref (ad 699)), (1, .int a1), (2, .ref (ap a2 0)), (3, .int a3)]) (hf : f_X6_ofWhole n S a1 a2 a3 = some r) : W p l e { frames := 7, cells := 0, slots := 0, locals := 161 } s m args below meth c H locs 0 0 Q (F0 m 0 ls []) := by
  obtain ⟨hx, hb, hml, hown, hts, hK, hN, hA⟩ := id hC
  unfold f_X6_ofWhole at hf
  refine lv_iload_n hx hb dX6_ofWhole_0 rfl (lv_at hl 3 rfl) ?_
  refine x_case hf (fun q13 hf => ?_) (fun q13 hf => ?_)
  · refine lv_tableIn (tgt := 32) hx hb dX6_ofWhole_1 (by rw [q13]; decide) (by rw [q13]; decide) (by rw [q13]; rfl) (by decide) ?_
    refine lv_aload_n hx hb dX6_ofWhole_32 rfl (lv_at hl 0 rfl) ?_
    refine lv_iload_n hx hb dX6_ofWhole_33 rfl (lv_at hl 1 rfl) ?_
    refine lv_aload_n hx hb dX6_ofWhole_34 rfl (lv_at hl 2 rfl) ?_
    obtain ⟨S, hc1, hf⟩ := x_b_eq hf
    refine x_callV hC hI (c_X6_treeOf hc1) 0 6 rfl rfl kv_X6_103 rfl ⟨Nat.le_of_ble_eq_true rfl, Nat.le_of_ble_eq_true rfl⟩ ⟨Nat.le_refl _, Nat.le_refl _⟩ hl.1 rfl (Nat.le_of_ble_eq_true rfl) dX6_ofWhole_35 (fun H locs hI => ?_)
    refine gX4_8 hC hI hf lkf_X6_199 dX6_ofWhole_38 (fun v2 hf => ?_)
    obtain rfl := Option.some.inj hf
    exact hR _ _ _ _ hI dX6_ofWhole_41
  · refine x_case hf (fun q14 hf => ?_) (fun q14 hf => ?_)
    · refine lv_tableIn (tgt := 42) hx hb dX6_ofWhole_1 (by rw [q14]; decide) (by rw [q14]; decide) (by rw [q14]; rfl) (by decide) ?_
      refine lv_aload_n hx hb dX6_ofWhole_42 rfl (lv_at hl 0 rfl) ?_
      refine lv_iload_n hx hb dX6_ofWhole_43 rfl (lv_at hl 1 rfl) ?_
      refine lv_aload_n hx hb dX6_ofWhole_44 rfl (lv_at hl 2 rfl) ?_
      obtain ⟨S, hc3, hf⟩ := x_b_eq hf
      refine x_callV hC hI (c_X6_treeOf hc3) 0 6 rfl rfl kv_X6_103 rfl ⟨Nat.le_of_ble_eq_true rfl, Nat.le_of_ble_eq_true rfl⟩ ⟨Nat.le_refl _, Nat.le_refl _⟩ hl.1 rfl (Nat.le_of_ble_eq_true rfl) dX6_ofWhole_45 (fun H locs hI => ?_)
      refine gX4_10 hC hI hf lkf_X6_202 dX6_ofWhole_48 (fun v4 hf => ?_)
      obtain rfl := Option.some.inj hf
      exact hR _ _ _ _ hI dX6_ofWhole_51
    · refine x_case hf (fun q15 hf => ?_) (fun q15 hf => ?_)
      · refine lv_tableIn (tgt := 52) hx hb dX6_ofWhole_1 (by rw [q15]; decide) (by rw [q15]; decide) (by rw [q15]; rfl) (by decide) ?_
        refine lv_aload_n hx hb dX6_ofWhole_52 rfl (lv_at hl 0 rfl) ?_
        refine gX6_4 hC hI lkf_X6_32 dX6_ofWhole_53 ?_
        refine lv_aload_n hx hb dX6_ofWhole_56 rfl (lv_at hl 2 rfl) ?_
        obtain ⟨S, hc5, hf⟩ := x_b_eq hf
        refine x_callV hC hI (c_X0_explore hc5) 1 0 rfl rfl kv_X6_193 rfl ⟨Nat.le_of_ble_eq_true rfl, Nat.le_of_ble_eq_true rfl⟩ ⟨Nat.le_refl _, Nat.le_refl _⟩ hl.1 rfl (Nat.le_of_ble_eq_true rfl) dX6_ofWhole_57 (fun H locs hI => ?_)
        refine lv_aload_n hx hb dX6_ofWhole_60 rfl (lv_at hl 2 rfl) ?_
        refine gX2_4 hC hI hf lkf_X6_76 dX6_ofWhole_61 (fun v6 hf => ?_)
        refine lv_aload_n hx hb dX6_ofWhole_64 rfl (lv_at hl 0 rfl) ?_
        refine gX6_4 hC hI lkf_X6_32 dX6_ofWhole_65 ?_
        refine gX0_3 hC hI hf lkf_X6_205 dX6_ofWhole_68 (fun v7 hf => ?_)
        refine lv_isub hx hb dX6_ofWhole_71 ?_
        obtain rfl := Option.some.inj hf
        exact hR _ _ _ _ hI dX6_ofWhole_72
      · refine x_case hf (fun q16 hf => ?_) (fun q16 hf => ?_)
        · refine lv_tableIn (tgt := 73) hx hb dX6_ofWhole_1 (by rw [q16]; decide) (by rw [q16]; decide) (by rw [q16]; rfl) (by decide) ?_
          refine lv_aload_n hx hb dX6_ofWhole_73 rfl (lv_at hl 0 rfl) ?_
          refine lv_iload_n hx hb dX6_ofWhole_74 rfl (lv_at hl 1 rfl) ?_
          refine lv_aload_n hx hb dX6_ofWhole_75 rfl (lv_at hl 2 rfl) ?_
          obtain ⟨S, hc8, hf⟩ := x_b_eq hf
          refine x_callV hC hI (c_X6_treeOf hc8) 0 6 rfl rfl kv_X6_103 rfl ⟨Nat.le_of_ble_eq_true rfl, Nat.le_of_ble_eq_true rfl⟩ ⟨Nat.le_refl _, Nat.le_refl _⟩ hl.1 rfl (Nat.le_of_ble_eq_true rfl) dX6_ofWhole_76 (fun H locs hI => ?_)
          refine gX4_11 hC hI hf lkf_X6_208 dX6_ofWhole_79 (fun v9 hf => ?_)
          obtain rfl := Option.some.inj hf
          exact hR _ _ _ _ hI dX6_ofWhole_82
        · refine lv_tableOut (tgt := 83) hx hb dX6_ofWhole_1 (by have z13 := lv_neT (a := 3) q13 (by decide); have z14 := lv_neT (a := 4) q14 (by decide); have z15 := lv_neT (a := 5) q15 (by decide); have z16 := lv_neT (a := 6) q16 (by decide); omega) (by decide) ?_
          refine lv_aload_n hx hb dX6_ofWhole_83 rfl (lv_at hl 0 rfl) ?_
          refine lv_iload_n hx hb dX6_ofWhole_84 rfl (lv_at hl 1 rfl) ?_
          obtain ⟨v11, S, hc10, hf⟩ := x_b2_eq hf
          refine x_callV hC hI (c_X6_callersOf hc10) 0 6 rfl rfl kv_X6_211 rfl ⟨Nat.le_of_ble_eq_true rfl, Nat.le_of_ble_eq_true rfl⟩ ⟨Nat.le_refl _, Nat.le_refl _⟩ hl.1 rfl (Nat.le_of_ble_eq_true rfl) dX6_ofWhole_85 (fun H locs hI => ?_)
          obtain rfl := Option.some.inj hf
          exact hR _ _ _ _ hI dX6_ofWhole_88
theorem c_X6_ofWhole {a1 : Int32} {a2 : Nat} {a3 : Int32} {v : Int32} {S1 : x_S} (hf : f_X6_ofWhole n S a1 a2 a3 = some (v, S1)) : x_M l yX6_ofWhole cX6_ofWhole 4 (some .int) 7 161 E [.ref (ad 699), .int a1, .ref (ap a2 0), .int a3] (cw E ad ap S) (cw E ad ap S1) (some (.int v)) :=
  x_entI (by decide) (Nat.le_of_ble_eq_true rfl) (fun p e s m args below meth c A Q ls hC hI hR hl => w_X6_ofWhole (r := (v, S1)) hC hR hI hl hf)
-- X6_of
def f_X6_of (n : Nat) (S : x_S) (a1 : Int32) (a2 : Int32) : Option (Int32 × x_S) :=
x_b2 (f_X6_find n S a1) (fun o2 S => x_o o2 (
some ((-2 : Int32), S)) (fun i3 =>
if a2 < 0 then
some ((-2 : Int32), S)
else
if a2 ≤ (7 : Int32) then
if a2 = (0 : Int32) then
x_g (i3 < g_np S) (x_let (g_ps S 4 i3) (fun v4 =>
some (v4, S)))
else
if a2 = (1 : Int32) then
x_g (i3 < g_np S) (x_let (g_ps S 5 i3) (fun v5 =>
if v5 = 0 then
some ((0 : Int32), S)
else
some ((1 : Int32), S)))
else
if a2 = (2 : Int32) then
x_b2 (f_X6_leastAlike n S a1 i3) (fun v7 S =>
some (v7, S))
else
x_g (i3 < g_np S) (x_let (g_ps S 5 i3) (fun v8 =>
if v8 = 0 then
some ((-1 : Int32), S)
else
x_b2 (f_X6_ofWhole n S a1 i3 a2) (fun v10 S =>
some (v10, S))))
else
some ((-2 : Int32), S)))
set_option maxHeartbeats 4000000 in
set_option maxRecDepth 100000 in
theorem w_X6_of {r : Int32 × x_S} {a1 : Int32} {a2 : Int32} (hC : x_C p s m args meth c cX6_of 4 RX6 E A) (hR : x_Ri p l e { frames := 8, cells := 0, slots := 0, locals := 184 } s m args below meth c cX6_of E A Q (cw E ad ap r.2) r.1) (hI : x_I E A s.heap (cw E ad ap S) H locs) (hl : lv_has ls 4 [(0, .ref (ad 699)), (1, .int a1), (2, .int a2)]) (hf : f_X6_of n S a1 a2 = some r) : W p l e { frames := 8, cells := 0, slots := 0, locals := 184 } s m args below meth c H locs 0 0 Q (F0 m 0 ls []) := by
  obtain ⟨hx, hb, hml, hown, hts, hK, hN, hA⟩ := id hC
  unfold f_X6_of at hf
  refine lv_aload_n hx hb dX6_of_0 rfl (lv_at hl 0 rfl) ?_
  refine lv_iload_n hx hb dX6_of_1 rfl (lv_at hl 1 rfl) ?_
  obtain ⟨o2, S, hc1, hf⟩ := x_b2_eq hf
  refine x_callV hC hI (c_X6_find hc1) 0 6 rfl rfl kv_X6_68 rfl ⟨Nat.le_of_ble_eq_true rfl, Nat.le_of_ble_eq_true rfl⟩ ⟨Nat.le_refl _, Nat.le_refl _⟩ hl.1 rfl (Nat.le_of_ble_eq_true rfl) dX6_of_2 (fun H locs hI => ?_)
  refine x_casesR hf (fun hf => ?_) (fun i3 hf => ?_)
  · refine lv_astore_nN (lv' := [(3, .null), (0, .ref (ad 699)), (1, .int a1), (2, .int a2)]) hx hb dX6_of_5 rfl hl (by decide) rfl (fun ls hl => ?_)
    refine lv_aload_nN hx hb dX6_of_6 rfl (lv_at hl 0 rfl) ?_
    refine lv_ifnullN (tgt := 20) hx hb dX6_of_7 (by decide) ?_
    refine lv_bipush (v := (-2 : Int32)) hx hb dX6_of_20 (by decide) ?_
    obtain rfl := Option.some.inj hf
    exact hR _ _ _ _ hI dX6_of_22
  · refine lv_astore_n (lv' := [(3, .ref (ap i3 0)), (0, .ref (ad 699)), (1, .int a1), (2, .int a2)]) hx hb dX6_of_5 rfl hl (by decide) rfl (fun ls hl => ?_)
    refine lv_aload_n hx hb dX6_of_6 rfl (lv_at hl 0 rfl) ?_
    refine lv_ifnull hx hb dX6_of_7 ?_
    refine lv_iload_n hx hb dX6_of_10 rfl (lv_at hl 3 rfl) ?_
    refine x_lt0 hC 20 hf dX6_of_11 (by decide) (fun hf => ?_) (fun hf => ?_)
    · refine lv_bipush (v := (-2 : Int32)) hx hb dX6_of_20 (by decide) ?_
      obtain rfl := Option.some.inj hf
      exact hR _ _ _ _ hI dX6_of_22
    · refine lv_iload_n hx hb dX6_of_14 rfl (lv_at hl 3 rfl) ?_
      refine lv_bipush (v := (7 : Int32)) hx hb dX6_of_15 (by decide) ?_
      refine x_ile hC 23 hf dX6_of_17 (by decide) (fun hf => ?_) (fun hf => ?_)
      · refine lv_iload_n hx hb dX6_of_23 rfl (lv_at hl 3 rfl) ?_
        refine x_case hf (fun q10 hf => ?_) (fun q10 hf => ?_)
        · refine lv_tableIn (tgt := 52) hx hb dX6_of_24 (by rw [q10]; decide) (by rw [q10]; decide) (by rw [q10]; rfl) (by decide) ?_
          refine lv_aload_n hx hb dX6_of_52 rfl (lv_at hl 0 rfl) ?_
          refine gX2_4 hC hI hf lkf_X6_76 dX6_of_53 (fun v4 hf => ?_)
          obtain rfl := Option.some.inj hf
          exact hR _ _ _ _ hI dX6_of_56
        · refine x_case hf (fun q11 hf => ?_) (fun q11 hf => ?_)
          · refine lv_tableIn (tgt := 57) hx hb dX6_of_24 (by rw [q11]; decide) (by rw [q11]; decide) (by rw [q11]; rfl) (by decide) ?_
            refine lv_aload_n hx hb dX6_of_57 rfl (lv_at hl 0 rfl) ?_
            refine gX2_5 hC hI hf lkf_X6_99 dX6_of_58 (fun v5 hf => ?_)
            refine x_eq0 hC 68 hf dX6_of_61 (by decide) (fun hf => ?_) (fun hf => ?_)
            · refine lv_iconst (v := (0 : Int32)) hx hb dX6_of_68 (by decide) ?_
              obtain rfl := Option.some.inj hf
              exact hR _ _ _ _ hI dX6_of_69
            · refine lv_iconst (v := (1 : Int32)) hx hb dX6_of_64 (by decide) ?_
              refine lv_goto (tgt := 69) hx hb dX6_of_65 (by decide) ?_
              obtain rfl := Option.some.inj hf
              exact hR _ _ _ _ hI dX6_of_69
          · refine x_case hf (fun q12 hf => ?_) (fun q12 hf => ?_)
            · refine lv_tableIn (tgt := 70) hx hb dX6_of_24 (by rw [q12]; decide) (by rw [q12]; decide) (by rw [q12]; rfl) (by decide) ?_
              refine lv_aload_n hx hb dX6_of_70 rfl (lv_at hl 1 rfl) ?_
              refine lv_iload_n hx hb dX6_of_71 rfl (lv_at hl 2 rfl) ?_
              refine lv_aload_n hx hb dX6_of_72 rfl (lv_at hl 0 rfl) ?_
              obtain ⟨v7, S, hc6, hf⟩ := x_b2_eq hf
              refine x_callV hC hI (c_X6_leastAlike hc6) 0 6 rfl rfl kv_X6_116 rfl ⟨Nat.le_of_ble_eq_true rfl, Nat.le_of_ble_eq_true rfl⟩ ⟨Nat.le_refl _, Nat.le_refl _⟩ hl.1 rfl (Nat.le_of_ble_eq_true rfl) dX6_of_73 (fun H locs hI => ?_)
              obtain rfl := Option.some.inj hf
              exact hR _ _ _ _ hI dX6_of_76
            · refine lv_tableOut (tgt := 77) hx hb dX6_of_24 (by have z10 := lv_neT (a := 0) q10 (by decide); have z11 := lv_neT (a := 1) q11 (by decide); have z12 := lv_neT (a := 2) q12 (by decide); omega) (by decide) ?_
              refine lv_aload_n hx hb dX6_of_77 rfl (lv_at hl 0 rfl) ?_
              refine gX2_5 hC hI hf lkf_X6_99 dX6_of_78 (fun v8 hf => ?_)
              refine x_eq0 hC 94 hf dX6_of_81 (by decide) (fun hf => ?_) (fun hf => ?_)
              · refine lv_iconst (v := (-1 : Int32)) hx hb dX6_of_94 (by decide) ?_
                obtain rfl := Option.some.inj hf
                exact hR _ _ _ _ hI dX6_of_95
              · refine lv_aload_n hx hb dX6_of_84 rfl (lv_at hl 1 rfl) ?_
                refine lv_iload_n hx hb dX6_of_85 rfl (lv_at hl 2 rfl) ?_
                refine lv_aload_n hx hb dX6_of_86 rfl (lv_at hl 0 rfl) ?_
                refine lv_iload_n hx hb dX6_of_87 rfl (lv_at hl 3 rfl) ?_
                obtain ⟨v10, S, hc9, hf⟩ := x_b2_eq hf
                refine x_callV hC hI (c_X6_ofWhole hc9) 0 6 rfl rfl kv_X6_120 rfl ⟨Nat.le_of_ble_eq_true rfl, Nat.le_of_ble_eq_true rfl⟩ ⟨Nat.le_refl _, Nat.le_refl _⟩ hl.1 rfl (Nat.le_of_ble_eq_true rfl) dX6_of_88 (fun H locs hI => ?_)
                refine lv_goto (tgt := 95) hx hb dX6_of_91 (by decide) ?_
                obtain rfl := Option.some.inj hf
                exact hR _ _ _ _ hI dX6_of_95
      · refine lv_bipush (v := (-2 : Int32)) hx hb dX6_of_20 (by decide) ?_
        obtain rfl := Option.some.inj hf
        exact hR _ _ _ _ hI dX6_of_22
theorem c_X6_of {a1 : Int32} {a2 : Int32} {v : Int32} {S1 : x_S} (hf : f_X6_of n S a1 a2 = some (v, S1)) : x_M l yX6_of cX6_of 4 (some .int) 8 184 E [.ref (ad 699), .int a1, .int a2] (cw E ad ap S) (cw E ad ap S1) (some (.int v)) :=
  x_entI (by decide) (Nat.le_of_ble_eq_true rfl) (fun p e s m args below meth c A Q ls hC hI hR hl => w_X6_of (r := (v, S1)) hC hR hI hl hf)
-- X4_has
def f_X4_has (n : Nat) (S : x_S) (a1 : Int32) : Option (Int32 × x_S) :=
if a1 < 0 then
x_g ((0 : Int32) = 0 ∨ (0 : Int32) = 1) (some ((0 : Int32), S))
else
x_let (g_sc S 408) (fun v1 =>
if v1 ≤ a1 then
x_g ((0 : Int32) = 0 ∨ (0 : Int32) = 1) (some ((0 : Int32), S))
else
x_g ((1 : Int32) = 0 ∨ (1 : Int32) = 1) (some ((1 : Int32), S)))
set_option maxHeartbeats 4000000 in
set_option maxRecDepth 100000 in
theorem w_X4_has {r : Int32 × x_S} {a1 : Int32} (hC : x_C p s m args meth c cX4_has 2 RX4 E A) (hR : x_Rz p l e { frames := 0, cells := 0, slots := 0, locals := 0 } s m args below meth c cX4_has E A Q (cw E ad ap r.2) r.1) (hI : x_I E A s.heap (cw E ad ap S) H locs) (hl : lv_has ls 2 [(0, .ref (ad 499)), (1, .int a1)]) (hf : f_X4_has n S a1 = some r) : W p l e { frames := 0, cells := 0, slots := 0, locals := 0 } s m args below meth c H locs 0 0 Q (F0 m 0 ls []) := by
  obtain ⟨hx, hb, hml, hown, hts, hK, hN, hA⟩ := id hC
  unfold f_X4_has at hf
  refine lv_iload_n hx hb dX4_has_0 rfl (lv_at hl 1 rfl) ?_
  refine x_lt0 hC 16 hf dX4_has_1 (by decide) (fun hf => ?_) (fun hf => ?_)
  · refine lv_iconst (v := (0 : Int32)) hx hb dX4_has_16 (by decide) ?_
    obtain ⟨h9, hf⟩ := x_g_eq hf
    obtain rfl := Option.some.inj hf
    exact hR _ _ _ _ h9 hI dX4_has_17
  · refine lv_iload_n hx hb dX4_has_4 rfl (lv_at hl 1 rfl) ?_
    refine lv_aload_n hx hb dX4_has_5 rfl (lv_at hl 0 rfl) ?_
    refine gX4_8 hC hI hf lkf_X4_36 dX4_has_6 (fun v1 hf => ?_)
    refine x_ige hC 16 hf dX4_has_9 (by decide) (fun hf => ?_) (fun hf => ?_)
    · refine lv_iconst (v := (0 : Int32)) hx hb dX4_has_16 (by decide) ?_
      obtain ⟨h9, hf⟩ := x_g_eq hf
      obtain rfl := Option.some.inj hf
      exact hR _ _ _ _ h9 hI dX4_has_17
    · refine lv_iconst (v := (1 : Int32)) hx hb dX4_has_12 (by decide) ?_
      refine lv_goto (tgt := 17) hx hb dX4_has_13 (by decide) ?_
      obtain ⟨h9, hf⟩ := x_g_eq hf
      obtain rfl := Option.some.inj hf
      exact hR _ _ _ _ h9 hI dX4_has_17
theorem c_X4_has {a1 : Int32} {v : Int32} {S1 : x_S} (hf : f_X4_has n S a1 = some (v, S1)) : x_M l yX4_has cX4_has 2 (some .boolean) 0 0 E [.ref (ad 499), .int a1] (cw E ad ap S) (cw E ad ap S1) (some (.int v)) :=
  x_entZ (by decide) (Nat.le_of_ble_eq_true rfl) (fun p e s m args below meth c A Q ls hC hI hR hl => w_X4_has (r := (v, S1)) hC hR hI hl hf)
-- X4_tell
def f_X4_tell (n : Nat) (S : x_S) (a1 : Int32) (a2 : Int32) : Option (Int32 × x_S) :=
if a2 = (0 : Int32) then
x_g (¬ (a1 < 0 ∨ 60 ≤ (a1).toNatClampNeg)) (x_let (g_ar S 400 (a1).toNatClampNeg) (fun v1 =>
some (v1, S)))
else
if a2 = (1 : Int32) then
x_g (¬ (a1 < 0 ∨ 60 ≤ (a1).toNatClampNeg)) (x_let (g_ar S 401 (a1).toNatClampNeg) (fun v2 =>
some (v2, S)))
else
if a2 = (2 : Int32) then
x_g (¬ (a1 < 0 ∨ 60 ≤ (a1).toNatClampNeg)) (x_let (g_ar S 402 (a1).toNatClampNeg) (fun v3 =>
some (v3, S)))
else
if a2 = (3 : Int32) then
x_g (¬ (a1 < 0 ∨ 60 ≤ (a1).toNatClampNeg)) (x_let (g_ar S 403 (a1).toNatClampNeg) (fun v4 =>
some (v4, S)))
else
if a2 = (4 : Int32) then
x_g (¬ (a1 < 0 ∨ 60 ≤ (a1).toNatClampNeg)) (x_let (g_ar S 404 (a1).toNatClampNeg) (fun v5 =>
some (v5, S)))
else
x_g (¬ (a1 < 0 ∨ 60 ≤ (a1).toNatClampNeg)) (x_let (g_ar S 405 (a1).toNatClampNeg) (fun v6 =>
some (v6, S)))
set_option maxHeartbeats 4000000 in
set_option maxRecDepth 100000 in
theorem w_X4_tell {r : Int32 × x_S} {a1 : Int32} {a2 : Int32} (hC : x_C p s m args meth c cX4_tell 3 RX4 E A) (hR : x_Ri p l e { frames := 0, cells := 0, slots := 0, locals := 0 } s m args below meth c cX4_tell E A Q (cw E ad ap r.2) r.1) (hI : x_I E A s.heap (cw E ad ap S) H locs) (hl : lv_has ls 3 [(0, .ref (ad 499)), (1, .int a1), (2, .int a2)]) (hf : f_X4_tell n S a1 a2 = some r) : W p l e { frames := 0, cells := 0, slots := 0, locals := 0 } s m args below meth c H locs 0 0 Q (F0 m 0 ls []) := by
  obtain ⟨hx, hb, hml, hown, hts, hK, hN, hA⟩ := id hC
  unfold f_X4_tell at hf
  refine lv_iload_n hx hb dX4_tell_0 rfl (lv_at hl 2 rfl) ?_
  refine x_case hf (fun q10 hf => ?_) (fun q10 hf => ?_)
  · refine lv_tableIn (tgt := 36) hx hb dX4_tell_1 (by rw [q10]; decide) (by rw [q10]; decide) (by rw [q10]; rfl) (by decide) ?_
    refine lv_aload_n hx hb dX4_tell_36 rfl (lv_at hl 0 rfl) ?_
    refine gX4_0 hC hI lkf_X4_9 dX4_tell_37 ?_
    refine lv_iload_n hx hb dX4_tell_40 rfl (lv_at hl 1 rfl) ?_
    refine aX4_0 hC hI hf dX4_tell_41 (fun v1 hf => ?_)
    obtain rfl := Option.some.inj hf
    exact hR _ _ _ _ hI dX4_tell_42
  · refine x_case hf (fun q11 hf => ?_) (fun q11 hf => ?_)
    · refine lv_tableIn (tgt := 43) hx hb dX4_tell_1 (by rw [q11]; decide) (by rw [q11]; decide) (by rw [q11]; rfl) (by decide) ?_
      refine lv_aload_n hx hb dX4_tell_43 rfl (lv_at hl 0 rfl) ?_
      refine gX4_1 hC hI lkf_X4_15 dX4_tell_44 ?_
      refine lv_iload_n hx hb dX4_tell_47 rfl (lv_at hl 1 rfl) ?_
      refine aX4_1 hC hI hf dX4_tell_48 (fun v2 hf => ?_)
      obtain rfl := Option.some.inj hf
      exact hR _ _ _ _ hI dX4_tell_49
    · refine x_case hf (fun q12 hf => ?_) (fun q12 hf => ?_)
      · refine lv_tableIn (tgt := 50) hx hb dX4_tell_1 (by rw [q12]; decide) (by rw [q12]; decide) (by rw [q12]; rfl) (by decide) ?_
        refine lv_aload_n hx hb dX4_tell_50 rfl (lv_at hl 0 rfl) ?_
        refine gX4_2 hC hI lkf_X4_18 dX4_tell_51 ?_
        refine lv_iload_n hx hb dX4_tell_54 rfl (lv_at hl 1 rfl) ?_
        refine aX4_2 hC hI hf dX4_tell_55 (fun v3 hf => ?_)
        obtain rfl := Option.some.inj hf
        exact hR _ _ _ _ hI dX4_tell_56
      · refine x_case hf (fun q13 hf => ?_) (fun q13 hf => ?_)
        · refine lv_tableIn (tgt := 57) hx hb dX4_tell_1 (by rw [q13]; decide) (by rw [q13]; decide) (by rw [q13]; rfl) (by decide) ?_
          refine lv_aload_n hx hb dX4_tell_57 rfl (lv_at hl 0 rfl) ?_
          refine gX4_3 hC hI lkf_X4_21 dX4_tell_58 ?_
          refine lv_iload_n hx hb dX4_tell_61 rfl (lv_at hl 1 rfl) ?_
          refine aX4_3 hC hI hf dX4_tell_62 (fun v4 hf => ?_)
          obtain rfl := Option.some.inj hf
          exact hR _ _ _ _ hI dX4_tell_63
        · refine x_case hf (fun q14 hf => ?_) (fun q14 hf => ?_)
          · refine lv_tableIn (tgt := 64) hx hb dX4_tell_1 (by rw [q14]; decide) (by rw [q14]; decide) (by rw [q14]; rfl) (by decide) ?_
            refine lv_aload_n hx hb dX4_tell_64 rfl (lv_at hl 0 rfl) ?_
            refine gX4_4 hC hI lkf_X4_24 dX4_tell_65 ?_
            refine lv_iload_n hx hb dX4_tell_68 rfl (lv_at hl 1 rfl) ?_
            refine aX4_4 hC hI hf dX4_tell_69 (fun v5 hf => ?_)
            obtain rfl := Option.some.inj hf
            exact hR _ _ _ _ hI dX4_tell_70
          · refine lv_tableOut (tgt := 71) hx hb dX4_tell_1 (by have z10 := lv_neT (a := 0) q10 (by decide); have z11 := lv_neT (a := 1) q11 (by decide); have z12 := lv_neT (a := 2) q12 (by decide); have z13 := lv_neT (a := 3) q13 (by decide); have z14 := lv_neT (a := 4) q14 (by decide); omega) (by decide) ?_
            refine lv_aload_n hx hb dX4_tell_71 rfl (lv_at hl 0 rfl) ?_
            refine gX4_5 hC hI lkf_X4_27 dX4_tell_72 ?_
            refine lv_iload_n hx hb dX4_tell_75 rfl (lv_at hl 1 rfl) ?_
            refine aX4_5 hC hI hf dX4_tell_76 (fun v6 hf => ?_)
            obtain rfl := Option.some.inj hf
            exact hR _ _ _ _ hI dX4_tell_77
theorem c_X4_tell {a1 : Int32} {a2 : Int32} {v : Int32} {S1 : x_S} (hf : f_X4_tell n S a1 a2 = some (v, S1)) : x_M l yX4_tell cX4_tell 3 (some .int) 0 0 E [.ref (ad 499), .int a1, .int a2] (cw E ad ap S) (cw E ad ap S1) (some (.int v)) :=
  x_entI (by decide) (Nat.le_of_ble_eq_true rfl) (fun p e s m args below meth c A Q ls hC hI hR hl => w_X4_tell (r := (v, S1)) hC hR hI hl hf)
-- X6_statement
def f_X6_statement (n : Nat) (S : x_S) (a1 : Int32) (a2 : Int32) (a3 : Int32) : Option (Int32 × x_S) :=
x_b2 (f_X6_find n S a1) (fun o2 S => x_o o2 (
some ((-2 : Int32), S)) (fun i3 =>
if a3 < 0 then
some ((-2 : Int32), S)
else
if a3 ≤ (5 : Int32) then
x_g (i3 < g_np S) (x_let (g_ps S 5 i3) (fun v4 =>
if v4 = 0 then
some ((-3 : Int32), S)
else
x_b (f_X6_treeOf n S a1 i3) (fun S =>
x_b2 (f_X4_has n S a2) (fun v7 S =>
if v7 = 0 then
some ((-2 : Int32), S)
else
x_b2 (f_X4_tell n S a2 a3) (fun v9 S =>
some (v9, S))))))
else
some ((-2 : Int32), S)))
set_option maxHeartbeats 4000000 in
set_option maxRecDepth 100000 in
theorem w_X6_statement {r : Int32 × x_S} {a1 : Int32} {a2 : Int32} {a3 : Int32} (hC : x_C p s m args meth c cX6_statement 6 RX6 E A) (hR : x_Ri p l e { frames := 7, cells := 0, slots := 0, locals := 161 } s m args below meth c cX6_statement E A Q (cw E ad ap r.2) r.1) (hI : x_I E A s.heap (cw E ad ap S) H locs) (hl : lv_has ls 6 [(0, .ref (ad 699)), (1, .int a1), (2, .int a2), (3, .int a3)]) (hf : f_X6_statement n S a1 a2 a3 = some r) : W p l e { frames := 7, cells := 0, slots := 0, locals := 161 } s m args below meth c H locs 0 0 Q (F0 m 0 ls []) := by
  obtain ⟨hx, hb, hml, hown, hts, hK, hN, hA⟩ := id hC
  unfold f_X6_statement at hf
  refine lv_aload_n hx hb dX6_statement_0 rfl (lv_at hl 0 rfl) ?_
  refine lv_iload_n hx hb dX6_statement_1 rfl (lv_at hl 1 rfl) ?_
  obtain ⟨o2, S, hc1, hf⟩ := x_b2_eq hf
  refine x_callV hC hI (c_X6_find hc1) 0 6 rfl rfl kv_X6_68 rfl ⟨Nat.le_of_ble_eq_true rfl, Nat.le_of_ble_eq_true rfl⟩ ⟨Nat.le_refl _, Nat.le_refl _⟩ hl.1 rfl (Nat.le_of_ble_eq_true rfl) dX6_statement_2 (fun H locs hI => ?_)
  refine x_casesR hf (fun hf => ?_) (fun i3 hf => ?_)
  · refine lv_astoreN (lv' := [(4, .null), (0, .ref (ad 699)), (1, .int a1), (2, .int a2), (3, .int a3)]) hx hb dX6_statement_5 hl (by decide) rfl (fun ls hl => ?_)
    refine lv_aloadN hx hb dX6_statement_7 (lv_at hl 0 rfl) ?_
    refine lv_ifnullN (tgt := 21) hx hb dX6_statement_9 (by decide) ?_
    refine lv_bipush (v := (-2 : Int32)) hx hb dX6_statement_21 (by decide) ?_
    obtain rfl := Option.some.inj hf
    exact hR _ _ _ _ hI dX6_statement_23
  · refine lv_astore (lv' := [(4, .ref (ap i3 0)), (0, .ref (ad 699)), (1, .int a1), (2, .int a2), (3, .int a3)]) hx hb dX6_statement_5 hl (by decide) rfl (fun ls hl => ?_)
    refine lv_aload hx hb dX6_statement_7 (lv_at hl 0 rfl) ?_
    refine lv_ifnull hx hb dX6_statement_9 ?_
    refine lv_iload_n hx hb dX6_statement_12 rfl (lv_at hl 4 rfl) ?_
    refine x_lt0 hC 21 hf dX6_statement_13 (by decide) (fun hf => ?_) (fun hf => ?_)
    · refine lv_bipush (v := (-2 : Int32)) hx hb dX6_statement_21 (by decide) ?_
      obtain rfl := Option.some.inj hf
      exact hR _ _ _ _ hI dX6_statement_23
    · refine lv_iload_n hx hb dX6_statement_16 rfl (lv_at hl 4 rfl) ?_
      refine lv_iconst (v := (5 : Int32)) hx hb dX6_statement_17 (by decide) ?_
      refine x_ile hC 24 hf dX6_statement_18 (by decide) (fun hf => ?_) (fun hf => ?_)
      · refine lv_aload hx hb dX6_statement_24 (lv_at hl 0 rfl) ?_
        refine gX2_5 hC hI hf lkf_X6_99 dX6_statement_26 (fun v4 hf => ?_)
        refine x_ne0 hC 35 hf dX6_statement_29 (by decide) (fun hf => ?_) (fun hf => ?_)
        · refine lv_aload_n hx hb dX6_statement_35 rfl (lv_at hl 1 rfl) ?_
          refine lv_iload_n hx hb dX6_statement_36 rfl (lv_at hl 2 rfl) ?_
          refine lv_aload hx hb dX6_statement_37 (lv_at hl 0 rfl) ?_
          obtain ⟨S, hc5, hf⟩ := x_b_eq hf
          refine x_callV hC hI (c_X6_treeOf hc5) 0 6 rfl rfl kv_X6_103 rfl ⟨Nat.le_of_ble_eq_true rfl, Nat.le_of_ble_eq_true rfl⟩ ⟨Nat.le_refl _, Nat.le_refl _⟩ hl.1 rfl (Nat.le_of_ble_eq_true rfl) dX6_statement_39 (fun H locs hI => ?_)
          refine lv_astore (lv' := [(5, .ref (ad 499)), (4, .ref (ap i3 0)), (0, .ref (ad 699)), (1, .int a1), (2, .int a2), (3, .int a3)]) hx hb dX6_statement_42 hl (by decide) rfl (fun ls hl => ?_)
          refine lv_aload hx hb dX6_statement_44 (lv_at hl 0 rfl) ?_
          refine lv_iload_n hx hb dX6_statement_46 rfl (lv_at hl 4 rfl) ?_
          obtain ⟨v7, S, hc6, hf⟩ := x_b2_eq hf
          refine x_callV hC hI (c_X4_has hc6) 4 4 rfl rfl kv_X6_124 rfl ⟨Nat.le_of_ble_eq_true rfl, Nat.le_of_ble_eq_true rfl⟩ ⟨Nat.le_refl _, Nat.le_refl _⟩ hl.1 rfl (Nat.le_of_ble_eq_true rfl) dX6_statement_47 (fun H locs hI => ?_)
          refine x_eq0 hC 63 hf dX6_statement_50 (by decide) (fun hf => ?_) (fun hf => ?_)
          · refine lv_bipush (v := (-2 : Int32)) hx hb dX6_statement_63 (by decide) ?_
            obtain rfl := Option.some.inj hf
            exact hR _ _ _ _ hI dX6_statement_65
          · refine lv_aload hx hb dX6_statement_53 (lv_at hl 0 rfl) ?_
            refine lv_iload_n hx hb dX6_statement_55 rfl (lv_at hl 4 rfl) ?_
            refine lv_iload_n hx hb dX6_statement_56 rfl (lv_at hl 5 rfl) ?_
            obtain ⟨v9, S, hc8, hf⟩ := x_b2_eq hf
            refine x_callV hC hI (c_X4_tell hc8) 4 4 rfl rfl kv_X6_125 rfl ⟨Nat.le_of_ble_eq_true rfl, Nat.le_of_ble_eq_true rfl⟩ ⟨Nat.le_refl _, Nat.le_refl _⟩ hl.1 rfl (Nat.le_of_ble_eq_true rfl) dX6_statement_57 (fun H locs hI => ?_)
            refine lv_goto (tgt := 65) hx hb dX6_statement_60 (by decide) ?_
            obtain rfl := Option.some.inj hf
            exact hR _ _ _ _ hI dX6_statement_65
        · refine lv_bipush (v := (-3 : Int32)) hx hb dX6_statement_32 (by decide) ?_
          obtain rfl := Option.some.inj hf
          exact hR _ _ _ _ hI dX6_statement_34
      · refine lv_bipush (v := (-2 : Int32)) hx hb dX6_statement_21 (by decide) ?_
        obtain rfl := Option.some.inj hf
        exact hR _ _ _ _ hI dX6_statement_23
theorem c_X6_statement {a1 : Int32} {a2 : Int32} {a3 : Int32} {v : Int32} {S1 : x_S} (hf : f_X6_statement n S a1 a2 a3 = some (v, S1)) : x_M l yX6_statement cX6_statement 6 (some .int) 7 161 E [.ref (ad 699), .int a1, .int a2, .int a3] (cw E ad ap S) (cw E ad ap S1) (some (.int v)) :=
  x_entI (by decide) (Nat.le_of_ble_eq_true rfl) (fun p e s m args below meth c A Q ls hC hI hR hl => w_X6_statement (r := (v, S1)) hC hR hI hl hf)
end
