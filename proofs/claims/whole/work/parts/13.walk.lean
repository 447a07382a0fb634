section
variable {p : Program} {l : Launch} {e : Env} {s : State} {m : MethodId} {args : Array Value} {below : List Frame} {meth : Method} {c : Code} {H : Heap} {locs : List Loc} {Q : State → Prop}
variable {E : x_E} {A : Nat → Prop} {ls : Array Slot} {ad : Nat → Nat} {ap : Nat → Nat → Nat} {S : x_S} {w : va_W} {n : Nat}
-- X0_explore
def f_X0_explore_39 (n : Nat) (rec39 : x_S × Nat × Int32 → Option (x_S)) (S : x_S) (a1 : Nat) (a2 : Int32) : Option (x_S) :=
if (60 : Int32) ≤ a2 then
some S
else
x_let (g_sc S 2) (fun v2 =>
if v2 ≤ 0 then
some S
else
x_let (g_sc S 2) (fun v3 =>
x_let (s_sc S 2 (v3 - (1 : Int32))) (fun S =>
x_let (g_sc S 2) (fun v4 =>
x_g (¬ (v4 < 0 ∨ 60 ≤ (v4).toNatClampNeg)) (x_let (g_ar S 1 (v4).toNatClampNeg) (fun v5 =>
x_b (f_X0_follow n S a1 v5) (fun S =>
rec39 (S, a1, (a2 + (1 : Int32))))))))))
set_option maxHeartbeats 4000000 in
set_option maxRecDepth 100000 in
theorem w_X0_explore_39 {r : x_S} {a1 : Nat} {a2 : Int32} {rec39 : x_S × Nat × Int32 → Option (x_S)} (hC : x_C p s m args meth c cX0_explore 3 RX0 E A) (hR : x_Rv p l e { frames := 3, cells := 0, slots := 0, locals := 66 } s m args below meth c cX0_explore E A Q (cw E ad ap r)) (hrec39 : ∀ z : x_S × Nat × Int32, rec39 z = some r → ∀ (H : Heap) (locs : List Loc) (ls : Array Slot), x_I E A s.heap (cw E ad ap z.1) H locs → lv_has ls 3 [(0, .ref (ad 99)), (1, .ref (ap z.2.1 0)), (2, .int z.2.2)] → W p l e { frames := 3, cells := 0, slots := 0, locals := 66 } s m args below meth c H locs 0 0 Q (F0 m 39 ls [])) (hI : x_I E A s.heap (cw E ad ap S) H locs) (hl : lv_has ls 3 [(0, .ref (ad 99)), (1, .ref (ap a1 0)), (2, .int a2)]) (hf : f_X0_explore_39 n rec39 S a1 a2 = some r) : W p l e { frames := 3, cells := 0, slots := 0, locals := 66 } s m args below meth c H locs 0 0 Q (F0 m 39 ls []) := by
  obtain ⟨hx, hb, hml, hown, hts, hK, hN, hA⟩ := id hC
  unfold f_X0_explore_39 at hf
  refine lv_iload_n hx hb dX0_explore_39 rfl (lv_at hl 2 rfl) ?_
  refine lv_bipush (v := (60 : Int32)) hx hb dX0_explore_40 (by decide) ?_
  refine x_ige hC 82 hf dX0_explore_42 (by decide) (fun hf => ?_) (fun hf => ?_)
  · obtain rfl := Option.some.inj hf
    exact hR _ _ _ _ hI dX0_explore_82
  · refine lv_aload_n hx hb dX0_explore_45 rfl (lv_at hl 0 rfl) ?_
    refine gX0_2 hC hI hf lkf_X0_18 dX0_explore_46 (fun v2 hf => ?_)
    refine x_le0 hC 82 hf dX0_explore_49 (by decide) (fun hf => ?_) (fun hf => ?_)
    · obtain rfl := Option.some.inj hf
      exact hR _ _ _ _ hI dX0_explore_82
    · refine lv_aload_n hx hb dX0_explore_52 rfl (lv_at hl 0 rfl) ?_
      refine lv_dup hx hb dX0_explore_53 rfl ?_
      refine gX0_2 hC hI hf lkf_X0_18 dX0_explore_54 (fun v3 hf => ?_)
      refine lv_iconst (v := (1 : Int32)) hx hb dX0_explore_57 (by decide) ?_
      refine lv_isub hx hb dX0_explore_58 ?_
      refine pX0_2 hC hI hf lkf_X0_18 dX0_explore_59 (fun S H locs hI hf => ?_)
      refine lv_aload_n hx hb dX0_explore_62 rfl (lv_at hl 0 rfl) ?_
      refine lv_aload_n hx hb dX0_explore_63 rfl (lv_at hl 1 rfl) ?_
      refine lv_aload_n hx hb dX0_explore_64 rfl (lv_at hl 0 rfl) ?_
      refine gX0_1 hC hI lkf_X0_15 dX0_explore_65 ?_
      refine lv_aload_n hx hb dX0_explore_68 rfl (lv_at hl 0 rfl) ?_
      refine gX0_2 hC hI hf lkf_X0_18 dX0_explore_69 (fun v4 hf => ?_)
      refine aX0_1 hC hI hf dX0_explore_72 (fun v5 hf => ?_)
      obtain ⟨S, hc6, hf⟩ := x_b_eq hf
      refine x_callV hC hI (c_X0_follow hc6) 1 0 rfl rfl kv_X0_29 rfl ⟨Nat.le_of_ble_eq_true rfl, Nat.le_of_ble_eq_true rfl⟩ ⟨Nat.le_refl _, Nat.le_refl _⟩ hl.1 rfl (Nat.le_of_ble_eq_true rfl) dX0_explore_73 (fun H locs hI => ?_)
      refine lv_iinc (v := (a2 + (1 : Int32))) (lv' := [(2, .int (a2 + (1 : Int32))), (0, .ref (ad 99)), (1, .ref (ap a1 0))]) hx hb dX0_explore_76 hl (k := 2) rfl rfl (by decide) rfl (fun ls hl => ?_)
      refine lv_goto (tgt := 39) hx hb dX0_explore_79 (by decide) ?_
      exact hrec39 _ hf _ _ _ hI (lv_sub hl [1, 2, 0] rfl)
theorem w_X0_explore_39_loop {r : x_S} (hC : x_C p s m args meth c cX0_explore 3 RX0 E A) (hR : x_Rv p l e { frames := 3, cells := 0, slots := 0, locals := 66 } s m args below meth c cX0_explore E A Q (cw E ad ap r)) : ∀ (k : Nat) (z : x_S × Nat × Int32), x_loop (fun rec z => f_X0_explore_39 n rec z.1 z.2.1 z.2.2) k z = some r → ∀ (H : Heap) (locs : List Loc) (ls : Array Slot), x_I E A s.heap (cw E ad ap z.1) H locs → lv_has ls 3 [(0, .ref (ad 99)), (1, .ref (ap z.2.1 0)), (2, .int z.2.2)] → W p l e { frames := 3, cells := 0, slots := 0, locals := 66 } s m args below meth c H locs 0 0 Q (F0 m 39 ls []) :=
  x_loop_ind (P := fun (z : x_S × Nat × Int32) => ∀ (H : Heap) (locs : List Loc) (ls : Array Slot), x_I E A s.heap (cw E ad ap z.1) H locs → lv_has ls 3 [(0, .ref (ad 99)), (1, .ref (ap z.2.1 0)), (2, .int z.2.2)] → W p l e { frames := 3, cells := 0, slots := 0, locals := 66 } s m args below meth c H locs 0 0 Q (F0 m 39 ls [])) (fun rec hrec z hf H locs ls hI hl => w_X0_explore_39 hC hR hrec hI hl hf)
def f_X0_explore_2 (n : Nat) (rec2 : x_S × Nat × Int32 → Option (x_S)) (S : x_S) (a1 : Nat) (a2 : Int32) : Option (x_S) :=
if (60 : Int32) ≤ a2 then
x_let (s_sc S 2 (0 : Int32)) (fun S =>
x_let (s_sc S 3 (0 : Int32)) (fun S =>
x_b (f_X0_meet n S a1 (0 : Int32)) (fun S =>
x_loop (fun rec z => f_X0_explore_39 n rec z.1 z.2.1 z.2.2) n (S, a1, (0 : Int32)))))
else
x_g (¬ (a2 < 0 ∨ 60 ≤ (a2).toNatClampNeg)) (x_let (s_ar S 0 (a2).toNatClampNeg (0 : Int32)) (fun S =>
rec2 (S, a1, (a2 + (1 : Int32)))))
set_option maxHeartbeats 4000000 in
set_option maxRecDepth 100000 in
theorem w_X0_explore_2 {r : x_S} {a1 : Nat} {a2 : Int32} {rec2 : x_S × Nat × Int32 → Option (x_S)} (hC : x_C p s m args meth c cX0_explore 3 RX0 E A) (hR : x_Rv p l e { frames := 3, cells := 0, slots := 0, locals := 66 } s m args below meth c cX0_explore E A Q (cw E ad ap r)) (hrec2 : ∀ z : x_S × Nat × Int32, rec2 z = some r → ∀ (H : Heap) (locs : List Loc) (ls : Array Slot), x_I E A s.heap (cw E ad ap z.1) H locs → lv_has ls 3 [(0, .ref (ad 99)), (1, .ref (ap z.2.1 0)), (2, .int z.2.2)] → W p l e { frames := 3, cells := 0, slots := 0, locals := 66 } s m args below meth c H locs 0 0 Q (F0 m 2 ls [])) (hI : x_I E A s.heap (cw E ad ap S) H locs) (hl : lv_has ls 3 [(0, .ref (ad 99)), (1, .ref (ap a1 0)), (2, .int a2)]) (hf : f_X0_explore_2 n rec2 S a1 a2 = some r) : W p l e { frames := 3, cells := 0, slots := 0, locals := 66 } s m args below meth c H locs 0 0 Q (F0 m 2 ls []) := by
  obtain ⟨hx, hb, hml, hown, hts, hK, hN, hA⟩ := id hC
  unfold f_X0_explore_2 at hf
  refine lv_iload_n hx hb dX0_explore_2 rfl (lv_at hl 2 rfl) ?_
  refine lv_bipush (v := (60 : Int32)) hx hb dX0_explore_3 (by decide) ?_
  refine x_ige hC 21 hf dX0_explore_5 (by decide) (fun hf => ?_) (fun hf => ?_)
  · refine lv_aload_n hx hb dX0_explore_21 rfl (lv_at hl 0 rfl) ?_
    refine lv_iconst (v := (0 : Int32)) hx hb dX0_explore_22 (by decide) ?_
    refine pX0_2 hC hI hf lkf_X0_18 dX0_explore_23 (fun S H locs hI hf => ?_)
    refine lv_aload_n hx hb dX0_explore_26 rfl (lv_at hl 0 rfl) ?_
    refine lv_iconst (v := (0 : Int32)) hx hb dX0_explore_27 (by decide) ?_
    refine pX0_3 hC hI hf lkf_X0_22 dX0_explore_28 (fun S H locs hI hf => ?_)
    refine lv_aload_n hx hb dX0_explore_31 rfl (lv_at hl 0 rfl) ?_
    refine lv_aload_n hx hb dX0_explore_32 rfl (lv_at hl 1 rfl) ?_
    refine lv_iconst (v := (0 : Int32)) hx hb dX0_explore_33 (by decide) ?_
    obtain ⟨S, hc1, hf⟩ := x_b_eq hf
    refine x_callV hC hI (c_X0_meet hc1) 1 0 rfl rfl kv_X0_25 rfl ⟨Nat.le_of_ble_eq_true rfl, Nat.le_of_ble_eq_true rfl⟩ ⟨Nat.le_refl _, Nat.le_refl _⟩ hl.1 rfl (Nat.le_of_ble_eq_true rfl) dX0_explore_34 (fun H locs hI => ?_)
    refine lv_iconst (v := (0 : Int32)) hx hb dX0_explore_37 (by decide) ?_
    refine lv_istore_n (lv' := [(2, .int (0 : Int32)), (0, .ref (ad 99)), (1, .ref (ap a1 0))]) hx hb dX0_explore_38 rfl hl (by decide) rfl (fun ls hl => ?_)
    exact w_X0_explore_39_loop hC hR _ _ hf _ _ _ hI (lv_sub hl [1, 2, 0] rfl)
  · refine lv_aload_n hx hb dX0_explore_8 rfl (lv_at hl 0 rfl) ?_
    refine gX0_0 hC hI lkf_X0_9 dX0_explore_9 ?_
    refine lv_iload_n hx hb dX0_explore_12 rfl (lv_at hl 2 rfl) ?_
    refine lv_iconst (v := (0 : Int32)) hx hb dX0_explore_13 (by decide) ?_
    refine tX0_0 hC hI hf dX0_explore_14 (fun S H locs hI hf => ?_)
    refine lv_iinc (v := (a2 + (1 : Int32))) (lv' := [(2, .int (a2 + (1 : Int32))), (0, .ref (ad 99)), (1, .ref (ap a1 0))]) hx hb dX0_explore_15 hl (k := 2) rfl rfl (by decide) rfl (fun ls hl => ?_)
    refine lv_goto (tgt := 2) hx hb dX0_explore_18 (by decide) ?_
    exact hrec2 _ hf _ _ _ hI (lv_sub hl [1, 2, 0] rfl)
theorem w_X0_explore_2_loop {r : x_S} (hC : x_C p s m args meth c cX0_explore 3 RX0 E A) (hR : x_Rv p l e { frames := 3, cells := 0, slots := 0, locals := 66 } s m args below meth c cX0_explore E A Q (cw E ad ap r)) : ∀ (k : Nat) (z : x_S × Nat × Int32), x_loop (fun rec z => f_X0_explore_2 n rec z.1 z.2.1 z.2.2) k z = some r → ∀ (H : Heap) (locs : List Loc) (ls : Array Slot), x_I E A s.heap (cw E ad ap z.1) H locs → lv_has ls 3 [(0, .ref (ad 99)), (1, .ref (ap z.2.1 0)), (2, .int z.2.2)] → W p l e { frames := 3, cells := 0, slots := 0, locals := 66 } s m args below meth c H locs 0 0 Q (F0 m 2 ls []) :=
  x_loop_ind (P := fun (z : x_S × Nat × Int32) => ∀ (H : Heap) (locs : List Loc) (ls : Array Slot), x_I E A s.heap (cw E ad ap z.1) H locs → lv_has ls 3 [(0, .ref (ad 99)), (1, .ref (ap z.2.1 0)), (2, .int z.2.2)] → W p l e { frames := 3, cells := 0, slots := 0, locals := 66 } s m args below meth c H locs 0 0 Q (F0 m 2 ls [])) (fun rec hrec z hf H locs ls hI hl => w_X0_explore_2 hC hR hrec hI hl hf)
def f_X0_explore (n : Nat) (S : x_S) (a1 : Nat) : Option (x_S) :=
x_loop (fun rec z => f_X0_explore_2 n rec z.1 z.2.1 z.2.2) n (S, a1, (0 : Int32))
set_option maxHeartbeats 4000000 in
set_option maxRecDepth 100000 in
theorem w_X0_explore {r : x_S} {a1 : Nat} (hC : x_C p s m args meth c cX0_explore 3 RX0 E A) (hR : x_Rv p l e { frames := 3, cells := 0, slots := 0, locals := 66 } s m args below meth c cX0_explore E A Q (cw E ad ap r)) (hI : x_I E A s.heap (cw E ad ap S) H locs) (hl : lv_has ls 3 [(0, .ref (ad 99)), (1, .ref (ap a1 0))]) (hf : f_X0_explore n S a1 = some r) : W p l e { frames := 3, cells := 0, slots := 0, locals := 66 } s m args below meth c H locs 0 0 Q (F0 m 0 ls []) := by
  obtain ⟨hx, hb, hml, hown, hts, hK, hN, hA⟩ := id hC
  unfold f_X0_explore at hf
  refine lv_iconst (v := (0 : Int32)) hx hb dX0_explore_0 (by decide) ?_
  refine lv_istore_n (lv' := [(2, .int (0 : Int32)), (0, .ref (ad 99)), (1, .ref (ap a1 0))]) hx hb dX0_explore_1 rfl hl (by decide) rfl (fun ls hl => ?_)
  exact w_X0_explore_2_loop hC hR _ _ hf _ _ _ hI (lv_sub hl [1, 2, 0] rfl)
theorem c_X0_explore {a1 : Nat} {S1 : x_S} (hf : f_X0_explore n S a1 = some S1) : x_M l yX0_explore cX0_explore 3 none 3 66 E [.ref (ad 99), .ref (ap a1 0)] (cw E ad ap S) (cw E ad ap S1) none :=
  x_entV (by decide) (Nat.le_of_ble_eq_true rfl) (fun p e s m args below meth c A Q ls hC hI hR hl => w_X0_explore (r := S1) hC hR hI hl hf)
-- X6_cameTo
def f_X6_cameTo (n : Nat) (S : x_S) (a1 : Nat) (a2 : Int32) : Option (Int32 × x_S) :=
x_b (f_X0_explore n S a1) (fun S =>
x_g (¬ (a2 < 0 ∨ 60 ≤ (a2).toNatClampNeg)) (x_let (g_ar S 0 (a2).toNatClampNeg) (fun v2 =>
some (v2, S))))
set_option maxHeartbeats 4000000 in
set_option maxRecDepth 100000 in
theorem w_X6_cameTo {r : Int32 × x_S} {a1 : Nat} {a2 : Int32} (hC : x_C p s m args meth c cX6_cameTo 3 RX6 E A) (hR : x_Ri p l e { frames := 4, cells := 0, slots := 0, locals := 88 } s m args below meth c cX6_cameTo E A Q (cw E ad ap r.2) r.1) (hI : x_I E A s.heap (cw E ad ap S) H locs) (hl : lv_has ls 3 [(0, .ref (ad 699)), (1, .ref (ap a1 0)), (2, .int a2)]) (hf : f_X6_cameTo n S a1 a2 = some r) : W p l e { frames := 4, cells := 0, slots := 0, locals := 88 } s m args below meth c H locs 0 0 Q (F0 m 0 ls []) := by
  obtain ⟨hx, hb, hml, hown, hts, hK, hN, hA⟩ := id hC
  unfold f_X6_cameTo at hf
  refine lv_aload_n hx hb dX6_cameTo_0 rfl (lv_at hl 0 rfl) ?_
  refine gX6_4 hC hI lkf_X6_32 dX6_cameTo_1 ?_
  refine lv_aload_n hx hb dX6_cameTo_4 rfl (lv_at hl 1 rfl) ?_
  obtain ⟨S, hc1, hf⟩ := x_b_eq hf
  refine x_callV hC hI (c_X0_explore hc1) 1 0 rfl rfl kv_X6_205 rfl ⟨Nat.le_of_ble_eq_true rfl, Nat.le_of_ble_eq_true rfl⟩ ⟨Nat.le_refl _, Nat.le_refl _⟩ hl.1 rfl (Nat.le_of_ble_eq_true rfl) dX6_cameTo_5 (fun H locs hI => ?_)
  refine lv_aload_n hx hb dX6_cameTo_8 rfl (lv_at hl 0 rfl) ?_
  refine gX6_4 hC hI lkf_X6_32 dX6_cameTo_9 ?_
  refine gX0_0 hC hI lkf_X6_208 dX6_cameTo_12 ?_
  refine lv_iload_n hx hb dX6_cameTo_15 rfl (lv_at hl 2 rfl) ?_
  refine aX0_0 hC hI hf dX6_cameTo_16 (fun v2 hf => ?_)
  obtain rfl := Option.some.inj hf
  exact hR _ _ _ _ hI dX6_cameTo_17
theorem c_X6_cameTo {a1 : Nat} {a2 : Int32} {v : Int32} {S1 : x_S} (hf : f_X6_cameTo n S a1 a2 = some (v, S1)) : x_M l yX6_cameTo cX6_cameTo 3 (some .int) 4 88 E [.ref (ad 699), .ref (ap a1 0), .int a2] (cw E ad ap S) (cw E ad ap S1) (some (.int v)) :=
  x_entI (by decide) (Nat.le_of_ble_eq_true rfl) (fun p e s m args below meth c A Q ls hC hI hR hl => w_X6_cameTo (r := (v, S1)) hC hR hI hl hf)
-- X6_told
def f_X6_told (n : Nat) (S : x_S) (a1 : Int32) (a2 : Int32) (a3 : Int32) : Option (Int32 × x_S) :=
x_b2 (f_X6_find n S a1) (fun o2 S => x_o o2 (
some ((-2 : Int32), S)) (fun i3 =>
x_g (i3 < g_np S) (x_b2 (f_X2_has n S i3 a2) (fun v5 S =>
if v5 = 0 then
some ((-2 : Int32), S)
else
if a3 = (0 : Int32) then
x_g (i3 < g_np S) (
x_g (i3 < g_np S) (x_g (¬ (a2 < 0 ∨ 60 ≤ (a2).toNatClampNeg)) (x_let (g_pa S 0 i3 (a2).toNatClampNeg) (fun v6 =>
some (v6, S)))))
else
if a3 = (1 : Int32) then
x_g (i3 < g_np S) (
x_g (i3 < g_np S) (x_g (¬ (a2 < 0 ∨ 60 ≤ (a2).toNatClampNeg)) (x_let (g_pa S 1 i3 (a2).toNatClampNeg) (fun v7 =>
some (v7, S)))))
else
if a3 = (2 : Int32) then
x_g (i3 < g_np S) (
x_g (i3 < g_np S) (x_g (¬ (a2 < 0 ∨ 60 ≤ (a2).toNatClampNeg)) (x_let (g_pa S 2 i3 (a2).toNatClampNeg) (fun v8 =>
some (v8, S)))))
else
if a3 = (3 : Int32) then
x_g (i3 < g_np S) (
x_g (i3 < g_np S) (x_g (¬ (a2 < 0 ∨ 60 ≤ (a2).toNatClampNeg)) (x_let (g_pa S 3 i3 (a2).toNatClampNeg) (fun v9 =>
some (v9, S)))))
else
if a3 = (4 : Int32) then
x_g (i3 < g_np S) (x_let (g_ps S 5 i3) (fun v10 =>
if v10 = 0 then
some ((-1 : Int32), S)
else
x_b (f_X6_treeOf n S a1 i3) (fun S =>
x_g (¬ (a2 < 0 ∨ 60 ≤ (a2).toNatClampNeg)) (x_let (g_ar S 406 (a2).toNatClampNeg) (fun v12 =>
some (v12, S))))))
else
if a3 = (5 : Int32) then
x_g (i3 < g_np S) (x_let (g_ps S 5 i3) (fun v13 =>
if v13 = 0 then
some ((-1 : Int32), S)
else
x_b2 (f_X6_cameTo n S i3 a2) (fun v15 S =>
some (v15, S))))
else
some ((-2 : Int32), S)))))
set_option maxHeartbeats 4000000 in
set_option maxRecDepth 100000 in
theorem w_X6_told {r : Int32 × x_S} {a1 : Int32} {a2 : Int32} {a3 : Int32} (hC : x_C p s m args meth c cX6_told 5 RX6 E A) (hR : x_Ri p l e { frames := 6, cells := 0, slots := 0, locals := 139 } s m args below meth c cX6_told E A Q (cw E ad ap r.2) r.1) (hI : x_I E A s.heap (cw E ad ap S) H locs) (hl : lv_has ls 5 [(0, .ref (ad 699)), (1, .int a1), (2, .int a2), (3, .int a3)]) (hf : f_X6_told n S a1 a2 a3 = some r) : W p l e { frames := 6, cells := 0, slots := 0, locals := 139 } s m args below meth c H locs 0 0 Q (F0 m 0 ls []) := by
  obtain ⟨hx, hb, hml, hown, hts, hK, hN, hA⟩ := id hC
  unfold f_X6_told at hf
  refine lv_aload_n hx hb dX6_told_0 rfl (lv_at hl 0 rfl) ?_
  refine lv_iload_n hx hb dX6_told_1 rfl (lv_at hl 1 rfl) ?_
  obtain ⟨o2, S, hc1, hf⟩ := x_b2_eq hf
  refine x_callV hC hI (c_X6_find hc1) 0 6 rfl rfl kv_X6_68 rfl ⟨Nat.le_of_ble_eq_true rfl, Nat.le_of_ble_eq_true rfl⟩ ⟨Nat.le_refl _, Nat.le_refl _⟩ hl.1 rfl (Nat.le_of_ble_eq_true rfl) dX6_told_2 (fun H locs hI => ?_)
  refine x_casesR hf (fun hf => ?_) (fun i3 hf => ?_)
  · refine lv_astoreN (lv' := [(4, .null), (0, .ref (ad 699)), (1, .int a1), (2, .int a2), (3, .int a3)]) hx hb dX6_told_5 hl (by decide) rfl (fun ls hl => ?_)
    refine lv_aloadN hx hb dX6_told_7 (lv_at hl 0 rfl) ?_
    refine lv_ifnullN (tgt := 21) hx hb dX6_told_9 (by decide) ?_
    refine lv_bipush (v := (-2 : Int32)) hx hb dX6_told_21 (by decide) ?_
    obtain rfl := Option.some.inj hf
    exact hR _ _ _ _ hI dX6_told_23
  · refine lv_astore (lv' := [(4, .ref (ap i3 0)), (0, .ref (ad 699)), (1, .int a1), (2, .int a2), (3, .int a3)]) hx hb dX6_told_5 hl (by decide) rfl (fun ls hl => ?_)
    refine lv_aload hx hb dX6_told_7 (lv_at hl 0 rfl) ?_
    refine lv_ifnull hx hb dX6_told_9 ?_
    refine lv_aload hx hb dX6_told_12 (lv_at hl 0 rfl) ?_
    refine lv_iload_n hx hb dX6_told_14 rfl (lv_at hl 3 rfl) ?_
    obtain ⟨h9, hf⟩ := x_g_eq hf
    obtain ⟨v5, S, hc4, hf⟩ := x_b2_eq hf
    refine x_callV hC hI (c_X2_has hc4) (36 + (5 * i3 + 0)) 2 (x_cw_get E ad ap _ i3 0 (by decide) h9) rfl kv_X6_83 rfl ⟨Nat.le_of_ble_eq_true rfl, Nat.le_of_ble_eq_true rfl⟩ ⟨Nat.le_refl _, Nat.le_refl _⟩ hl.1 rfl (Nat.le_of_ble_eq_true rfl) dX6_told_15 (fun H locs hI => ?_)
    refine x_ne0 hC 24 hf dX6_told_18 (by decide) (fun hf => ?_) (fun hf => ?_)
    · refine lv_iload_n hx hb dX6_told_24 rfl (lv_at hl 4 rfl) ?_
      refine x_case hf (fun q10 hf => ?_) (fun q10 hf => ?_)
      · refine lv_tableIn (tgt := 64) hx hb dX6_told_25 (by rw [q10]; decide) (by rw [q10]; decide) (by rw [q10]; rfl) (by decide) ?_
        refine lv_aload hx hb dX6_told_64 (lv_at hl 0 rfl) ?_
        refine gX2_0 hC hI hf lkf_X6_87 dX6_told_66 (fun hf => ?_)
        refine lv_iload_n hx hb dX6_told_69 rfl (lv_at hl 3 rfl) ?_
        refine aX2_0 hC hI hf dX6_told_70 (fun v6 hf => ?_)
        obtain rfl := Option.some.inj hf
        exact hR _ _ _ _ hI dX6_told_71
      · refine x_case hf (fun q11 hf => ?_) (fun q11 hf => ?_)
        · refine lv_tableIn (tgt := 72) hx hb dX6_told_25 (by rw [q11]; decide) (by rw [q11]; decide) (by rw [q11]; rfl) (by decide) ?_
          refine lv_aload hx hb dX6_told_72 (lv_at hl 0 rfl) ?_
          refine gX2_1 hC hI hf lkf_X6_90 dX6_told_74 (fun hf => ?_)
          refine lv_iload_n hx hb dX6_told_77 rfl (lv_at hl 3 rfl) ?_
          refine aX2_1 hC hI hf dX6_told_78 (fun v7 hf => ?_)
          obtain rfl := Option.some.inj hf
          exact hR _ _ _ _ hI dX6_told_79
        · refine x_case hf (fun q12 hf => ?_) (fun q12 hf => ?_)
          · refine lv_tableIn (tgt := 80) hx hb dX6_told_25 (by rw [q12]; decide) (by rw [q12]; decide) (by rw [q12]; rfl) (by decide) ?_
            refine lv_aload hx hb dX6_told_80 (lv_at hl 0 rfl) ?_
            refine gX2_2 hC hI hf lkf_X6_93 dX6_told_82 (fun hf => ?_)
            refine lv_iload_n hx hb dX6_told_85 rfl (lv_at hl 3 rfl) ?_
            refine aX2_2 hC hI hf dX6_told_86 (fun v8 hf => ?_)
            obtain rfl := Option.some.inj hf
            exact hR _ _ _ _ hI dX6_told_87
          · refine x_case hf (fun q13 hf => ?_) (fun q13 hf => ?_)
            · refine lv_tableIn (tgt := 88) hx hb dX6_told_25 (by rw [q13]; decide) (by rw [q13]; decide) (by rw [q13]; rfl) (by decide) ?_
              refine lv_aload hx hb dX6_told_88 (lv_at hl 0 rfl) ?_
              refine gX2_3 hC hI hf lkf_X6_96 dX6_told_90 (fun hf => ?_)
              refine lv_iload_n hx hb dX6_told_93 rfl (lv_at hl 3 rfl) ?_
              refine aX2_3 hC hI hf dX6_told_94 (fun v9 hf => ?_)
              obtain rfl := Option.some.inj hf
              exact hR _ _ _ _ hI dX6_told_95
            · refine x_case hf (fun q14 hf => ?_) (fun q14 hf => ?_)
              · refine lv_tableIn (tgt := 96) hx hb dX6_told_25 (by rw [q14]; decide) (by rw [q14]; decide) (by rw [q14]; rfl) (by decide) ?_
                refine lv_aload hx hb dX6_told_96 (lv_at hl 0 rfl) ?_
                refine gX2_5 hC hI hf lkf_X6_99 dX6_told_98 (fun v10 hf => ?_)
                refine x_eq0 hC 119 hf dX6_told_101 (by decide) (fun hf => ?_) (fun hf => ?_)
                · refine lv_iconst (v := (-1 : Int32)) hx hb dX6_told_119 (by decide) ?_
                  obtain rfl := Option.some.inj hf
                  exact hR _ _ _ _ hI dX6_told_120
                · refine lv_aload_n hx hb dX6_told_104 rfl (lv_at hl 1 rfl) ?_
                  refine lv_iload_n hx hb dX6_told_105 rfl (lv_at hl 2 rfl) ?_
                  refine lv_aload hx hb dX6_told_106 (lv_at hl 0 rfl) ?_
                  obtain ⟨S, hc11, hf⟩ := x_b_eq hf
                  refine x_callV hC hI (c_X6_treeOf hc11) 0 6 rfl rfl kv_X6_103 rfl ⟨Nat.le_of_ble_eq_true rfl, Nat.le_of_ble_eq_true rfl⟩ ⟨Nat.le_refl _, Nat.le_refl _⟩ hl.1 rfl (Nat.le_of_ble_eq_true rfl) dX6_told_108 (fun H locs hI => ?_)
                  refine gX4_6 hC hI lkf_X6_107 dX6_told_111 ?_
                  refine lv_iload_n hx hb dX6_told_114 rfl (lv_at hl 3 rfl) ?_
                  refine aX4_6 hC hI hf dX6_told_115 (fun v12 hf => ?_)
                  refine lv_goto (tgt := 120) hx hb dX6_told_116 (by decide) ?_
                  obtain rfl := Option.some.inj hf
                  exact hR _ _ _ _ hI dX6_told_120
              · refine x_case hf (fun q15 hf => ?_) (fun q15 hf => ?_)
                · refine lv_tableIn (tgt := 121) hx hb dX6_told_25 (by rw [q15]; decide) (by rw [q15]; decide) (by rw [q15]; rfl) (by decide) ?_
                  refine lv_aload hx hb dX6_told_121 (lv_at hl 0 rfl) ?_
                  refine gX2_5 hC hI hf lkf_X6_99 dX6_told_123 (fun v13 hf => ?_)
                  refine x_eq0 hC 139 hf dX6_told_126 (by decide) (fun hf => ?_) (fun hf => ?_)
                  · refine lv_iconst (v := (-1 : Int32)) hx hb dX6_told_139 (by decide) ?_
                    obtain rfl := Option.some.inj hf
                    exact hR _ _ _ _ hI dX6_told_140
                  · refine lv_aload_n hx hb dX6_told_129 rfl (lv_at hl 1 rfl) ?_
                    refine lv_aload hx hb dX6_told_130 (lv_at hl 0 rfl) ?_
                    refine lv_iload_n hx hb dX6_told_132 rfl (lv_at hl 3 rfl) ?_
                    obtain ⟨v15, S, hc14, hf⟩ := x_b2_eq hf
                    refine x_callV hC hI (c_X6_cameTo hc14) 0 6 rfl rfl kv_X6_112 rfl ⟨Nat.le_of_ble_eq_true rfl, Nat.le_of_ble_eq_true rfl⟩ ⟨Nat.le_refl _, Nat.le_refl _⟩ hl.1 rfl (Nat.le_of_ble_eq_true rfl) dX6_told_133 (fun H locs hI => ?_)
                    refine lv_goto (tgt := 140) hx hb dX6_told_136 (by decide) ?_
                    obtain rfl := Option.some.inj hf
                    exact hR _ _ _ _ hI dX6_told_140
                · refine lv_tableOut (tgt := 141) hx hb dX6_told_25 (by have z10 := lv_neT (a := 0) q10 (by decide); have z11 := lv_neT (a := 1) q11 (by decide); have z12 := lv_neT (a := 2) q12 (by decide); have z13 := lv_neT (a := 3) q13 (by decide); have z14 := lv_neT (a := 4) q14 (by decide); have z15 := lv_neT (a := 5) q15 (by decide); omega) (by decide) ?_
                  refine lv_bipush (v := (-2 : Int32)) hx hb dX6_told_141 (by decide) ?_
                  obtain rfl := Option.some.inj hf
                  exact hR _ _ _ _ hI dX6_told_143
    · refine lv_bipush (v := (-2 : Int32)) hx hb dX6_told_21 (by decide) ?_
      obtain rfl := Option.some.inj hf
      exact hR _ _ _ _ hI dX6_told_23
theorem c_X6_told {a1 : Int32} {a2 : Int32} {a3 : Int32} {v : Int32} {S1 : x_S} (hf : f_X6_told n S a1 a2 a3 = some (v, S1)) : x_M l yX6_told cX6_told 5 (some .int) 6 139 E [.ref (ad 699), .int a1, .int a2, .int a3] (cw E ad ap S) (cw E ad ap S1) (some (.int v)) :=
  x_entI (by decide) (Nat.le_of_ble_eq_true rfl) (fun p e s m args below meth c A Q ls hC hI hR hl => w_X6_told (r := (v, S1)) hC hR hI hl hf)
-- X2_isAlike
def f_X2_isAlike_15 (n : Nat) (rec15 : x_S × Nat × Nat × Int32 → Option (Int32 × x_S)) (S : x_S) (a0 : Nat) (a1 : Nat) (a2 : Int32) : Option (Int32 × x_S) :=
x_g (a0 < g_np S) (x_let (g_ps S 4 a0) (fun v3 =>
if v3 ≤ a2 then
x_g ((1 : Int32) = 0 ∨ (1 : Int32) = 1) (some ((1 : Int32), S))
else
x_g (a0 < g_np S) (
x_g (a0 < g_np S) (x_g (¬ (a2 < 0 ∨ 60 ≤ (a2).toNatClampNeg)) (x_let (g_pa S 0 a0 (a2).toNatClampNeg) (fun v4 =>
x_g (a1 < g_np S) (
x_g (a1 < g_np S) (x_g (¬ (a2 < 0 ∨ 60 ≤ (a2).toNatClampNeg)) (x_let (g_pa S 0 a1 (a2).toNatClampNeg) (fun v5 =>
if v4 = v5 then
x_g (a0 < g_np S) (
x_g (a0 < g_np S) (x_g (¬ (a2 < 0 ∨ 60 ≤ (a2).toNatClampNeg)) (x_let (g_pa S 1 a0 (a2).toNatClampNeg) (fun v6 =>
x_g (a1 < g_np S) (
x_g (a1 < g_np S) (x_g (¬ (a2 < 0 ∨ 60 ≤ (a2).toNatClampNeg)) (x_let (g_pa S 1 a1 (a2).toNatClampNeg) (fun v7 =>
if v6 = v7 then
x_g (a0 < g_np S) (
x_g (a0 < g_np S) (x_g (¬ (a2 < 0 ∨ 60 ≤ (a2).toNatClampNeg)) (x_let (g_pa S 2 a0 (a2).toNatClampNeg) (fun v8 =>
x_g (a1 < g_np S) (
x_g (a1 < g_np S) (x_g (¬ (a2 < 0 ∨ 60 ≤ (a2).toNatClampNeg)) (x_let (g_pa S 2 a1 (a2).toNatClampNeg) (fun v9 =>
if v8 = v9 then
x_g (a0 < g_np S) (
x_g (a0 < g_np S) (x_g (¬ (a2 < 0 ∨ 60 ≤ (a2).toNatClampNeg)) (x_let (g_pa S 3 a0 (a2).toNatClampNeg) (fun v10 =>
x_g (a1 < g_np S) (
x_g (a1 < g_np S) (x_g (¬ (a2 < 0 ∨ 60 ≤ (a2).toNatClampNeg)) (x_let (g_pa S 3 a1 (a2).toNatClampNeg) (fun v11 =>
if v10 = v11 then
rec15 (S, a0, a1, (a2 + (1 : Int32)))
else
x_g ((0 : Int32) = 0 ∨ (0 : Int32) = 1) (some ((0 : Int32), S))))))))))
else
x_g ((0 : Int32) = 0 ∨ (0 : Int32) = 1) (some ((0 : Int32), S))))))))))
else
x_g ((0 : Int32) = 0 ∨ (0 : Int32) = 1) (some ((0 : Int32), S))))))))))
else
x_g ((0 : Int32) = 0 ∨ (0 : Int32) = 1) (some ((0 : Int32), S))))))))))))
set_option maxHeartbeats 4000000 in
set_option maxRecDepth 100000 in
theorem w_X2_isAlike_15 {r : Int32 × x_S} {a0 : Nat} {a1 : Nat} {a2 : Int32} {rec15 : x_S × Nat × Nat × Int32 → Option (Int32 × x_S)} (hC : x_C p s m args meth c cX2_isAlike 3 RX2 E A) (hR : x_Rz p l e { frames := 0, cells := 0, slots := 0, locals := 0 } s m args below meth c cX2_isAlike E A Q (cw E ad ap r.2) r.1) (hrec15 : ∀ z : x_S × Nat × Nat × Int32, rec15 z = some r → ∀ (H : Heap) (locs : List Loc) (ls : Array Slot), x_I E A s.heap (cw E ad ap z.1) H locs → lv_has ls 3 [(0, .ref (ap z.2.1 0)), (1, .ref (ap z.2.2.1 0)), (2, .int z.2.2.2)] → W p l e { frames := 0, cells := 0, slots := 0, locals := 0 } s m args below meth c H locs 0 0 Q (F0 m 15 ls [])) (hI : x_I E A s.heap (cw E ad ap S) H locs) (hl : lv_has ls 3 [(0, .ref (ap a0 0)), (1, .ref (ap a1 0)), (2, .int a2)]) (hf : f_X2_isAlike_15 n rec15 S a0 a1 a2 = some r) : W p l e { frames := 0, cells := 0, slots := 0, locals := 0 } s m args below meth c H locs 0 0 Q (F0 m 15 ls []) := by
  obtain ⟨hx, hb, hml, hown, hts, hK, hN, hA⟩ := id hC
  unfold f_X2_isAlike_15 at hf
  refine lv_iload_n hx hb dX2_isAlike_15 rfl (lv_at hl 2 rfl) ?_
  refine lv_aload_n hx hb dX2_isAlike_16 rfl (lv_at hl 0 rfl) ?_
  refine gX2_4 hC hI hf lkf_X2_24 dX2_isAlike_17 (fun v3 hf => ?_)
  refine x_ige hC 91 hf dX2_isAlike_20 (by decide) (fun hf => ?_) (fun hf => ?_)
  · refine lv_iconst (v := (1 : Int32)) hx hb dX2_isAlike_91 (by decide) ?_
    obtain ⟨h9, hf⟩ := x_g_eq hf
    obtain rfl := Option.some.inj hf
    exact hR _ _ _ _ h9 hI dX2_isAlike_92
  · refine lv_aload_n hx hb dX2_isAlike_23 rfl (lv_at hl 0 rfl) ?_
    refine gX2_0 hC hI hf lkf_X2_9 dX2_isAlike_24 (fun hf => ?_)
    refine lv_iload_n hx hb dX2_isAlike_27 rfl (lv_at hl 2 rfl) ?_
    refine aX2_0 hC hI hf dX2_isAlike_28 (fun v4 hf => ?_)
    refine lv_aload_n hx hb dX2_isAlike_29 rfl (lv_at hl 1 rfl) ?_
    refine gX2_0 hC hI hf lkf_X2_9 dX2_isAlike_30 (fun hf => ?_)
    refine lv_iload_n hx hb dX2_isAlike_33 rfl (lv_at hl 2 rfl) ?_
    refine aX2_0 hC hI hf dX2_isAlike_34 (fun v5 hf => ?_)
    refine x_ine hC 83 hf dX2_isAlike_35 (by decide) (fun hf => ?_) (fun hf => ?_)
    · refine lv_iconst (v := (0 : Int32)) hx hb dX2_isAlike_83 (by decide) ?_
      obtain ⟨h9, hf⟩ := x_g_eq hf
      obtain rfl := Option.some.inj hf
      exact hR _ _ _ _ h9 hI dX2_isAlike_84
    · refine lv_aload_n hx hb dX2_isAlike_38 rfl (lv_at hl 0 rfl) ?_
      refine gX2_1 hC hI hf lkf_X2_15 dX2_isAlike_39 (fun hf => ?_)
      refine lv_iload_n hx hb dX2_isAlike_42 rfl (lv_at hl 2 rfl) ?_
      refine aX2_1 hC hI hf dX2_isAlike_43 (fun v6 hf => ?_)
      refine lv_aload_n hx hb dX2_isAlike_44 rfl (lv_at hl 1 rfl) ?_
      refine gX2_1 hC hI hf lkf_X2_15 dX2_isAlike_45 (fun hf => ?_)
      refine lv_iload_n hx hb dX2_isAlike_48 rfl (lv_at hl 2 rfl) ?_
      refine aX2_1 hC hI hf dX2_isAlike_49 (fun v7 hf => ?_)
      refine x_ine hC 83 hf dX2_isAlike_50 (by decide) (fun hf => ?_) (fun hf => ?_)
      · refine lv_iconst (v := (0 : Int32)) hx hb dX2_isAlike_83 (by decide) ?_
        obtain ⟨h9, hf⟩ := x_g_eq hf
        obtain rfl := Option.some.inj hf
        exact hR _ _ _ _ h9 hI dX2_isAlike_84
      · refine lv_aload_n hx hb dX2_isAlike_53 rfl (lv_at hl 0 rfl) ?_
        refine gX2_2 hC hI hf lkf_X2_18 dX2_isAlike_54 (fun hf => ?_)
        refine lv_iload_n hx hb dX2_isAlike_57 rfl (lv_at hl 2 rfl) ?_
        refine aX2_2 hC hI hf dX2_isAlike_58 (fun v8 hf => ?_)
        refine lv_aload_n hx hb dX2_isAlike_59 rfl (lv_at hl 1 rfl) ?_
        refine gX2_2 hC hI hf lkf_X2_18 dX2_isAlike_60 (fun hf => ?_)
        refine lv_iload_n hx hb dX2_isAlike_63 rfl (lv_at hl 2 rfl) ?_
        refine aX2_2 hC hI hf dX2_isAlike_64 (fun v9 hf => ?_)
        refine x_ine hC 83 hf dX2_isAlike_65 (by decide) (fun hf => ?_) (fun hf => ?_)
        · refine lv_iconst (v := (0 : Int32)) hx hb dX2_isAlike_83 (by decide) ?_
          obtain ⟨h9, hf⟩ := x_g_eq hf
          obtain rfl := Option.some.inj hf
          exact hR _ _ _ _ h9 hI dX2_isAlike_84
        · refine lv_aload_n hx hb dX2_isAlike_68 rfl (lv_at hl 0 rfl) ?_
          refine gX2_3 hC hI hf lkf_X2_21 dX2_isAlike_69 (fun hf => ?_)
          refine lv_iload_n hx hb dX2_isAlike_72 rfl (lv_at hl 2 rfl) ?_
          refine aX2_3 hC hI hf dX2_isAlike_73 (fun v10 hf => ?_)
          refine lv_aload_n hx hb dX2_isAlike_74 rfl (lv_at hl 1 rfl) ?_
          refine gX2_3 hC hI hf lkf_X2_21 dX2_isAlike_75 (fun hf => ?_)
          refine lv_iload_n hx hb dX2_isAlike_78 rfl (lv_at hl 2 rfl) ?_
          refine aX2_3 hC hI hf dX2_isAlike_79 (fun v11 hf => ?_)
          refine x_ieq hC 85 hf dX2_isAlike_80 (by decide) (fun hf => ?_) (fun hf => ?_)
          · refine lv_iinc (v := (a2 + (1 : Int32))) (lv' := [(2, .int (a2 + (1 : Int32))), (0, .ref (ap a0 0)), (1, .ref (ap a1 0))]) hx hb dX2_isAlike_85 hl (k := 2) rfl rfl (by decide) rfl (fun ls hl => ?_)
            refine lv_goto (tgt := 15) hx hb dX2_isAlike_88 (by decide) ?_
            exact hrec15 _ hf _ _ _ hI (lv_sub hl [1, 2, 0] rfl)
          · refine lv_iconst (v := (0 : Int32)) hx hb dX2_isAlike_83 (by decide) ?_
            obtain ⟨h9, hf⟩ := x_g_eq hf
            obtain rfl := Option.some.inj hf
            exact hR _ _ _ _ h9 hI dX2_isAlike_84
theorem w_X2_isAlike_15_loop {r : Int32 × x_S} (hC : x_C p s m args meth c cX2_isAlike 3 RX2 E A) (hR : x_Rz p l e { frames := 0, cells := 0, slots := 0, locals := 0 } s m args below meth c cX2_isAlike E A Q (cw E ad ap r.2) r.1) : ∀ (k : Nat) (z : x_S × Nat × Nat × Int32), x_loop (fun rec z => f_X2_isAlike_15 n rec z.1 z.2.1 z.2.2.1 z.2.2.2) k z = some r → ∀ (H : Heap) (locs : List Loc) (ls : Array Slot), x_I E A s.heap (cw E ad ap z.1) H locs → lv_has ls 3 [(0, .ref (ap z.2.1 0)), (1, .ref (ap z.2.2.1 0)), (2, .int z.2.2.2)] → W p l e { frames := 0, cells := 0, slots := 0, locals := 0 } s m args below meth c H locs 0 0 Q (F0 m 15 ls []) :=
  x_loop_ind (P := fun (z : x_S × Nat × Nat × Int32) => ∀ (H : Heap) (locs : List Loc) (ls : Array Slot), x_I E A s.heap (cw E ad ap z.1) H locs → lv_has ls 3 [(0, .ref (ap z.2.1 0)), (1, .ref (ap z.2.2.1 0)), (2, .int z.2.2.2)] → W p l e { frames := 0, cells := 0, slots := 0, locals := 0 } s m args below meth c H locs 0 0 Q (F0 m 15 ls [])) (fun rec hrec z hf H locs ls hI hl => w_X2_isAlike_15 hC hR hrec hI hl hf)
def f_X2_isAlike (n : Nat) (S : x_S) (a0 : Nat) (a1 : Nat) : Option (Int32 × x_S) :=
x_g (a0 < g_np S) (x_let (g_ps S 4 a0) (fun v1 =>
x_g (a1 < g_np S) (x_let (g_ps S 4 a1) (fun v2 =>
if v1 = v2 then
x_loop (fun rec z => f_X2_isAlike_15 n rec z.1 z.2.1 z.2.2.1 z.2.2.2) n (S, a0, a1, (0 : Int32))
else
x_g ((0 : Int32) = 0 ∨ (0 : Int32) = 1) (some ((0 : Int32), S))))))
set_option maxHeartbeats 4000000 in
set_option maxRecDepth 100000 in
theorem w_X2_isAlike {r : Int32 × x_S} {a0 : Nat} {a1 : Nat} (hC : x_C p s m args meth c cX2_isAlike 3 RX2 E A) (hR : x_Rz p l e { frames := 0, cells := 0, slots := 0, locals := 0 } s m args below meth c cX2_isAlike E A Q (cw E ad ap r.2) r.1) (hI : x_I E A s.heap (cw E ad ap S) H locs) (hl : lv_has ls 3 [(0, .ref (ap a0 0)), (1, .ref (ap a1 0))]) (hf : f_X2_isAlike n S a0 a1 = some r) : W p l e { frames := 0, cells := 0, slots := 0, locals := 0 } s m args below meth c H locs 0 0 Q (F0 m 0 ls []) := by
  obtain ⟨hx, hb, hml, hown, hts, hK, hN, hA⟩ := id hC
  unfold f_X2_isAlike at hf
  refine lv_aload_n hx hb dX2_isAlike_0 rfl (lv_at hl 0 rfl) ?_
  refine gX2_4 hC hI hf lkf_X2_24 dX2_isAlike_1 (fun v1 hf => ?_)
  refine lv_aload_n hx hb dX2_isAlike_4 rfl (lv_at hl 1 rfl) ?_
  refine gX2_4 hC hI hf lkf_X2_24 dX2_isAlike_5 (fun v2 hf => ?_)
  refine x_ieq hC 13 hf dX2_isAlike_8 (by decide) (fun hf => ?_) (fun hf => ?_)
  · refine lv_iconst (v := (0 : Int32)) hx hb dX2_isAlike_13 (by decide) ?_
    refine lv_istore_n (lv' := [(2, .int (0 : Int32)), (0, .ref (ap a0 0)), (1, .ref (ap a1 0))]) hx hb dX2_isAlike_14 rfl hl (by decide) rfl (fun ls hl => ?_)
    exact w_X2_isAlike_15_loop hC hR _ _ hf _ _ _ hI (lv_sub hl [1, 2, 0] rfl)
  · refine lv_iconst (v := (0 : Int32)) hx hb dX2_isAlike_11 (by decide) ?_
    obtain ⟨h9, hf⟩ := x_g_eq hf
    obtain rfl := Option.some.inj hf
    exact hR _ _ _ _ h9 hI dX2_isAlike_12
theorem c_X2_isAlike {a0 : Nat} {a1 : Nat} {v : Int32} {S1 : x_S} (hf : f_X2_isAlike n S a0 a1 = some (v, S1)) : x_M l yX2_isAlike cX2_isAlike 3 (some .boolean) 0 0 E [.ref (ap a0 0), .ref (ap a1 0)] (cw E ad ap S) (cw E ad ap S1) (some (.int v)) :=
  x_entZ (by decide) (Nat.le_of_ble_eq_true rfl) (fun p e s m args below meth c A Q ls hC hI hR hl => w_X2_isAlike (r := (v, S1)) hC hR hI hl hf)
-- X6_leastAlike
def f_X6_leastAlike_30 (n : Nat) (rec2 : x_S × Int32 × Nat × Int32 → Option (Int32 × x_S)) (S : x_S) (a1 : Int32) (a2 : Nat) (a3 : Int32) : Option (Int32 × x_S) :=
rec2 (S, a1, a2, (a3 + (1 : Int32)))
set_option maxHeartbeats 4000000 in
set_option maxRecDepth 100000 in
theorem w_X6_leastAlike_30 {r : Int32 × x_S} {a1 : Int32} {a2 : Nat} {a3 : Int32} {rec2 : x_S × Int32 × Nat × Int32 → Option (Int32 × x_S)} (hC : x_C p s m args meth c cX6_leastAlike 5 RX6 E A) (hR : x_Ri p l e { frames := 1, cells := 0, slots := 0, locals := 22 } s m args below meth c cX6_leastAlike E A Q (cw E ad ap r.2) r.1) (hrec2 : ∀ z : x_S × Int32 × Nat × Int32, rec2 z = some r → ∀ (H : Heap) (locs : List Loc) (ls : Array Slot), x_I E A s.heap (cw E ad ap z.1) H locs → lv_has ls 5 [(0, .ref (ad 699)), (1, .int z.2.1), (2, .ref (ap z.2.2.1 0)), (3, .int z.2.2.2)] → W p l e { frames := 1, cells := 0, slots := 0, locals := 22 } s m args below meth c H locs 0 0 Q (F0 m 2 ls [])) (hI : x_I E A s.heap (cw E ad ap S) H locs) (hl : lv_has ls 5 [(0, .ref (ad 699)), (1, .int a1), (2, .ref (ap a2 0)), (3, .int a3)]) (hf : f_X6_leastAlike_30 n rec2 S a1 a2 a3 = some r) : W p l e { frames := 1, cells := 0, slots := 0, locals := 22 } s m args below meth c H locs 0 0 Q (F0 m 30 ls []) := by
  obtain ⟨hx, hb, hml, hown, hts, hK, hN, hA⟩ := id hC
  unfold f_X6_leastAlike_30 at hf
  refine lv_iinc (v := (a3 + (1 : Int32))) (lv' := [(3, .int (a3 + (1 : Int32))), (0, .ref (ad 699)), (1, .int a1), (2, .ref (ap a2 0))]) hx hb dX6_leastAlike_30 hl (k := 3) rfl rfl (by decide) rfl (fun ls hl => ?_)
  refine lv_goto (tgt := 2) hx hb dX6_leastAlike_33 (by decide) ?_
  exact hrec2 _ hf _ _ _ hI (lv_sub hl [1, 2, 3, 0] rfl)
def f_X6_leastAlike_2 (n : Nat) (rec2 : x_S × Int32 × Nat × Int32 → Option (Int32 × x_S)) (S : x_S) (a1 : Int32) (a2 : Nat) (a3 : Int32) : Option (Int32 × x_S) :=
if a1 ≤ a3 then
some (a1, S)
else
x_b2 (f_X6_find n S a3) (fun o2 S => x_o o2 (
f_X6_leastAlike_30 n rec2 S a1 a2 a3) (fun i3 =>
x_g (i3 < g_np S) (x_b2 (f_X2_isAlike n S i3 a2) (fun v5 S =>
if v5 = 0 then
f_X6_leastAlike_30 n rec2 S a1 a2 a3
else
some (a3, S)))))
set_option maxHeartbeats 4000000 in
set_option maxRecDepth 100000 in
theorem w_X6_leastAlike_2 {r : Int32 × x_S} {a1 : Int32} {a2 : Nat} {a3 : Int32} {rec2 : x_S × Int32 × Nat × Int32 → Option (Int32 × x_S)} (hC : x_C p s m args meth c cX6_leastAlike 5 RX6 E A) (hR : x_Ri p l e { frames := 1, cells := 0, slots := 0, locals := 22 } s m args below meth c cX6_leastAlike E A Q (cw E ad ap r.2) r.1) (hrec2 : ∀ z : x_S × Int32 × Nat × Int32, rec2 z = some r → ∀ (H : Heap) (locs : List Loc) (ls : Array Slot), x_I E A s.heap (cw E ad ap z.1) H locs → lv_has ls 5 [(0, .ref (ad 699)), (1, .int z.2.1), (2, .ref (ap z.2.2.1 0)), (3, .int z.2.2.2)] → W p l e { frames := 1, cells := 0, slots := 0, locals := 22 } s m args below meth c H locs 0 0 Q (F0 m 2 ls [])) (hI : x_I E A s.heap (cw E ad ap S) H locs) (hl : lv_has ls 5 [(0, .ref (ad 699)), (1, .int a1), (2, .ref (ap a2 0)), (3, .int a3)]) (hf : f_X6_leastAlike_2 n rec2 S a1 a2 a3 = some r) : W p l e { frames := 1, cells := 0, slots := 0, locals := 22 } s m args below meth c H locs 0 0 Q (F0 m 2 ls []) := by
  obtain ⟨hx, hb, hml, hown, hts, hK, hN, hA⟩ := id hC
  unfold f_X6_leastAlike_2 at hf
  refine lv_iload_n hx hb dX6_leastAlike_2 rfl (lv_at hl 3 rfl) ?_
  refine lv_iload_n hx hb dX6_leastAlike_3 rfl (lv_at hl 1 rfl) ?_
  refine x_ige hC 36 hf dX6_leastAlike_4 (by decide) (fun hf => ?_) (fun hf => ?_)
  · refine lv_iload_n hx hb dX6_leastAlike_36 rfl (lv_at hl 1 rfl) ?_
    obtain rfl := Option.some.inj hf
    exact hR _ _ _ _ hI dX6_leastAlike_37
  · refine lv_aload_n hx hb dX6_leastAlike_7 rfl (lv_at hl 0 rfl) ?_
    refine lv_iload_n hx hb dX6_leastAlike_8 rfl (lv_at hl 3 rfl) ?_
    obtain ⟨o2, S, hc1, hf⟩ := x_b2_eq hf
    refine x_callV hC hI (c_X6_find hc1) 0 6 rfl rfl kv_X6_68 rfl ⟨Nat.le_of_ble_eq_true rfl, Nat.le_of_ble_eq_true rfl⟩ ⟨Nat.le_refl _, Nat.le_refl _⟩ hl.1 rfl (Nat.le_of_ble_eq_true rfl) dX6_leastAlike_9 (fun H locs hI => ?_)
    refine x_casesR hf (fun hf => ?_) (fun i3 hf => ?_)
    · refine lv_astoreN (lv' := [(4, .null), (0, .ref (ad 699)), (1, .int a1), (2, .ref (ap a2 0)), (3, .int a3)]) hx hb dX6_leastAlike_12 hl (by decide) rfl (fun ls hl => ?_)
      refine lv_aloadN hx hb dX6_leastAlike_14 (lv_at hl 0 rfl) ?_
      refine lv_ifnullN (tgt := 30) hx hb dX6_leastAlike_16 (by decide) ?_
      exact w_X6_leastAlike_30 hC hR hrec2 hI (lv_sub hl [1, 2, 3, 4] rfl) hf
    · refine lv_astore (lv' := [(4, .ref (ap i3 0)), (0, .ref (ad 699)), (1, .int a1), (2, .ref (ap a2 0)), (3, .int a3)]) hx hb dX6_leastAlike_12 hl (by decide) rfl (fun ls hl => ?_)
      refine lv_aload hx hb dX6_leastAlike_14 (lv_at hl 0 rfl) ?_
      refine lv_ifnull hx hb dX6_leastAlike_16 ?_
      refine lv_aload hx hb dX6_leastAlike_19 (lv_at hl 0 rfl) ?_
      refine lv_aload_n hx hb dX6_leastAlike_21 rfl (lv_at hl 3 rfl) ?_
      obtain ⟨h9, hf⟩ := x_g_eq hf
      obtain ⟨v5, S, hc4, hf⟩ := x_b2_eq hf
      refine x_callV hC hI (c_X2_isAlike hc4) (36 + (5 * i3 + 0)) 2 (x_cw_get E ad ap _ i3 0 (by decide) h9) rfl kv_X6_168 rfl ⟨Nat.le_of_ble_eq_true rfl, Nat.le_of_ble_eq_true rfl⟩ ⟨Nat.le_refl _, Nat.le_refl _⟩ hl.1 rfl (Nat.le_of_ble_eq_true rfl) dX6_leastAlike_22 (fun H locs hI => ?_)
      refine x_eq0 hC 30 hf dX6_leastAlike_25 (by decide) (fun hf => ?_) (fun hf => ?_)
      · exact w_X6_leastAlike_30 hC hR hrec2 hI (lv_sub hl [1, 2, 3, 4] rfl) hf
      · refine lv_iload_n hx hb dX6_leastAlike_28 rfl (lv_at hl 4 rfl) ?_
        obtain rfl := Option.some.inj hf
        exact hR _ _ _ _ hI dX6_leastAlike_29
theorem w_X6_leastAlike_2_loop {r : Int32 × x_S} (hC : x_C p s m args meth c cX6_leastAlike 5 RX6 E A) (hR : x_Ri p l e { frames := 1, cells := 0, slots := 0, locals := 22 } s m args below meth c cX6_leastAlike E A Q (cw E ad ap r.2) r.1) : ∀ (k : Nat) (z : x_S × Int32 × Nat × Int32), x_loop (fun rec z => f_X6_leastAlike_2 n rec z.1 z.2.1 z.2.2.1 z.2.2.2) k z = some r → ∀ (H : Heap) (locs : List Loc) (ls : Array Slot), x_I E A s.heap (cw E ad ap z.1) H locs → lv_has ls 5 [(0, .ref (ad 699)), (1, .int z.2.1), (2, .ref (ap z.2.2.1 0)), (3, .int z.2.2.2)] → W p l e { frames := 1, cells := 0, slots := 0, locals := 22 } s m args below meth c H locs 0 0 Q (F0 m 2 ls []) :=
  x_loop_ind (P := fun (z : x_S × Int32 × Nat × Int32) => ∀ (H : Heap) (locs : List Loc) (ls : Array Slot), x_I E A s.heap (cw E ad ap z.1) H locs → lv_has ls 5 [(0, .ref (ad 699)), (1, .int z.2.1), (2, .ref (ap z.2.2.1 0)), (3, .int z.2.2.2)] → W p l e { frames := 1, cells := 0, slots := 0, locals := 22 } s m args below meth c H locs 0 0 Q (F0 m 2 ls [])) (fun rec hrec z hf H locs ls hI hl => w_X6_leastAlike_2 hC hR hrec hI hl hf)
def f_X6_leastAlike (n : Nat) (S : x_S) (a1 : Int32) (a2 : Nat) : Option (Int32 × x_S) :=
x_loop (fun rec z => f_X6_leastAlike_2 n rec z.1 z.2.1 z.2.2.1 z.2.2.2) n (S, a1, a2, (0 : Int32))
set_option maxHeartbeats 4000000 in
set_option maxRecDepth 100000 in
theorem w_X6_leastAlike {r : Int32 × x_S} {a1 : Int32} {a2 : Nat} (hC : x_C p s m args meth c cX6_leastAlike 5 RX6 E A) (hR : x_Ri p l e { frames := 1, cells := 0, slots := 0, locals := 22 } s m args below meth c cX6_leastAlike E A Q (cw E ad ap r.2) r.1) (hI : x_I E A s.heap (cw E ad ap S) H locs) (hl : lv_has ls 5 [(0, .ref (ad 699)), (1, .int a1), (2, .ref (ap a2 0))]) (hf : f_X6_leastAlike n S a1 a2 = some r) : W p l e { frames := 1, cells := 0, slots := 0, locals := 22 } s m args below meth c H locs 0 0 Q (F0 m 0 ls []) := by
  obtain ⟨hx, hb, hml, hown, hts, hK, hN, hA⟩ := id hC
  unfold f_X6_leastAlike at hf
  refine lv_iconst (v := (0 : Int32)) hx hb dX6_leastAlike_0 (by decide) ?_
  refine lv_istore_n (lv' := [(3, .int (0 : Int32)), (0, .ref (ad 699)), (1, .int a1), (2, .ref (ap a2 0))]) hx hb dX6_leastAlike_1 rfl hl (by decide) rfl (fun ls hl => ?_)
  exact w_X6_leastAlike_2_loop hC hR _ _ hf _ _ _ hI (lv_sub hl [1, 2, 3, 0] rfl)
theorem c_X6_leastAlike {a1 : Int32} {a2 : Nat} {v : Int32} {S1 : x_S} (hf : f_X6_leastAlike n S a1 a2 = some (v, S1)) : x_M l yX6_leastAlike cX6_leastAlike 5 (some .int) 1 22 E [.ref (ad 699), .int a1, .ref (ap a2 0)] (cw E ad ap S) (cw E ad ap S1) (some (.int v)) :=
  x_entI (by decide) (Nat.le_of_ble_eq_true rfl) (fun p e s m args below meth c A Q ls hC hI hR hl => w_X6_leastAlike (r := (v, S1)) hC hR hI hl hf)
-- X6_neverMet
def f_X6_neverMet (n : Nat) (S : x_S) (a1 : Nat) : Option (Int32 × x_S) :=
x_b (f_X0_explore n S a1) (fun S =>
x_g (a1 < g_np S) (x_let (g_ps S 4 a1) (fun v2 =>
x_let (g_sc S 3) (fun v3 =>
some ((v2 - v3), S)))))
set_option maxHeartbeats 4000000 in
set_option maxRecDepth 100000 in
theorem w_X6_neverMet {r : Int32 × x_S} {a1 : Nat} (hC : x_C p s m args meth c cX6_neverMet 2 RX6 E A) (hR : x_Ri p l e { frames := 4, cells := 0, slots := 0, locals := 88 } s m args below meth c cX6_neverMet E A Q (cw E ad ap r.2) r.1) (hI : x_I E A s.heap (cw E ad ap S) H locs) (hl : lv_has ls 2 [(0, .ref (ad 699)), (1, .ref (ap a1 0))]) (hf : f_X6_neverMet n S a1 = some r) : W p l e { frames := 4, cells := 0, slots := 0, locals := 88 } s m args below meth c H locs 0 0 Q (F0 m 0 ls []) := by
  obtain ⟨hx, hb, hml, hown, hts, hK, hN, hA⟩ := id hC
  unfold f_X6_neverMet at hf
  refine lv_aload_n hx hb dX6_neverMet_0 rfl (lv_at hl 0 rfl) ?_
  refine gX6_4 hC hI lkf_X6_32 dX6_neverMet_1 ?_
  refine lv_aload_n hx hb dX6_neverMet_4 rfl (lv_at hl 1 rfl) ?_
  obtain ⟨S, hc1, hf⟩ := x_b_eq hf
  refine x_callV hC hI (c_X0_explore hc1) 1 0 rfl rfl kv_X6_205 rfl ⟨Nat.le_of_ble_eq_true rfl, Nat.le_of_ble_eq_true rfl⟩ ⟨Nat.le_refl _, Nat.le_refl _⟩ hl.1 rfl (Nat.le_of_ble_eq_true rfl) dX6_neverMet_5 (fun H locs hI => ?_)
  refine lv_aload_n hx hb dX6_neverMet_8 rfl (lv_at hl 1 rfl) ?_
  refine gX2_4 hC hI hf lkf_X6_76 dX6_neverMet_9 (fun v2 hf => ?_)
  refine lv_aload_n hx hb dX6_neverMet_12 rfl (lv_at hl 0 rfl) ?_
  refine gX6_4 hC hI lkf_X6_32 dX6_neverMet_13 ?_
  refine gX0_3 hC hI hf lkf_X6_211 dX6_neverMet_16 (fun v3 hf => ?_)
  refine lv_isub hx hb dX6_neverMet_19 ?_
  obtain rfl := Option.some.inj hf
  exact hR _ _ _ _ hI dX6_neverMet_20
theorem c_X6_neverMet {a1 : Nat} {v : Int32} {S1 : x_S} (hf : f_X6_neverMet n S a1 = some (v, S1)) : x_M l yX6_neverMet cX6_neverMet 2 (some .int) 4 88 E [.ref (ad 699), .ref (ap a1 0)] (cw E ad ap S) (cw E ad ap S1) (some (.int v)) :=
  x_entI (by decide) (Nat.le_of_ble_eq_true rfl) (fun p e s m args below meth c A Q ls hC hI hR hl => w_X6_neverMet (r := (v, S1)) hC hR hI hl hf)
-- X2_hasCallOf
def f_X2_hasCallOf_32 (n : Nat) (rec2 : x_S × Nat × Int32 × Int32 → Option (Int32 × x_S)) (S : x_S) (a0 : Nat) (a1 : Int32) (a2 : Int32) : Option (Int32 × x_S) :=
rec2 (S, a0, a1, (a2 + (1 : Int32)))
set_option maxHeartbeats 4000000 in
set_option maxRecDepth 100000 in
theorem w_X2_hasCallOf_32 {r : Int32 × x_S} {a0 : Nat} {a1 : Int32} {a2 : Int32} {rec2 : x_S × Nat × Int32 × Int32 → Option (Int32 × x_S)} (hC : x_C p s m args meth c cX2_hasCallOf 3 RX2 E A) (hR : x_Rz p l e { frames := 0, cells := 0, slots := 0, locals := 0 } s m args below meth c cX2_hasCallOf E A Q (cw E ad ap r.2) r.1) (hrec2 : ∀ z : x_S × Nat × Int32 × Int32, rec2 z = some r → ∀ (H : Heap) (locs : List Loc) (ls : Array Slot), x_I E A s.heap (cw E ad ap z.1) H locs → lv_has ls 3 [(0, .ref (ap z.2.1 0)), (1, .int z.2.2.1), (2, .int z.2.2.2)] → W p l e { frames := 0, cells := 0, slots := 0, locals := 0 } s m args below meth c H locs 0 0 Q (F0 m 2 ls [])) (hI : x_I E A s.heap (cw E ad ap S) H locs) (hl : lv_has ls 3 [(0, .ref (ap a0 0)), (1, .int a1), (2, .int a2)]) (hf : f_X2_hasCallOf_32 n rec2 S a0 a1 a2 = some r) : W p l e { frames := 0, cells := 0, slots := 0, locals := 0 } s m args below meth c H locs 0 0 Q (F0 m 32 ls []) := by
  obtain ⟨hx, hb, hml, hown, hts, hK, hN, hA⟩ := id hC
  unfold f_X2_hasCallOf_32 at hf
  refine lv_iinc (v := (a2 + (1 : Int32))) (lv' := [(2, .int (a2 + (1 : Int32))), (0, .ref (ap a0 0)), (1, .int a1)]) hx hb dX2_hasCallOf_32 hl (k := 2) rfl rfl (by decide) rfl (fun ls hl => ?_)
  refine lv_goto (tgt := 2) hx hb dX2_hasCallOf_35 (by decide) ?_
  exact hrec2 _ hf _ _ _ hI (lv_sub hl [1, 2, 0] rfl)
def f_X2_hasCallOf_2 (n : Nat) (rec2 : x_S × Nat × Int32 × Int32 → Option (Int32 × x_S)) (S : x_S) (a0 : Nat) (a1 : Int32) (a2 : Int32) : Option (Int32 × x_S) :=
x_g (a0 < g_np S) (x_let (g_ps S 4 a0) (fun v1 =>
if v1 ≤ a2 then
x_g ((0 : Int32) = 0 ∨ (0 : Int32) = 1) (some ((0 : Int32), S))
else
x_g (a0 < g_np S) (
x_g (a0 < g_np S) (x_g (¬ (a2 < 0 ∨ 60 ≤ (a2).toNatClampNeg)) (x_let (g_pa S 0 a0 (a2).toNatClampNeg) (fun v2 =>
if v2 = (5 : Int32) then
x_g (a0 < g_np S) (
x_g (a0 < g_np S) (x_g (¬ (a2 < 0 ∨ 60 ≤ (a2).toNatClampNeg)) (x_let (g_pa S 1 a0 (a2).toNatClampNeg) (fun v3 =>
if v3 = a1 then
x_g ((1 : Int32) = 0 ∨ (1 : Int32) = 1) (some ((1 : Int32), S))
else
f_X2_hasCallOf_32 n rec2 S a0 a1 a2))))
else
f_X2_hasCallOf_32 n rec2 S a0 a1 a2))))))
set_option maxHeartbeats 4000000 in
set_option maxRecDepth 100000 in
theorem w_X2_hasCallOf_2 {r : Int32 × x_S} {a0 : Nat} {a1 : Int32} {a2 : Int32} {rec2 : x_S × Nat × Int32 × Int32 → Option (Int32 × x_S)} (hC : x_C p s m args meth c cX2_hasCallOf 3 RX2 E A) (hR : x_Rz p l e { frames := 0, cells := 0, slots := 0, locals := 0 } s m args below meth c cX2_hasCallOf E A Q (cw E ad ap r.2) r.1) (hrec2 : ∀ z : x_S × Nat × Int32 × Int32, rec2 z = some r → ∀ (H : Heap) (locs : List Loc) (ls : Array Slot), x_I E A s.heap (cw E ad ap z.1) H locs → lv_has ls 3 [(0, .ref (ap z.2.1 0)), (1, .int z.2.2.1), (2, .int z.2.2.2)] → W p l e { frames := 0, cells := 0, slots := 0, locals := 0 } s m args below meth c H locs 0 0 Q (F0 m 2 ls [])) (hI : x_I E A s.heap (cw E ad ap S) H locs) (hl : lv_has ls 3 [(0, .ref (ap a0 0)), (1, .int a1), (2, .int a2)]) (hf : f_X2_hasCallOf_2 n rec2 S a0 a1 a2 = some r) : W p l e { frames := 0, cells := 0, slots := 0, locals := 0 } s m args below meth c H locs 0 0 Q (F0 m 2 ls []) := by
  obtain ⟨hx, hb, hml, hown, hts, hK, hN, hA⟩ := id hC
  unfold f_X2_hasCallOf_2 at hf
  refine lv_iload_n hx hb dX2_hasCallOf_2 rfl (lv_at hl 2 rfl) ?_
  refine lv_aload_n hx hb dX2_hasCallOf_3 rfl (lv_at hl 0 rfl) ?_
  refine gX2_4 hC hI hf lkf_X2_24 dX2_hasCallOf_4 (fun v1 hf => ?_)
  refine x_ige hC 38 hf dX2_hasCallOf_7 (by decide) (fun hf => ?_) (fun hf => ?_)
  · refine lv_iconst (v := (0 : Int32)) hx hb dX2_hasCallOf_38 (by decide) ?_
    obtain ⟨h9, hf⟩ := x_g_eq hf
    obtain rfl := Option.some.inj hf
    exact hR _ _ _ _ h9 hI dX2_hasCallOf_39
  · refine lv_aload_n hx hb dX2_hasCallOf_10 rfl (lv_at hl 0 rfl) ?_
    refine gX2_0 hC hI hf lkf_X2_9 dX2_hasCallOf_11 (fun hf => ?_)
    refine lv_iload_n hx hb dX2_hasCallOf_14 rfl (lv_at hl 2 rfl) ?_
    refine aX2_0 hC hI hf dX2_hasCallOf_15 (fun v2 hf => ?_)
    refine lv_iconst (v := (5 : Int32)) hx hb dX2_hasCallOf_16 (by decide) ?_
    refine x_ine hC 32 hf dX2_hasCallOf_17 (by decide) (fun hf => ?_) (fun hf => ?_)
    · exact w_X2_hasCallOf_32 hC hR hrec2 hI (lv_sub hl [0, 1, 2] rfl) hf
    · refine lv_aload_n hx hb dX2_hasCallOf_20 rfl (lv_at hl 0 rfl) ?_
      refine gX2_1 hC hI hf lkf_X2_15 dX2_hasCallOf_21 (fun hf => ?_)
      refine lv_iload_n hx hb dX2_hasCallOf_24 rfl (lv_at hl 2 rfl) ?_
      refine aX2_1 hC hI hf dX2_hasCallOf_25 (fun v3 hf => ?_)
      refine lv_iload_n hx hb dX2_hasCallOf_26 rfl (lv_at hl 1 rfl) ?_
      refine x_ine hC 32 hf dX2_hasCallOf_27 (by decide) (fun hf => ?_) (fun hf => ?_)
      · exact w_X2_hasCallOf_32 hC hR hrec2 hI (lv_sub hl [0, 1, 2] rfl) hf
      · refine lv_iconst (v := (1 : Int32)) hx hb dX2_hasCallOf_30 (by decide) ?_
        obtain ⟨h9, hf⟩ := x_g_eq hf
        obtain rfl := Option.some.inj hf
        exact hR _ _ _ _ h9 hI dX2_hasCallOf_31
theorem w_X2_hasCallOf_2_loop {r : Int32 × x_S} (hC : x_C p s m args meth c cX2_hasCallOf 3 RX2 E A) (hR : x_Rz p l e { frames := 0, cells := 0, slots := 0, locals := 0 } s m args below meth c cX2_hasCallOf E A Q (cw E ad ap r.2) r.1) : ∀ (k : Nat) (z : x_S × Nat × Int32 × Int32), x_loop (fun rec z => f_X2_hasCallOf_2 n rec z.1 z.2.1 z.2.2.1 z.2.2.2) k z = some r → ∀ (H : Heap) (locs : List Loc) (ls : Array Slot), x_I E A s.heap (cw E ad ap z.1) H locs → lv_has ls 3 [(0, .ref (ap z.2.1 0)), (1, .int z.2.2.1), (2, .int z.2.2.2)] → W p l e { frames := 0, cells := 0, slots := 0, locals := 0 } s m args below meth c H locs 0 0 Q (F0 m 2 ls []) :=
  x_loop_ind (P := fun (z : x_S × Nat × Int32 × Int32) => ∀ (H : Heap) (locs : List Loc) (ls : Array Slot), x_I E A s.heap (cw E ad ap z.1) H locs → lv_has ls 3 [(0, .ref (ap z.2.1 0)), (1, .int z.2.2.1), (2, .int z.2.2.2)] → W p l e { frames := 0, cells := 0, slots := 0, locals := 0 } s m args below meth c H locs 0 0 Q (F0 m 2 ls [])) (fun rec hrec z hf H locs ls hI hl => w_X2_hasCallOf_2 hC hR hrec hI hl hf)
def f_X2_hasCallOf (n : Nat) (S : x_S) (a0 : Nat) (a1 : Int32) : Option (Int32 × x_S) :=
x_loop (fun rec z => f_X2_hasCallOf_2 n rec z.1 z.2.1 z.2.2.1 z.2.2.2) n (S, a0, a1, (0 : Int32))
set_option maxHeartbeats 4000000 in
set_option maxRecDepth 100000 in
theorem w_X2_hasCallOf {r : Int32 × x_S} {a0 : Nat} {a1 : Int32} (hC : x_C p s m args meth c cX2_hasCallOf 3 RX2 E A) (hR : x_Rz p l e { frames := 0, cells := 0, slots := 0, locals := 0 } s m args below meth c cX2_hasCallOf E A Q (cw E ad ap r.2) r.1) (hI : x_I E A s.heap (cw E ad ap S) H locs) (hl : lv_has ls 3 [(0, .ref (ap a0 0)), (1, .int a1)]) (hf : f_X2_hasCallOf n S a0 a1 = some r) : W p l e { frames := 0, cells := 0, slots := 0, locals := 0 } s m args below meth c H locs 0 0 Q (F0 m 0 ls []) := by
  obtain ⟨hx, hb, hml, hown, hts, hK, hN, hA⟩ := id hC
  unfold f_X2_hasCallOf at hf
  refine lv_iconst (v := (0 : Int32)) hx hb dX2_hasCallOf_0 (by decide) ?_
  refine lv_istore_n (lv' := [(2, .int (0 : Int32)), (0, .ref (ap a0 0)), (1, .int a1)]) hx hb dX2_hasCallOf_1 rfl hl (by decide) rfl (fun ls hl => ?_)
  exact w_X2_hasCallOf_2_loop hC hR _ _ hf _ _ _ hI (lv_sub hl [1, 2, 0] rfl)
theorem c_X2_hasCallOf {a0 : Nat} {a1 : Int32} {v : Int32} {S1 : x_S} (hf : f_X2_hasCallOf n S a0 a1 = some (v, S1)) : x_M l yX2_hasCallOf cX2_hasCallOf 3 (some .boolean) 0 0 E [.ref (ap a0 0), .int a1] (cw E ad ap S) (cw E ad ap S1) (some (.int v)) :=
  x_entZ (by decide) (Nat.le_of_ble_eq_true rfl) (fun p e s m args below meth c A Q ls hC hI hR hl => w_X2_hasCallOf (r := (v, S1)) hC hR hI hl hf)
-- X6_callersOf
def f_X6_callersOf_36 (n : Nat) (rec4 : x_S × Int32 × Int32 × Int32 → Option (Int32 × x_S)) (S : x_S) (a1 : Int32) (a2 : Int32) (a3 : Int32) : Option (Int32 × x_S) :=
rec4 (S, a1, a2, (a3 + (1 : Int32)))
set_option maxHeartbeats 4000000 in
set_option maxRecDepth 100000 in
theorem w_X6_callersOf_36 {r : Int32 × x_S} {a1 : Int32} {a2 : Int32} {a3 : Int32} {rec4 : x_S × Int32 × Int32 × Int32 → Option (Int32 × x_S)} (hC : x_C p s m args meth c cX6_callersOf 5 RX6 E A) (hR : x_Ri p l e { frames := 1, cells := 0, slots := 0, locals := 22 } s m args below meth c cX6_callersOf E A Q (cw E ad ap r.2) r.1) (hrec4 : ∀ z : x_S × Int32 × Int32 × Int32, rec4 z = some r → ∀ (H : Heap) (locs : List Loc) (ls : Array Slot), x_I E A s.heap (cw E ad ap z.1) H locs → lv_has ls 5 [(0, .ref (ad 699)), (1, .int z.2.1), (2, .int z.2.2.1), (3, .int z.2.2.2)] → W p l e { frames := 1, cells := 0, slots := 0, locals := 22 } s m args below meth c H locs 0 0 Q (F0 m 4 ls [])) (hI : x_I E A s.heap (cw E ad ap S) H locs) (hl : lv_has ls 5 [(0, .ref (ad 699)), (1, .int a1), (2, .int a2), (3, .int a3)]) (hf : f_X6_callersOf_36 n rec4 S a1 a2 a3 = some r) : W p l e { frames := 1, cells := 0, slots := 0, locals := 22 } s m args below meth c H locs 0 0 Q (F0 m 36 ls []) := by
  obtain ⟨hx, hb, hml, hown, hts, hK, hN, hA⟩ := id hC
  unfold f_X6_callersOf_36 at hf
  refine lv_iinc (v := (a3 + (1 : Int32))) (lv' := [(3, .int (a3 + (1 : Int32))), (0, .ref (ad 699)), (1, .int a1), (2, .int a2)]) hx hb dX6_callersOf_36 hl (k := 3) rfl rfl (by decide) rfl (fun ls hl => ?_)
  refine lv_goto (tgt := 4) hx hb dX6_callersOf_39 (by decide) ?_
  exact hrec4 _ hf _ _ _ hI (lv_sub hl [1, 2, 3, 0] rfl)
def f_X6_callersOf_4 (n : Nat) (rec4 : x_S × Int32 × Int32 × Int32 → Option (Int32 × x_S)) (S : x_S) (a1 : Int32) (a2 : Int32) (a3 : Int32) : Option (Int32 × x_S) :=
x_let (g_sc S 601) (fun v1 =>
if v1 ≤ a3 then
some (a2, S)
else
x_b2 (f_X6_find n S a3) (fun o3 S => x_o o3 (
f_X6_callersOf_36 n rec4 S a1 a2 a3) (fun i4 =>
x_g (i4 < g_np S) (x_b2 (f_X2_hasCallOf n S i4 a1) (fun v6 S =>
if v6 = 0 then
f_X6_callersOf_36 n rec4 S a1 a2 a3
else
f_X6_callersOf_36 n rec4 S a1 (a2 + (1 : Int32)) a3)))))
set_option maxHeartbeats 4000000 in
set_option maxRecDepth 100000 in
theorem w_X6_callersOf_4 {r : Int32 × x_S} {a1 : Int32} {a2 : Int32} {a3 : Int32} {rec4 : x_S × Int32 × Int32 × Int32 → Option (Int32 × x_S)} (hC : x_C p s m args meth c cX6_callersOf 5 RX6 E A) (hR : x_Ri p l e { frames := 1, cells := 0, slots := 0, locals := 22 } s m args below meth c cX6_callersOf E A Q (cw E ad ap r.2) r.1) (hrec4 : ∀ z : x_S × Int32 × Int32 × Int32, rec4 z = some r → ∀ (H : Heap) (locs : List Loc) (ls : Array Slot), x_I E A s.heap (cw E ad ap z.1) H locs → lv_has ls 5 [(0, .ref (ad 699)), (1, .int z.2.1), (2, .int z.2.2.1), (3, .int z.2.2.2)] → W p l e { frames := 1, cells := 0, slots := 0, locals := 22 } s m args below meth c H locs 0 0 Q (F0 m 4 ls [])) (hI : x_I E A s.heap (cw E ad ap S) H locs) (hl : lv_has ls 5 [(0, .ref (ad 699)), (1, .int a1), (2, .int a2), (3, .int a3)]) (hf : f_X6_callersOf_4 n rec4 S a1 a2 a3 = some r) : W p l e { frames := 1, cells := 0, slots := 0, locals := 22 } s m args below meth c H locs 0 0 Q (F0 m 4 ls []) := by
  obtain ⟨hx, hb, hml, hown, hts, hK, hN, hA⟩ := id hC
  unfold f_X6_callersOf_4 at hf
  refine lv_iload_n hx hb dX6_callersOf_4 rfl (lv_at hl 3 rfl) ?_
  refine lv_aload_n hx hb dX6_callersOf_5 rfl (lv_at hl 0 rfl) ?_
  refine gX6_1 hC hI hf lkf_X6_15 dX6_callersOf_6 (fun v1 hf => ?_)
  refine x_ige hC 42 hf dX6_callersOf_9 (by decide) (fun hf => ?_) (fun hf => ?_)
  · refine lv_iload_n hx hb dX6_callersOf_42 rfl (lv_at hl 2 rfl) ?_
    obtain rfl := Option.some.inj hf
    exact hR _ _ _ _ hI dX6_callersOf_43
  · refine lv_aload_n hx hb dX6_callersOf_12 rfl (lv_at hl 0 rfl) ?_
    refine lv_iload_n hx hb dX6_callersOf_13 rfl (lv_at hl 3 rfl) ?_
    obtain ⟨o3, S, hc2, hf⟩ := x_b2_eq hf
    refine x_callV hC hI (c_X6_find hc2) 0 6 rfl rfl kv_X6_68 rfl ⟨Nat.le_of_ble_eq_true rfl, Nat.le_of_ble_eq_true rfl⟩ ⟨Nat.le_refl _, Nat.le_refl _⟩ hl.1 rfl (Nat.le_of_ble_eq_true rfl) dX6_callersOf_14 (fun H locs hI => ?_)
    refine x_casesR hf (fun hf => ?_) (fun i4 hf => ?_)
    · refine lv_astoreN (lv' := [(4, .null), (0, .ref (ad 699)), (1, .int a1), (2, .int a2), (3, .int a3)]) hx hb dX6_callersOf_17 hl (by decide) rfl (fun ls hl => ?_)
      refine lv_aloadN hx hb dX6_callersOf_19 (lv_at hl 0 rfl) ?_
      refine lv_ifnullN (tgt := 36) hx hb dX6_callersOf_21 (by decide) ?_
      exact w_X6_callersOf_36 hC hR hrec4 hI (lv_sub hl [1, 2, 3, 4] rfl) hf
    · refine lv_astore (lv' := [(4, .ref (ap i4 0)), (0, .ref (ad 699)), (1, .int a1), (2, .int a2), (3, .int a3)]) hx hb dX6_callersOf_17 hl (by decide) rfl (fun ls hl => ?_)
      refine lv_aload hx hb dX6_callersOf_19 (lv_at hl 0 rfl) ?_
      refine lv_ifnull hx hb dX6_callersOf_21 ?_
      refine lv_aload hx hb dX6_callersOf_24 (lv_at hl 0 rfl) ?_
      refine lv_iload_n hx hb dX6_callersOf_26 rfl (lv_at hl 2 rfl) ?_
      obtain ⟨h9, hf⟩ := x_g_eq hf
      obtain ⟨v6, S, hc5, hf⟩ := x_b2_eq hf
      refine x_callV hC hI (c_X2_hasCallOf hc5) (36 + (5 * i4 + 0)) 2 (x_cw_get E ad ap _ i4 0 (by decide) h9) rfl kv_X6_214 rfl ⟨Nat.le_of_ble_eq_true rfl, Nat.le_of_ble_eq_true rfl⟩ ⟨Nat.le_refl _, Nat.le_refl _⟩ hl.1 rfl (Nat.le_of_ble_eq_true rfl) dX6_callersOf_27 (fun H locs hI => ?_)
      refine x_eq0 hC 36 hf dX6_callersOf_30 (by decide) (fun hf => ?_) (fun hf => ?_)
      · exact w_X6_callersOf_36 hC hR hrec4 hI (lv_sub hl [1, 2, 3, 4] rfl) hf
      · refine lv_iinc (v := (a2 + (1 : Int32))) (lv' := [(2, .int (a2 + (1 : Int32))), (4, .ref (ap i4 0)), (0, .ref (ad 699)), (1, .int a1), (3, .int a3)]) hx hb dX6_callersOf_33 hl (k := 3) rfl rfl (by decide) rfl (fun ls hl => ?_)
        exact w_X6_callersOf_36 hC hR hrec4 hI (lv_sub hl [2, 3, 0, 4] rfl) hf
theorem w_X6_callersOf_4_loop {r : Int32 × x_S} (hC : x_C p s m args meth c cX6_callersOf 5 RX6 E A) (hR : x_Ri p l e { frames := 1, cells := 0, slots := 0, locals := 22 } s m args below meth c cX6_callersOf E A Q (cw E ad ap r.2) r.1) : ∀ (k : Nat) (z : x_S × Int32 × Int32 × Int32), x_loop (fun rec z => f_X6_callersOf_4 n rec z.1 z.2.1 z.2.2.1 z.2.2.2) k z = some r → ∀ (H : Heap) (locs : List Loc) (ls : Array Slot), x_I E A s.heap (cw E ad ap z.1) H locs → lv_has ls 5 [(0, .ref (ad 699)), (1, .int z.2.1), (2, .int z.2.2.1), (3, .int z.2.2.2)] → W p l e { frames := 1, cells := 0, slots := 0, locals := 22 } s m args below meth c H locs 0 0 Q (F0 m 4 ls []) :=
  x_loop_ind (P := fun (z : x_S × Int32 × Int32 × Int32) => ∀ (H : Heap) (locs : List Loc) (ls : Array Slot), x_I E A s.heap (cw E ad ap z.1) H locs → lv_has ls 5 [(0, .ref (ad 699)), (1, .int z.2.1), (2, .int z.2.2.1), (3, .int z.2.2.2)] → W p l e { frames := 1, cells := 0, slots := 0, locals := 22 } s m args below meth c H locs 0 0 Q (F0 m 4 ls [])) (fun rec hrec z hf H locs ls hI hl => w_X6_callersOf_4 hC hR hrec hI hl hf)
def f_X6_callersOf (n : Nat) (S : x_S) (a1 : Int32) : Option (Int32 × x_S) :=
x_loop (fun rec z => f_X6_callersOf_4 n rec z.1 z.2.1 z.2.2.1 z.2.2.2) n (S, a1, (0 : Int32), (0 : Int32))
set_option maxHeartbeats 4000000 in
set_option maxRecDepth 100000 in
theorem w_X6_callersOf {r : Int32 × x_S} {a1 : Int32} (hC : x_C p s m args meth c cX6_callersOf 5 RX6 E A) (hR : x_Ri p l e { frames := 1, cells := 0, slots := 0, locals := 22 } s m args below meth c cX6_callersOf E A Q (cw E ad ap r.2) r.1) (hI : x_I E A s.heap (cw E ad ap S) H locs) (hl : lv_has ls 5 [(0, .ref (ad 699)), (1, .int a1)]) (hf : f_X6_callersOf n S a1 = some r) : W p l e { frames := 1, cells := 0, slots := 0, locals := 22 } s m args below meth c H locs 0 0 Q (F0 m 0 ls []) := by
  obtain ⟨hx, hb, hml, hown, hts, hK, hN, hA⟩ := id hC
  unfold f_X6_callersOf at hf
  refine lv_iconst (v := (0 : Int32)) hx hb dX6_callersOf_0 (by decide) ?_
  refine lv_istore_n (lv' := [(2, .int (0 : Int32)), (0, .ref (ad 699)), (1, .int a1)]) hx hb dX6_callersOf_1 rfl hl (by decide) rfl (fun ls hl => ?_)
  refine lv_iconst (v := (0 : Int32)) hx hb dX6_callersOf_2 (by decide) ?_
  refine lv_istore_n (lv' := [(3, .int (0 : Int32)), (2, .int (0 : Int32)), (0, .ref (ad 699)), (1, .int a1)]) hx hb dX6_callersOf_3 rfl hl (by decide) rfl (fun ls hl => ?_)
  exact w_X6_callersOf_4_loop hC hR _ _ hf _ _ _ hI (lv_sub hl [2, 3, 1, 0] rfl)
theorem c_X6_callersOf {a1 : Int32} {v : Int32} {S1 : x_S} (hf : f_X6_callersOf n S a1 = some (v, S1)) : x_M l yX6_callersOf cX6_callersOf 5 (some .int) 1 22 E [.ref (ad 699), .int a1] (cw E ad ap S) (cw E ad ap S1) (some (.int v)) :=
  x_entI (by decide) (Nat.le_of_ble_eq_true rfl) (fun p e s m args below meth c A Q ls hC hI hR hl => w_X6_callersOf (r := (v, S1)) hC hR hI hl hf)
-- X6_of
def f_X6_of_37 (n : Nat) (S : x_S) (a1 : Int32) (a2 : Int32) (a3 : Nat) : Option (Int32 × x_S) :=
if a2 = (0 : Int32) then
x_g (a3 < g_np S) (x_let (g_ps S 4 a3) (fun v4 =>
some (v4, S)))
else
if a2 = (1 : Int32) then
x_g (a3 < g_np S) (x_let (g_ps S 5 a3) (fun v5 =>
if v5 = 0 then
some ((0 : Int32), S)
else
some ((1 : Int32), S)))
else
if a2 = (2 : Int32) then
x_b2 (f_X6_leastAlike n S a1 a3) (fun v7 S =>
some (v7, S))
else
if a2 = (3 : Int32) then
x_b (f_X6_treeOf n S a1 a3) (fun S =>
x_let (g_sc S 408) (fun v9 =>
some (v9, S)))
else
if a2 = (4 : Int32) then
x_b (f_X6_treeOf n S a1 a3) (fun S =>
x_let (g_sc S 410) (fun v11 =>
some (v11, S)))
else
if a2 = (5 : Int32) then
x_b2 (f_X6_neverMet n S a3) (fun v13 S =>
some (v13, S))
else
if a2 = (6 : Int32) then
x_b (f_X6_treeOf n S a1 a3) (fun S =>
x_let (g_sc S 411) (fun v15 =>
some (v15, S)))
else
x_b2 (f_X6_callersOf n S a1) (fun v17 S =>
some (v17, S))
set_option maxHeartbeats 4000000 in
set_option maxRecDepth 100000 in
theorem w_X6_of_37 {r : Int32 × x_S} {a1 : Int32} {a2 : Int32} {a3 : Nat} (hC : x_C p s m args meth c cX6_of 4 RX6 E A) (hR : x_Ri p l e { frames := 6, cells := 0, slots := 0, locals := 139 } s m args below meth c cX6_of E A Q (cw E ad ap r.2) r.1) (hI : x_I E A s.heap (cw E ad ap S) H locs) (hl : lv_has ls 4 [(0, .ref (ad 699)), (1, .int a1), (2, .int a2), (3, .ref (ap a3 0))]) (hf : f_X6_of_37 n S a1 a2 a3 = some r) : W p l e { frames := 6, cells := 0, slots := 0, locals := 139 } s m args below meth c H locs 0 0 Q (F0 m 37 ls []) := by
  obtain ⟨hx, hb, hml, hown, hts, hK, hN, hA⟩ := id hC
  unfold f_X6_of_37 at hf
  refine lv_iload_n hx hb dX6_of_37 rfl (lv_at hl 2 rfl) ?_
  refine x_case hf (fun q10 hf => ?_) (fun q10 hf => ?_)
  · refine lv_tableIn (tgt := 80) hx hb dX6_of_38 (by rw [q10]; decide) (by rw [q10]; decide) (by rw [q10]; rfl) (by decide) ?_
    refine lv_aload_n hx hb dX6_of_80 rfl (lv_at hl 3 rfl) ?_
    refine gX2_4 hC hI hf lkf_X6_76 dX6_of_81 (fun v4 hf => ?_)
    obtain rfl := Option.some.inj hf
    exact hR _ _ _ _ hI dX6_of_84
  · refine x_case hf (fun q11 hf => ?_) (fun q11 hf => ?_)
    · refine lv_tableIn (tgt := 85) hx hb dX6_of_38 (by rw [q11]; decide) (by rw [q11]; decide) (by rw [q11]; rfl) (by decide) ?_
      refine lv_aload_n hx hb dX6_of_85 rfl (lv_at hl 3 rfl) ?_
      refine gX2_5 hC hI hf lkf_X6_99 dX6_of_86 (fun v5 hf => ?_)
      refine x_eq0 hC 96 hf dX6_of_89 (by decide) (fun hf => ?_) (fun hf => ?_)
      · refine lv_iconst (v := (0 : Int32)) hx hb dX6_of_96 (by decide) ?_
        obtain rfl := Option.some.inj hf
        exact hR _ _ _ _ hI dX6_of_97
      · refine lv_iconst (v := (1 : Int32)) hx hb dX6_of_92 (by decide) ?_
        refine lv_goto (tgt := 97) hx hb dX6_of_93 (by decide) ?_
        obtain rfl := Option.some.inj hf
        exact hR _ _ _ _ hI dX6_of_97
    · refine x_case hf (fun q12 hf => ?_) (fun q12 hf => ?_)
      · refine lv_tableIn (tgt := 98) hx hb dX6_of_38 (by rw [q12]; decide) (by rw [q12]; decide) (by rw [q12]; rfl) (by decide) ?_
        refine lv_aload_n hx hb dX6_of_98 rfl (lv_at hl 0 rfl) ?_
        refine lv_iload_n hx hb dX6_of_99 rfl (lv_at hl 1 rfl) ?_
        refine lv_aload_n hx hb dX6_of_100 rfl (lv_at hl 3 rfl) ?_
        obtain ⟨v7, S, hc6, hf⟩ := x_b2_eq hf
        refine x_callV hC hI (c_X6_leastAlike hc6) 0 6 rfl rfl kv_X6_116 rfl ⟨Nat.le_of_ble_eq_true rfl, Nat.le_of_ble_eq_true rfl⟩ ⟨Nat.le_refl _, Nat.le_refl _⟩ hl.1 rfl (Nat.le_of_ble_eq_true rfl) dX6_of_101 (fun H locs hI => ?_)
        obtain rfl := Option.some.inj hf
        exact hR _ _ _ _ hI dX6_of_104
      · refine x_case hf (fun q13 hf => ?_) (fun q13 hf => ?_)
        · refine lv_tableIn (tgt := 105) hx hb dX6_of_38 (by rw [q13]; decide) (by rw [q13]; decide) (by rw [q13]; rfl) (by decide) ?_
          refine lv_aload_n hx hb dX6_of_105 rfl (lv_at hl 0 rfl) ?_
          refine lv_iload_n hx hb dX6_of_106 rfl (lv_at hl 1 rfl) ?_
          refine lv_aload_n hx hb dX6_of_107 rfl (lv_at hl 3 rfl) ?_
          obtain ⟨S, hc8, hf⟩ := x_b_eq hf
          refine x_callV hC hI (c_X6_treeOf hc8) 0 6 rfl rfl kv_X6_103 rfl ⟨Nat.le_of_ble_eq_true rfl, Nat.le_of_ble_eq_true rfl⟩ ⟨Nat.le_refl _, Nat.le_refl _⟩ hl.1 rfl (Nat.le_of_ble_eq_true rfl) dX6_of_108 (fun H locs hI => ?_)
          refine gX4_8 hC hI hf lkf_X6_120 dX6_of_111 (fun v9 hf => ?_)
          obtain rfl := Option.some.inj hf
          exact hR _ _ _ _ hI dX6_of_114
        · refine x_case hf (fun q14 hf => ?_) (fun q14 hf => ?_)
          · refine lv_tableIn (tgt := 115) hx hb dX6_of_38 (by rw [q14]; decide) (by rw [q14]; decide) (by rw [q14]; rfl) (by decide) ?_
            refine lv_aload_n hx hb dX6_of_115 rfl (lv_at hl 0 rfl) ?_
            refine lv_iload_n hx hb dX6_of_116 rfl (lv_at hl 1 rfl) ?_
            refine lv_aload_n hx hb dX6_of_117 rfl (lv_at hl 3 rfl) ?_
            obtain ⟨S, hc10, hf⟩ := x_b_eq hf
            refine x_callV hC hI (c_X6_treeOf hc10) 0 6 rfl rfl kv_X6_103 rfl ⟨Nat.le_of_ble_eq_true rfl, Nat.le_of_ble_eq_true rfl⟩ ⟨Nat.le_refl _, Nat.le_refl _⟩ hl.1 rfl (Nat.le_of_ble_eq_true rfl) dX6_of_118 (fun H locs hI => ?_)
            refine gX4_10 hC hI hf lkf_X6_123 dX6_of_121 (fun v11 hf => ?_)
            obtain rfl := Option.some.inj hf
            exact hR _ _ _ _ hI dX6_of_124
          · refine x_case hf (fun q15 hf => ?_) (fun q15 hf => ?_)
            · refine lv_tableIn (tgt := 125) hx hb dX6_of_38 (by rw [q15]; decide) (by rw [q15]; decide) (by rw [q15]; rfl) (by decide) ?_
              refine lv_aload_n hx hb dX6_of_125 rfl (lv_at hl 0 rfl) ?_
              refine lv_aload_n hx hb dX6_of_126 rfl (lv_at hl 3 rfl) ?_
              obtain ⟨v13, S, hc12, hf⟩ := x_b2_eq hf
              refine x_callV hC hI (c_X6_neverMet hc12) 0 6 rfl rfl kv_X6_126 rfl ⟨Nat.le_of_ble_eq_true rfl, Nat.le_of_ble_eq_true rfl⟩ ⟨Nat.le_refl _, Nat.le_refl _⟩ hl.1 rfl (Nat.le_of_ble_eq_true rfl) dX6_of_127 (fun H locs hI => ?_)
              obtain rfl := Option.some.inj hf
              exact hR _ _ _ _ hI dX6_of_130
            · refine x_case hf (fun q16 hf => ?_) (fun q16 hf => ?_)
              · refine lv_tableIn (tgt := 131) hx hb dX6_of_38 (by rw [q16]; decide) (by rw [q16]; decide) (by rw [q16]; rfl) (by decide) ?_
                refine lv_aload_n hx hb dX6_of_131 rfl (lv_at hl 0 rfl) ?_
                refine lv_iload_n hx hb dX6_of_132 rfl (lv_at hl 1 rfl) ?_
                refine lv_aload_n hx hb dX6_of_133 rfl (lv_at hl 3 rfl) ?_
                obtain ⟨S, hc14, hf⟩ := x_b_eq hf
                refine x_callV hC hI (c_X6_treeOf hc14) 0 6 rfl rfl kv_X6_103 rfl ⟨Nat.le_of_ble_eq_true rfl, Nat.le_of_ble_eq_true rfl⟩ ⟨Nat.le_refl _, Nat.le_refl _⟩ hl.1 rfl (Nat.le_of_ble_eq_true rfl) dX6_of_134 (fun H locs hI => ?_)
                refine gX4_11 hC hI hf lkf_X6_129 dX6_of_137 (fun v15 hf => ?_)
                obtain rfl := Option.some.inj hf
                exact hR _ _ _ _ hI dX6_of_140
              · refine lv_tableOut (tgt := 141) hx hb dX6_of_38 (by have z10 := lv_neT (a := 0) q10 (by decide); have z11 := lv_neT (a := 1) q11 (by decide); have z12 := lv_neT (a := 2) q12 (by decide); have z13 := lv_neT (a := 3) q13 (by decide); have z14 := lv_neT (a := 4) q14 (by decide); have z15 := lv_neT (a := 5) q15 (by decide); have z16 := lv_neT (a := 6) q16 (by decide); omega) (by decide) ?_
                refine lv_aload_n hx hb dX6_of_141 rfl (lv_at hl 0 rfl) ?_
                refine lv_iload_n hx hb dX6_of_142 rfl (lv_at hl 1 rfl) ?_
                obtain ⟨v17, S, hc16, hf⟩ := x_b2_eq hf
                refine x_callV hC hI (c_X6_callersOf hc16) 0 6 rfl rfl kv_X6_132 rfl ⟨Nat.le_of_ble_eq_true rfl, Nat.le_of_ble_eq_true rfl⟩ ⟨Nat.le_refl _, Nat.le_refl _⟩ hl.1 rfl (Nat.le_of_ble_eq_true rfl) dX6_of_143 (fun H locs hI => ?_)
                obtain rfl := Option.some.inj hf
                exact hR _ _ _ _ hI dX6_of_146
def f_X6_of (n : Nat) (S : x_S) (a1 : Int32) (a2 : Int32) : Option (Int32 × x_S) :=
x_b2 (f_X6_find n S a1) (fun o2 S => x_o o2 (
some ((-2 : Int32), S)) (fun i3 =>
if a2 < 0 then
some ((-2 : Int32), S)
else
if a2 ≤ (7 : Int32) then
if a2 < (3 : Int32) then
f_X6_of_37 n S a1 a2 i3
else
x_g (i3 < g_np S) (x_let (g_ps S 5 i3) (fun v18 =>
if v18 = 0 then
some ((-1 : Int32), S)
else
f_X6_of_37 n S a1 a2 i3))
else
some ((-2 : Int32), S)))
set_option maxHeartbeats 4000000 in
set_option maxRecDepth 100000 in
theorem w_X6_of {r : Int32 × x_S} {a1 : Int32} {a2 : Int32} (hC : x_C p s m args meth c cX6_of 4 RX6 E A) (hR : x_Ri p l e { frames := 6, cells := 0, slots := 0, locals := 139 } s m args below meth c cX6_of E A Q (cw E ad ap r.2) r.1) (hI : x_I E A s.heap (cw E ad ap S) H locs) (hl : lv_has ls 4 [(0, .ref (ad 699)), (1, .int a1), (2, .int a2)]) (hf : f_X6_of n S a1 a2 = some r) : W p l e { frames := 6, cells := 0, slots := 0, locals := 139 } s m args below meth c H locs 0 0 Q (F0 m 0 ls []) := by
  obtain ⟨hx, hb, hml, hown, hts, hK, hN, hA⟩ := id hC
  unfold f_X6_of at hf
  refine lv_aload_n hx hb dX6_of_0 rfl (lv_at hl 0 rfl) ?_
  refine lv_iload_n hx hb dX6_of_1 rfl (lv_at hl 1 rfl) ?_
  obtain ⟨o2, S, hc1, hf⟩ := x_b2_eq hf
  refine x_callV hC hI (c_X6_find hc1) 0 6 rfl rfl kv_X6_68 rfl ⟨Nat.le_of_ble_eq_true rfl, Nat.le_of_ble_eq_true rfl⟩ ⟨Nat.le_refl _, Nat.le_refl _⟩ hl.1 rfl (Nat.le_of_ble_eq_true rfl) dX6_of_2 (fun H locs hI => ?_)
  refine x_casesR hf (fun hf => ?_) (fun i3 hf => ?_)
  · refine lv_astore_nN (lv' := [(3, .null), (0, .ref (ad 699)), (1, .int a1), (2, .int a2)]) hx hb dX6_of_5 rfl hl (by decide) rfl (fun ls hl => ?_)
    refine lv_aload_nN hx hb dX6_of_6 rfl (lv_at hl 0 rfl) ?_
    refine lv_ifnullN (tgt := 20) hx hb dX6_of_7 (by decide) ?_
    refine lv_bipush (v := (-2 : Int32)) hx hb dX6_of_20 (by decide) ?_
    obtain rfl := Option.some.inj hf
    exact hR _ _ _ _ hI dX6_of_22
  · refine lv_astore_n (lv' := [(3, .ref (ap i3 0)), (0, .ref (ad 699)), (1, .int a1), (2, .int a2)]) hx hb dX6_of_5 rfl hl (by decide) rfl (fun ls hl => ?_)
    refine lv_aload_n hx hb dX6_of_6 rfl (lv_at hl 0 rfl) ?_
    refine lv_ifnull hx hb dX6_of_7 ?_
    refine lv_iload_n hx hb dX6_of_10 rfl (lv_at hl 3 rfl) ?_
    refine x_lt0 hC 20 hf dX6_of_11 (by decide) (fun hf => ?_) (fun hf => ?_)
    · refine lv_bipush (v := (-2 : Int32)) hx hb dX6_of_20 (by decide) ?_
      obtain rfl := Option.some.inj hf
      exact hR _ _ _ _ hI dX6_of_22
    · refine lv_iload_n hx hb dX6_of_14 rfl (lv_at hl 3 rfl) ?_
      refine lv_bipush (v := (7 : Int32)) hx hb dX6_of_15 (by decide) ?_
      refine x_ile hC 23 hf dX6_of_17 (by decide) (fun hf => ?_) (fun hf => ?_)
      · refine lv_iload_n hx hb dX6_of_23 rfl (lv_at hl 3 rfl) ?_
        refine lv_iconst (v := (3 : Int32)) hx hb dX6_of_24 (by decide) ?_
        refine x_ilt hC 37 hf dX6_of_25 (by decide) (fun hf => ?_) (fun hf => ?_)
        · exact w_X6_of_37 hC hR hI (lv_sub hl [1, 2, 3, 0] rfl) hf
        · refine lv_aload_n hx hb dX6_of_28 rfl (lv_at hl 0 rfl) ?_
          refine gX2_5 hC hI hf lkf_X6_99 dX6_of_29 (fun v18 hf => ?_)
          refine x_ne0 hC 37 hf dX6_of_32 (by decide) (fun hf => ?_) (fun hf => ?_)
          · exact w_X6_of_37 hC hR hI (lv_sub hl [1, 2, 3, 0] rfl) hf
          · refine lv_iconst (v := (-1 : Int32)) hx hb dX6_of_35 (by decide) ?_
            obtain rfl := Option.some.inj hf
            exact hR _ _ _ _ hI dX6_of_36
      · refine lv_bipush (v := (-2 : Int32)) hx hb dX6_of_20 (by decide) ?_
        obtain rfl := Option.some.inj hf
        exact hR _ _ _ _ hI dX6_of_22
theorem c_X6_of {a1 : Int32} {a2 : Int32} {v : Int32} {S1 : x_S} (hf : f_X6_of n S a1 a2 = some (v, S1)) : x_M l yX6_of cX6_of 4 (some .int) 6 139 E [.ref (ad 699), .int a1, .int a2] (cw E ad ap S) (cw E ad ap S1) (some (.int v)) :=
  x_entI (by decide) (Nat.le_of_ble_eq_true rfl) (fun p e s m args below meth c A Q ls hC hI hR hl => w_X6_of (r := (v, S1)) hC hR hI hl hf)
-- X4_has
def f_X4_has (n : Nat) (S : x_S) (a1 : Int32) : Option (Int32 × x_S) :=
if a1 < 0 then
x_g ((0 : Int32) = 0 ∨ (0 : Int32) = 1) (some ((0 : Int32), S))
else
x_let (g_sc S 408) (fun v1 =>
if v1 ≤ a1 then
x_g ((0 : Int32) = 0 ∨ (0 : Int32) = 1) (some ((0 : Int32), S))
else
x_g ((1 : Int32) = 0 ∨ (1 : Int32) = 1) (some ((1 : Int32), S)))
set_option maxHeartbeats 4000000 in
set_option maxRecDepth 100000 in
theorem w_X4_has {r : Int32 × x_S} {a1 : Int32} (hC : x_C p s m args meth c cX4_has 2 RX4 E A) (hR : x_Rz p l e { frames := 0, cells := 0, slots := 0, locals := 0 } s m args below meth c cX4_has E A Q (cw E ad ap r.2) r.1) (hI : x_I E A s.heap (cw E ad ap S) H locs) (hl : lv_has ls 2 [(0, .ref (ad 499)), (1, .int a1)]) (hf : f_X4_has n S a1 = some r) : W p l e { frames := 0, cells := 0, slots := 0, locals := 0 } s m args below meth c H locs 0 0 Q (F0 m 0 ls []) := by
  obtain ⟨hx, hb, hml, hown, hts, hK, hN, hA⟩ := id hC
  unfold f_X4_has at hf
  refine lv_iload_n hx hb dX4_has_0 rfl (lv_at hl 1 rfl) ?_
  refine x_lt0 hC 16 hf dX4_has_1 (by decide) (fun hf => ?_) (fun hf => ?_)
  · refine lv_iconst (v := (0 : Int32)) hx hb dX4_has_16 (by decide) ?_
    obtain ⟨h9, hf⟩ := x_g_eq hf
    obtain rfl := Option.some.inj hf
    exact hR _ _ _ _ h9 hI dX4_has_17
  · refine lv_iload_n hx hb dX4_has_4 rfl (lv_at hl 1 rfl) ?_
    refine lv_aload_n hx hb dX4_has_5 rfl (lv_at hl 0 rfl) ?_
    refine gX4_8 hC hI hf lkf_X4_36 dX4_has_6 (fun v1 hf => ?_)
    refine x_ige hC 16 hf dX4_has_9 (by decide) (fun hf => ?_) (fun hf => ?_)
    · refine lv_iconst (v := (0 : Int32)) hx hb dX4_has_16 (by decide) ?_
      obtain ⟨h9, hf⟩ := x_g_eq hf
      obtain rfl := Option.some.inj hf
      exact hR _ _ _ _ h9 hI dX4_has_17
    · refine lv_iconst (v := (1 : Int32)) hx hb dX4_has_12 (by decide) ?_
      refine lv_goto (tgt := 17) hx hb dX4_has_13 (by decide) ?_
      obtain ⟨h9, hf⟩ := x_g_eq hf
      obtain rfl := Option.some.inj hf
      exact hR _ _ _ _ h9 hI dX4_has_17
theorem c_X4_has {a1 : Int32} {v : Int32} {S1 : x_S} (hf : f_X4_has n S a1 = some (v, S1)) : x_M l yX4_has cX4_has 2 (some .boolean) 0 0 E [.ref (ad 499), .int a1] (cw E ad ap S) (cw E ad ap S1) (some (.int v)) :=
  x_entZ (by decide) (Nat.le_of_ble_eq_true rfl) (fun p e s m args below meth c A Q ls hC hI hR hl => w_X4_has (r := (v, S1)) hC hR hI hl hf)
end
