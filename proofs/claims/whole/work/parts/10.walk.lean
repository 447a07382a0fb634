section
variable {p : Program} {l : Launch} {e : Env} {s : State} {m : MethodId} {args : Array Value} {below : List Frame} {meth : Method} {c : Code} {H : Heap} {locs : List Loc} {Q : State → Prop}
variable {E : x_E} {A : Nat → Prop} {ls : Array Slot} {ad : Nat → Nat} {ap : Nat → Nat → Nat} {S : x_S} {w : va_W} {n : Nat}
-- X6_feed
def f_X6_feed (n : Nat) (S : x_S) (a1 : Int32) : Option (Int32 × x_S) :=
x_let (g_sc S 606) (fun v1 =>
if v1 < (300 : Int32) then
x_let (g_sc S 606) (fun v2 =>
x_g (¬ (v2 < 0 ∨ 300 ≤ (v2).toNatClampNeg)) (x_let (s_ar S 605 (v2).toNatClampNeg a1) (fun S =>
x_let (g_sc S 606) (fun v3 =>
x_let (s_sc S 606 (v3 + (1 : Int32))) (fun S =>
x_let (g_sc S 606) (fun v4 =>
some (v4, S)))))))
else
some ((-4 : Int32), S))
set_option maxHeartbeats 4000000 in
set_option maxRecDepth 100000 in
theorem w_X6_feed {r : Int32 × x_S} {a1 : Int32} (hC : x_C p s m args meth c cX6_feed 2 RX6 E A) (hR : x_Ri p l e { frames := 0, cells := 0, slots := 0, locals := 0 } s m args below meth c cX6_feed E A Q (cw E ad ap r.2) r.1) (hI : x_I E A s.heap (cw E ad ap S) H locs) (hl : lv_has ls 2 [(0, .ref (ad 699)), (1, .int a1)]) (hf : f_X6_feed n S a1 = some r) : W p l e { frames := 0, cells := 0, slots := 0, locals := 0 } s m args below meth c H locs 0 0 Q (F0 m 0 ls []) := by
  obtain ⟨hx, hb, hml, hown, hts, hK, hN, hA⟩ := id hC
  unfold f_X6_feed at hf
  refine lv_aload_n hx hb dX6_feed_0 rfl (lv_at hl 0 rfl) ?_
  refine gX6_6 hC hI hf lkf_X6_40 dX6_feed_1 (fun v1 hf => ?_)
  refine lv_sipush (v := (300 : Int32)) hx hb dX6_feed_4 (by decide) ?_
  refine x_ilt hC 13 hf dX6_feed_7 (by decide) (fun hf => ?_) (fun hf => ?_)
  · refine lv_aload_n hx hb dX6_feed_13 rfl (lv_at hl 0 rfl) ?_
    refine gX6_5 hC hI lkf_X6_36 dX6_feed_14 ?_
    refine lv_aload_n hx hb dX6_feed_17 rfl (lv_at hl 0 rfl) ?_
    refine gX6_6 hC hI hf lkf_X6_40 dX6_feed_18 (fun v2 hf => ?_)
    refine lv_iload_n hx hb dX6_feed_21 rfl (lv_at hl 1 rfl) ?_
    refine tX6_5 hC hI hf dX6_feed_22 (fun S H locs hI hf => ?_)
    refine lv_aload_n hx hb dX6_feed_23 rfl (lv_at hl 0 rfl) ?_
    refine lv_dup hx hb dX6_feed_24 rfl ?_
    refine gX6_6 hC hI hf lkf_X6_40 dX6_feed_25 (fun v3 hf => ?_)
    refine lv_iconst (v := (1 : Int32)) hx hb dX6_feed_28 (by decide) ?_
    refine lv_iadd hx hb dX6_feed_29 ?_
    refine pX6_6 hC hI hf lkf_X6_40 dX6_feed_30 (fun S H locs hI hf => ?_)
    refine lv_aload_n hx hb dX6_feed_33 rfl (lv_at hl 0 rfl) ?_
    refine gX6_6 hC hI hf lkf_X6_40 dX6_feed_34 (fun v4 hf => ?_)
    obtain rfl := Option.some.inj hf
    exact hR _ _ _ _ hI dX6_feed_37
  · refine lv_bipush (v := (-4 : Int32)) hx hb dX6_feed_10 (by decide) ?_
    obtain rfl := Option.some.inj hf
    exact hR _ _ _ _ hI dX6_feed_12
theorem c_X6_feed {a1 : Int32} {v : Int32} {S1 : x_S} (hf : f_X6_feed n S a1 = some (v, S1)) : x_M l yX6_feed cX6_feed 2 (some .int) 0 0 E [.ref (ad 699), .int a1] (cw E ad ap S) (cw E ad ap S1) (some (.int v)) :=
  x_entI (by decide) (Nat.le_of_ble_eq_true rfl) (fun p e s m args below meth c A Q ls hC hI hR hl => w_X6_feed (r := (v, S1)) hC hR hI hl hf)
-- X6_fault
def f_X6_fault (n : Nat) (S : x_S) : Option (Int32 × x_S) :=
x_let (g_sc S 608) (fun v1 =>
some (v1, S))
set_option maxHeartbeats 4000000 in
set_option maxRecDepth 100000 in
theorem w_X6_fault {r : Int32 × x_S} (hC : x_C p s m args meth c cX6_fault 1 RX6 E A) (hR : x_Ri p l e { frames := 0, cells := 0, slots := 0, locals := 0 } s m args below meth c cX6_fault E A Q (cw E ad ap r.2) r.1) (hI : x_I E A s.heap (cw E ad ap S) H locs) (hl : lv_has ls 1 [(0, .ref (ad 699))]) (hf : f_X6_fault n S = some r) : W p l e { frames := 0, cells := 0, slots := 0, locals := 0 } s m args below meth c H locs 0 0 Q (F0 m 0 ls []) := by
  obtain ⟨hx, hb, hml, hown, hts, hK, hN, hA⟩ := id hC
  unfold f_X6_fault at hf
  refine lv_aload_n hx hb dX6_fault_0 rfl (lv_at hl 0 rfl) ?_
  refine gX6_8 hC hI hf lkf_X6_50 dX6_fault_1 (fun v1 hf => ?_)
  obtain rfl := Option.some.inj hf
  exact hR _ _ _ _ hI dX6_fault_4
theorem c_X6_fault {v : Int32} {S1 : x_S} (hf : f_X6_fault n S = some (v, S1)) : x_M l yX6_fault cX6_fault 1 (some .int) 0 0 E [.ref (ad 699)] (cw E ad ap S) (cw E ad ap S1) (some (.int v)) :=
  x_entI (by decide) (Nat.le_of_ble_eq_true rfl) (fun p e s m args below meth c A Q ls hC hI hR hl => w_X6_fault (r := (v, S1)) hC hR hI hl hf)
-- X6_find
def f_X6_find (n : Nat) (S : x_S) (a1 : Int32) : Option (Option Nat × x_S) :=
if a1 < 0 then
some (none, S)
else
x_let (g_sc S 601) (fun v1 =>
if a1 < v1 then
x_g (¬ (a1 < 0 ∨ 12 ≤ (a1).toNatClampNeg)) (x_let (g_ra S 600 (a1).toNatClampNeg) (fun o2 => x_o o2 (
some (none, S)) (fun i3 =>
some (some i3, S))))
else
some (none, S))
set_option maxHeartbeats 4000000 in
set_option maxRecDepth 100000 in
theorem w_X6_find {r : Option Nat × x_S} {a1 : Int32} (hC : x_C p s m args meth c cX6_find 2 RX6 E A) (hR : x_Ra p l e { frames := 0, cells := 0, slots := 0, locals := 0 } s m args below meth c cX6_find E A Q (cw E ad ap r.2) (r.1.map (fun i => ap i 0))) (hI : x_I E A s.heap (cw E ad ap S) H locs) (hl : lv_has ls 2 [(0, .ref (ad 699)), (1, .int a1)]) (hf : f_X6_find n S a1 = some r) : W p l e { frames := 0, cells := 0, slots := 0, locals := 0 } s m args below meth c H locs 0 0 Q (F0 m 0 ls []) := by
  obtain ⟨hx, hb, hml, hown, hts, hK, hN, hA⟩ := id hC
  unfold f_X6_find at hf
  refine lv_iload_n hx hb dX6_find_0 rfl (lv_at hl 1 rfl) ?_
  refine x_lt0 hC 12 hf dX6_find_1 (by decide) (fun hf => ?_) (fun hf => ?_)
  · refine lv_null hx hb dX6_find_12 ?_
    refine lv_goto (tgt := 22) hx hb dX6_find_13 (by decide) ?_
    obtain rfl := Option.some.inj hf
    exact hR _ _ _ _ hI dX6_find_22
  · refine lv_iload_n hx hb dX6_find_4 rfl (lv_at hl 1 rfl) ?_
    refine lv_aload_n hx hb dX6_find_5 rfl (lv_at hl 0 rfl) ?_
    refine gX6_1 hC hI hf lkf_X6_15 dX6_find_6 (fun v1 hf => ?_)
    refine x_ilt hC 16 hf dX6_find_9 (by decide) (fun hf => ?_) (fun hf => ?_)
    · refine lv_aload_n hx hb dX6_find_16 rfl (lv_at hl 0 rfl) ?_
      refine gX6_0 hC hI lkf_X6_11 dX6_find_17 ?_
      refine lv_iload_n hx hb dX6_find_20 rfl (lv_at hl 1 rfl) ?_
      refine aX6_0 hC hI hf dX6_find_21 (fun o2 hf => ?_)
      refine x_casesR hf (fun hf => ?_) (fun i3 hf => ?_)
      · obtain rfl := Option.some.inj hf
        exact hR _ _ _ _ hI dX6_find_22
      · obtain rfl := Option.some.inj hf
        exact hR _ _ _ _ hI dX6_find_22
    · refine lv_null hx hb dX6_find_12 ?_
      refine lv_goto (tgt := 22) hx hb dX6_find_13 (by decide) ?_
      obtain rfl := Option.some.inj hf
      exact hR _ _ _ _ hI dX6_find_22
theorem c_X6_find {a1 : Int32} {v : Option Nat} {S1 : x_S} (hf : f_X6_find n S a1 = some (v, S1)) : x_M l yX6_find cX6_find 2 (some (.object "StoryDecompile$Routine")) 0 0 E [.ref (ad 699), .int a1] (cw E ad ap S) (cw E ad ap S1) (some (x_rr ap v)) :=
  x_entA (by decide) (Nat.le_of_ble_eq_true rfl) (fun p e s m args below meth c A Q ls hC hI hR hl => w_X6_find (r := (v, S1)) hC hR hI hl hf)
-- X2_isAlike
def f_X2_isAlike_15 (n : Nat) (rec15 : x_S × Nat × Nat × Int32 → Option (Int32 × x_S)) (S : x_S) (a0 : Nat) (a1 : Nat) (a2 : Int32) : Option (Int32 × x_S) :=
x_g (a0 < g_np S) (x_let (g_ps S 4 a0) (fun v3 =>
if v3 ≤ a2 then
x_g ((1 : Int32) = 0 ∨ (1 : Int32) = 1) (some ((1 : Int32), S))
else
x_g (a0 < g_np S) (
x_g (a0 < g_np S) (x_g (¬ (a2 < 0 ∨ 60 ≤ (a2).toNatClampNeg)) (x_let (g_pa S 0 a0 (a2).toNatClampNeg) (fun v4 =>
x_g (a1 < g_np S) (
x_g (a1 < g_np S) (x_g (¬ (a2 < 0 ∨ 60 ≤ (a2).toNatClampNeg)) (x_let (g_pa S 0 a1 (a2).toNatClampNeg) (fun v5 =>
if v4 = v5 then
x_g (a0 < g_np S) (
x_g (a0 < g_np S) (x_g (¬ (a2 < 0 ∨ 60 ≤ (a2).toNatClampNeg)) (x_let (g_pa S 1 a0 (a2).toNatClampNeg) (fun v6 =>
x_g (a1 < g_np S) (
x_g (a1 < g_np S) (x_g (¬ (a2 < 0 ∨ 60 ≤ (a2).toNatClampNeg)) (x_let (g_pa S 1 a1 (a2).toNatClampNeg) (fun v7 =>
if v6 = v7 then
x_g (a0 < g_np S) (
x_g (a0 < g_np S) (x_g (¬ (a2 < 0 ∨ 60 ≤ (a2).toNatClampNeg)) (x_let (g_pa S 2 a0 (a2).toNatClampNeg) (fun v8 =>
x_g (a1 < g_np S) (
x_g (a1 < g_np S) (x_g (¬ (a2 < 0 ∨ 60 ≤ (a2).toNatClampNeg)) (x_let (g_pa S 2 a1 (a2).toNatClampNeg) (fun v9 =>
if v8 = v9 then
x_g (a0 < g_np S) (
x_g (a0 < g_np S) (x_g (¬ (a2 < 0 ∨ 60 ≤ (a2).toNatClampNeg)) (x_let (g_pa S 3 a0 (a2).toNatClampNeg) (fun v10 =>
x_g (a1 < g_np S) (
x_g (a1 < g_np S) (x_g (¬ (a2 < 0 ∨ 60 ≤ (a2).toNatClampNeg)) (x_let (g_pa S 3 a1 (a2).toNatClampNeg) (fun v11 =>
if v10 = v11 then
rec15 (S, a0, a1, (a2 + (1 : Int32)))
else
x_g ((0 : Int32) = 0 ∨ (0 : Int32) = 1) (some ((0 : Int32), S))))))))))
else
x_g ((0 : Int32) = 0 ∨ (0 : Int32) = 1) (some ((0 : Int32), S))))))))))
else
x_g ((0 : Int32) = 0 ∨ (0 : Int32) = 1) (some ((0 : Int32), S))))))))))
else
x_g ((0 : Int32) = 0 ∨ (0 : Int32) = 1) (some ((0 : Int32), S))))))))))))
set_option maxHeartbeats 4000000 in
set_option maxRecDepth 100000 in
theorem w_X2_isAlike_15 {r : Int32 × x_S} {a0 : Nat} {a1 : Nat} {a2 : Int32} {rec15 : x_S × Nat × Nat × Int32 → Option (Int32 × x_S)} (hC : x_C p s m args meth c cX2_isAlike 3 RX2 E A) (hR : x_Rz p l e { frames := 0, cells := 0, slots := 0, locals := 0 } s m args below meth c cX2_isAlike E A Q (cw E ad ap r.2) r.1) (hrec15 : ∀ z : x_S × Nat × Nat × Int32, rec15 z = some r → ∀ (H : Heap) (locs : List Loc) (ls : Array Slot), x_I E A s.heap (cw E ad ap z.1) H locs → lv_has ls 3 [(0, .ref (ap z.2.1 0)), (1, .ref (ap z.2.2.1 0)), (2, .int z.2.2.2)] → W p l e { frames := 0, cells := 0, slots := 0, locals := 0 } s m args below meth c H locs 0 0 Q (F0 m 15 ls [])) (hI : x_I E A s.heap (cw E ad ap S) H locs) (hl : lv_has ls 3 [(0, .ref (ap a0 0)), (1, .ref (ap a1 0)), (2, .int a2)]) (hf : f_X2_isAlike_15 n rec15 S a0 a1 a2 = some r) : W p l e { frames := 0, cells := 0, slots := 0, locals := 0 } s m args below meth c H locs 0 0 Q (F0 m 15 ls []) := by
  obtain ⟨hx, hb, hml, hown, hts, hK, hN, hA⟩ := id hC
  unfold f_X2_isAlike_15 at hf
  refine lv_iload_n hx hb dX2_isAlike_15 rfl (lv_at hl 2 rfl) ?_
  refine lv_aload_n hx hb dX2_isAlike_16 rfl (lv_at hl 0 rfl) ?_
  refine gX2_4 hC hI hf lkf_X2_24 dX2_isAlike_17 (fun v3 hf => ?_)
  refine x_ige hC 91 hf dX2_isAlike_20 (by decide) (fun hf => ?_) (fun hf => ?_)
  · refine lv_iconst (v := (1 : Int32)) hx hb dX2_isAlike_91 (by decide) ?_
    obtain ⟨h9, hf⟩ := x_g_eq hf
    obtain rfl := Option.some.inj hf
    exact hR _ _ _ _ h9 hI dX2_isAlike_92
  · refine lv_aload_n hx hb dX2_isAlike_23 rfl (lv_at hl 0 rfl) ?_
    refine gX2_0 hC hI hf lkf_X2_9 dX2_isAlike_24 (fun hf => ?_)
    refine lv_iload_n hx hb dX2_isAlike_27 rfl (lv_at hl 2 rfl) ?_
    refine aX2_0 hC hI hf dX2_isAlike_28 (fun v4 hf => ?_)
    refine lv_aload_n hx hb dX2_isAlike_29 rfl (lv_at hl 1 rfl) ?_
    refine gX2_0 hC hI hf lkf_X2_9 dX2_isAlike_30 (fun hf => ?_)
    refine lv_iload_n hx hb dX2_isAlike_33 rfl (lv_at hl 2 rfl) ?_
    refine aX2_0 hC hI hf dX2_isAlike_34 (fun v5 hf => ?_)
    refine x_ine hC 83 hf dX2_isAlike_35 (by decide) (fun hf => ?_) (fun hf => ?_)
    · refine lv_iconst (v := (0 : Int32)) hx hb dX2_isAlike_83 (by decide) ?_
      obtain ⟨h9, hf⟩ := x_g_eq hf
      obtain rfl := Option.some.inj hf
      exact hR _ _ _ _ h9 hI dX2_isAlike_84
    · refine lv_aload_n hx hb dX2_isAlike_38 rfl (lv_at hl 0 rfl) ?_
      refine gX2_1 hC hI hf lkf_X2_15 dX2_isAlike_39 (fun hf => ?_)
      refine lv_iload_n hx hb dX2_isAlike_42 rfl (lv_at hl 2 rfl) ?_
      refine aX2_1 hC hI hf dX2_isAlike_43 (fun v6 hf => ?_)
      refine lv_aload_n hx hb dX2_isAlike_44 rfl (lv_at hl 1 rfl) ?_
      refine gX2_1 hC hI hf lkf_X2_15 dX2_isAlike_45 (fun hf => ?_)
      refine lv_iload_n hx hb dX2_isAlike_48 rfl (lv_at hl 2 rfl) ?_
      refine aX2_1 hC hI hf dX2_isAlike_49 (fun v7 hf => ?_)
      refine x_ine hC 83 hf dX2_isAlike_50 (by decide) (fun hf => ?_) (fun hf => ?_)
      · refine lv_iconst (v := (0 : Int32)) hx hb dX2_isAlike_83 (by decide) ?_
        obtain ⟨h9, hf⟩ := x_g_eq hf
        obtain rfl := Option.some.inj hf
        exact hR _ _ _ _ h9 hI dX2_isAlike_84
      · refine lv_aload_n hx hb dX2_isAlike_53 rfl (lv_at hl 0 rfl) ?_
        refine gX2_2 hC hI hf lkf_X2_18 dX2_isAlike_54 (fun hf => ?_)
        refine lv_iload_n hx hb dX2_isAlike_57 rfl (lv_at hl 2 rfl) ?_
        refine aX2_2 hC hI hf dX2_isAlike_58 (fun v8 hf => ?_)
        refine lv_aload_n hx hb dX2_isAlike_59 rfl (lv_at hl 1 rfl) ?_
        refine gX2_2 hC hI hf lkf_X2_18 dX2_isAlike_60 (fun hf => ?_)
        refine lv_iload_n hx hb dX2_isAlike_63 rfl (lv_at hl 2 rfl) ?_
        refine aX2_2 hC hI hf dX2_isAlike_64 (fun v9 hf => ?_)
        refine x_ine hC 83 hf dX2_isAlike_65 (by decide) (fun hf => ?_) (fun hf => ?_)
        · refine lv_iconst (v := (0 : Int32)) hx hb dX2_isAlike_83 (by decide) ?_
          obtain ⟨h9, hf⟩ := x_g_eq hf
          obtain rfl := Option.some.inj hf
          exact hR _ _ _ _ h9 hI dX2_isAlike_84
        · refine lv_aload_n hx hb dX2_isAlike_68 rfl (lv_at hl 0 rfl) ?_
          refine gX2_3 hC hI hf lkf_X2_21 dX2_isAlike_69 (fun hf => ?_)
          refine lv_iload_n hx hb dX2_isAlike_72 rfl (lv_at hl 2 rfl) ?_
          refine aX2_3 hC hI hf dX2_isAlike_73 (fun v10 hf => ?_)
          refine lv_aload_n hx hb dX2_isAlike_74 rfl (lv_at hl 1 rfl) ?_
          refine gX2_3 hC hI hf lkf_X2_21 dX2_isAlike_75 (fun hf => ?_)
          refine lv_iload_n hx hb dX2_isAlike_78 rfl (lv_at hl 2 rfl) ?_
          refine aX2_3 hC hI hf dX2_isAlike_79 (fun v11 hf => ?_)
          refine x_ieq hC 85 hf dX2_isAlike_80 (by decide) (fun hf => ?_) (fun hf => ?_)
          · refine lv_iinc (v := (a2 + (1 : Int32))) (lv' := [(2, .int (a2 + (1 : Int32))), (0, .ref (ap a0 0)), (1, .ref (ap a1 0))]) hx hb dX2_isAlike_85 hl (k := 2) rfl rfl (by decide) rfl (fun ls hl => ?_)
            refine lv_goto (tgt := 15) hx hb dX2_isAlike_88 (by decide) ?_
            exact hrec15 _ hf _ _ _ hI (lv_sub hl [1, 2, 0] rfl)
          · refine lv_iconst (v := (0 : Int32)) hx hb dX2_isAlike_83 (by decide) ?_
            obtain ⟨h9, hf⟩ := x_g_eq hf
            obtain rfl := Option.some.inj hf
            exact hR _ _ _ _ h9 hI dX2_isAlike_84
theorem w_X2_isAlike_15_loop {r : Int32 × x_S} (hC : x_C p s m args meth c cX2_isAlike 3 RX2 E A) (hR : x_Rz p l e { frames := 0, cells := 0, slots := 0, locals := 0 } s m args below meth c cX2_isAlike E A Q (cw E ad ap r.2) r.1) : ∀ (k : Nat) (z : x_S × Nat × Nat × Int32), x_loop (fun rec z => f_X2_isAlike_15 n rec z.1 z.2.1 z.2.2.1 z.2.2.2) k z = some r → ∀ (H : Heap) (locs : List Loc) (ls : Array Slot), x_I E A s.heap (cw E ad ap z.1) H locs → lv_has ls 3 [(0, .ref (ap z.2.1 0)), (1, .ref (ap z.2.2.1 0)), (2, .int z.2.2.2)] → W p l e { frames := 0, cells := 0, slots := 0, locals := 0 } s m args below meth c H locs 0 0 Q (F0 m 15 ls []) :=
  x_loop_ind (P := fun (z : x_S × Nat × Nat × Int32) => ∀ (H : Heap) (locs : List Loc) (ls : Array Slot), x_I E A s.heap (cw E ad ap z.1) H locs → lv_has ls 3 [(0, .ref (ap z.2.1 0)), (1, .ref (ap z.2.2.1 0)), (2, .int z.2.2.2)] → W p l e { frames := 0, cells := 0, slots := 0, locals := 0 } s m args below meth c H locs 0 0 Q (F0 m 15 ls [])) (fun rec hrec z hf H locs ls hI hl => w_X2_isAlike_15 hC hR hrec hI hl hf)
def f_X2_isAlike (n : Nat) (S : x_S) (a0 : Nat) (a1 : Nat) : Option (Int32 × x_S) :=
x_g (a0 < g_np S) (x_let (g_ps S 4 a0) (fun v1 =>
x_g (a1 < g_np S) (x_let (g_ps S 4 a1) (fun v2 =>
if v1 = v2 then
x_loop (fun rec z => f_X2_isAlike_15 n rec z.1 z.2.1 z.2.2.1 z.2.2.2) n (S, a0, a1, (0 : Int32))
else
x_g ((0 : Int32) = 0 ∨ (0 : Int32) = 1) (some ((0 : Int32), S))))))
set_option maxHeartbeats 4000000 in
set_option maxRecDepth 100000 in
theorem w_X2_isAlike {r : Int32 × x_S} {a0 : Nat} {a1 : Nat} (hC : x_C p s m args meth c cX2_isAlike 3 RX2 E A) (hR : x_Rz p l e { frames := 0, cells := 0, slots := 0, locals := 0 } s m args below meth c cX2_isAlike E A Q (cw E ad ap r.2) r.1) (hI : x_I E A s.heap (cw E ad ap S) H locs) (hl : lv_has ls 3 [(0, .ref (ap a0 0)), (1, .ref (ap a1 0))]) (hf : f_X2_isAlike n S a0 a1 = some r) : W p l e { frames := 0, cells := 0, slots := 0, locals := 0 } s m args below meth c H locs 0 0 Q (F0 m 0 ls []) := by
  obtain ⟨hx, hb, hml, hown, hts, hK, hN, hA⟩ := id hC
  unfold f_X2_isAlike at hf
  refine lv_aload_n hx hb dX2_isAlike_0 rfl (lv_at hl 0 rfl) ?_
  refine gX2_4 hC hI hf lkf_X2_24 dX2_isAlike_1 (fun v1 hf => ?_)
  refine lv_aload_n hx hb dX2_isAlike_4 rfl (lv_at hl 1 rfl) ?_
  refine gX2_4 hC hI hf lkf_X2_24 dX2_isAlike_5 (fun v2 hf => ?_)
  refine x_ieq hC 13 hf dX2_isAlike_8 (by decide) (fun hf => ?_) (fun hf => ?_)
  · refine lv_iconst (v := (0 : Int32)) hx hb dX2_isAlike_13 (by decide) ?_
    refine lv_istore_n (lv' := [(2, .int (0 : Int32)), (0, .ref (ap a0 0)), (1, .ref (ap a1 0))]) hx hb dX2_isAlike_14 rfl hl (by decide) rfl (fun ls hl => ?_)
    exact w_X2_isAlike_15_loop hC hR _ _ hf _ _ _ hI (lv_sub hl [1, 2, 0] rfl)
  · refine lv_iconst (v := (0 : Int32)) hx hb dX2_isAlike_11 (by decide) ?_
    obtain ⟨h9, hf⟩ := x_g_eq hf
    obtain rfl := Option.some.inj hf
    exact hR _ _ _ _ h9 hI dX2_isAlike_12
theorem c_X2_isAlike {a0 : Nat} {a1 : Nat} {v : Int32} {S1 : x_S} (hf : f_X2_isAlike n S a0 a1 = some (v, S1)) : x_M l yX2_isAlike cX2_isAlike 3 (some .boolean) 0 0 E [.ref (ap a0 0), .ref (ap a1 0)] (cw E ad ap S) (cw E ad ap S1) (some (.int v)) :=
  x_entZ (by decide) (Nat.le_of_ble_eq_true rfl) (fun p e s m args below meth c A Q ls hC hI hR hl => w_X2_isAlike (r := (v, S1)) hC hR hI hl hf)
-- X6_like
def f_X6_like (n : Nat) (S : x_S) (a1 : Int32) (a2 : Int32) : Option (Int32 × x_S) :=
x_b2 (f_X6_find n S a1) (fun o2 S => x_o o2 (
x_b2 (f_X6_find n S a2) (fun o5 S => x_o o5 (
some ((-2 : Int32), S)) (fun i6 =>
some ((-2 : Int32), S)))) (fun i3 =>
x_b2 (f_X6_find n S a2) (fun o8 S => x_o o8 (
some ((-2 : Int32), S)) (fun i9 =>
x_g (i3 < g_np S) (x_b2 (f_X2_isAlike n S i3 i9) (fun v11 S =>
if v11 = 0 then
some ((0 : Int32), S)
else
some ((1 : Int32), S)))))))
set_option maxHeartbeats 4000000 in
set_option maxRecDepth 100000 in
theorem w_X6_like {r : Int32 × x_S} {a1 : Int32} {a2 : Int32} (hC : x_C p s m args meth c cX6_like 5 RX6 E A) (hR : x_Ri p l e { frames := 1, cells := 0, slots := 0, locals := 22 } s m args below meth c cX6_like E A Q (cw E ad ap r.2) r.1) (hI : x_I E A s.heap (cw E ad ap S) H locs) (hl : lv_has ls 5 [(0, .ref (ad 699)), (1, .int a1), (2, .int a2)]) (hf : f_X6_like n S a1 a2 = some r) : W p l e { frames := 1, cells := 0, slots := 0, locals := 22 } s m args below meth c H locs 0 0 Q (F0 m 0 ls []) := by
  obtain ⟨hx, hb, hml, hown, hts, hK, hN, hA⟩ := id hC
  unfold f_X6_like at hf
  refine lv_aload_n hx hb dX6_like_0 rfl (lv_at hl 0 rfl) ?_
  refine lv_iload_n hx hb dX6_like_1 rfl (lv_at hl 1 rfl) ?_
  obtain ⟨o2, S, hc1, hf⟩ := x_b2_eq hf
  refine x_callV hC hI (c_X6_find hc1) 0 6 rfl rfl kv_X6_68 rfl ⟨Nat.le_of_ble_eq_true rfl, Nat.le_of_ble_eq_true rfl⟩ ⟨Nat.le_refl _, Nat.le_refl _⟩ hl.1 rfl (Nat.le_of_ble_eq_true rfl) dX6_like_2 (fun H locs hI => ?_)
  refine x_casesR hf (fun hf => ?_) (fun i3 hf => ?_)
  · refine lv_astore_nN (lv' := [(3, .null), (0, .ref (ad 699)), (1, .int a1), (2, .int a2)]) hx hb dX6_like_5 rfl hl (by decide) rfl (fun ls hl => ?_)
    refine lv_aload_n hx hb dX6_like_6 rfl (lv_at hl 1 rfl) ?_
    refine lv_iload_n hx hb dX6_like_7 rfl (lv_at hl 3 rfl) ?_
    obtain ⟨o5, S, hc4, hf⟩ := x_b2_eq hf
    refine x_callV hC hI (c_X6_find hc4) 0 6 rfl rfl kv_X6_68 rfl ⟨Nat.le_of_ble_eq_true rfl, Nat.le_of_ble_eq_true rfl⟩ ⟨Nat.le_refl _, Nat.le_refl _⟩ hl.1 rfl (Nat.le_of_ble_eq_true rfl) dX6_like_8 (fun H locs hI => ?_)
    refine x_casesR hf (fun hf => ?_) (fun i6 hf => ?_)
    · refine lv_astoreN (lv' := [(4, .null), (3, .null), (0, .ref (ad 699)), (1, .int a1), (2, .int a2)]) hx hb dX6_like_11 hl (by decide) rfl (fun ls hl => ?_)
      refine lv_aload_nN hx hb dX6_like_13 rfl (lv_at hl 1 rfl) ?_
      refine lv_ifnullN (tgt := 22) hx hb dX6_like_14 (by decide) ?_
      refine lv_bipush (v := (-2 : Int32)) hx hb dX6_like_22 (by decide) ?_
      obtain rfl := Option.some.inj hf
      exact hR _ _ _ _ hI dX6_like_24
    · refine lv_astore (lv' := [(4, .ref (ap i6 0)), (3, .null), (0, .ref (ad 699)), (1, .int a1), (2, .int a2)]) hx hb dX6_like_11 hl (by decide) rfl (fun ls hl => ?_)
      refine lv_aload_nN hx hb dX6_like_13 rfl (lv_at hl 1 rfl) ?_
      refine lv_ifnullN (tgt := 22) hx hb dX6_like_14 (by decide) ?_
      refine lv_bipush (v := (-2 : Int32)) hx hb dX6_like_22 (by decide) ?_
      obtain rfl := Option.some.inj hf
      exact hR _ _ _ _ hI dX6_like_24
  · refine lv_astore_n (lv' := [(3, .ref (ap i3 0)), (0, .ref (ad 699)), (1, .int a1), (2, .int a2)]) hx hb dX6_like_5 rfl hl (by decide) rfl (fun ls hl => ?_)
    refine lv_aload_n hx hb dX6_like_6 rfl (lv_at hl 1 rfl) ?_
    refine lv_iload_n hx hb dX6_like_7 rfl (lv_at hl 3 rfl) ?_
    obtain ⟨o8, S, hc7, hf⟩ := x_b2_eq hf
    refine x_callV hC hI (c_X6_find hc7) 0 6 rfl rfl kv_X6_68 rfl ⟨Nat.le_of_ble_eq_true rfl, Nat.le_of_ble_eq_true rfl⟩ ⟨Nat.le_refl _, Nat.le_refl _⟩ hl.1 rfl (Nat.le_of_ble_eq_true rfl) dX6_like_8 (fun H locs hI => ?_)
    refine x_casesR hf (fun hf => ?_) (fun i9 hf => ?_)
    · refine lv_astoreN (lv' := [(4, .null), (3, .ref (ap i3 0)), (0, .ref (ad 699)), (1, .int a1), (2, .int a2)]) hx hb dX6_like_11 hl (by decide) rfl (fun ls hl => ?_)
      refine lv_aload_n hx hb dX6_like_13 rfl (lv_at hl 1 rfl) ?_
      refine lv_ifnull hx hb dX6_like_14 ?_
      refine lv_aloadN hx hb dX6_like_17 (lv_at hl 0 rfl) ?_
      refine lv_ifnonnullN hx hb dX6_like_19 ?_
      refine lv_bipush (v := (-2 : Int32)) hx hb dX6_like_22 (by decide) ?_
      obtain rfl := Option.some.inj hf
      exact hR _ _ _ _ hI dX6_like_24
    · refine lv_astore (lv' := [(4, .ref (ap i9 0)), (3, .ref (ap i3 0)), (0, .ref (ad 699)), (1, .int a1), (2, .int a2)]) hx hb dX6_like_11 hl (by decide) rfl (fun ls hl => ?_)
      refine lv_aload_n hx hb dX6_like_13 rfl (lv_at hl 1 rfl) ?_
      refine lv_ifnull hx hb dX6_like_14 ?_
      refine lv_aload hx hb dX6_like_17 (lv_at hl 0 rfl) ?_
      refine lv_ifnonnull (tgt := 25) hx hb dX6_like_19 (by decide) ?_
      refine lv_aload_n hx hb dX6_like_25 rfl (lv_at hl 1 rfl) ?_
      refine lv_aload hx hb dX6_like_26 (lv_at hl 0 rfl) ?_
      obtain ⟨h9, hf⟩ := x_g_eq hf
      obtain ⟨v11, S, hc10, hf⟩ := x_b2_eq hf
      refine x_callV hC hI (c_X2_isAlike hc10) (36 + (5 * i3 + 0)) 2 (x_cw_get E ad ap _ i3 0 (by decide) h9) rfl kv_X6_156 rfl ⟨Nat.le_of_ble_eq_true rfl, Nat.le_of_ble_eq_true rfl⟩ ⟨Nat.le_refl _, Nat.le_refl _⟩ hl.1 rfl (Nat.le_of_ble_eq_true rfl) dX6_like_28 (fun H locs hI => ?_)
      refine x_eq0 hC 38 hf dX6_like_31 (by decide) (fun hf => ?_) (fun hf => ?_)
      · refine lv_iconst (v := (0 : Int32)) hx hb dX6_like_38 (by decide) ?_
        obtain rfl := Option.some.inj hf
        exact hR _ _ _ _ hI dX6_like_39
      · refine lv_iconst (v := (1 : Int32)) hx hb dX6_like_34 (by decide) ?_
        refine lv_goto (tgt := 39) hx hb dX6_like_35 (by decide) ?_
        obtain rfl := Option.some.inj hf
        exact hR _ _ _ _ hI dX6_like_39
theorem c_X6_like {a1 : Int32} {a2 : Int32} {v : Int32} {S1 : x_S} (hf : f_X6_like n S a1 a2 = some (v, S1)) : x_M l yX6_like cX6_like 5 (some .int) 1 22 E [.ref (ad 699), .int a1, .int a2] (cw E ad ap S) (cw E ad ap S1) (some (.int v)) :=
  x_entI (by decide) (Nat.le_of_ble_eq_true rfl) (fun p e s m args below meth c A Q ls hC hI hR hl => w_X6_like (r := (v, S1)) hC hR hI hl hf)
-- X6_set
def f_X6_set (n : Nat) (S : x_S) (a1 : Int32) (a2 : Int32) : Option (Int32 × x_S) :=
if a1 < 0 then
some ((-2 : Int32), S)
else
if a1 < (4 : Int32) then
x_g (¬ (a1 < 0 ∨ 4 ≤ (a1).toNatClampNeg)) (x_let (g_ar S 609 (a1).toNatClampNeg) (fun v1 =>
x_g (¬ (a1 < 0 ∨ 4 ≤ (a1).toNatClampNeg)) (x_let (s_ar S 609 (a1).toNatClampNeg a2) (fun S =>
some (v1, S)))))
else
some ((-2 : Int32), S)
set_option maxHeartbeats 4000000 in
set_option maxRecDepth 100000 in
theorem w_X6_set {r : Int32 × x_S} {a1 : Int32} {a2 : Int32} (hC : x_C p s m args meth c cX6_set 4 RX6 E A) (hR : x_Ri p l e { frames := 0, cells := 0, slots := 0, locals := 0 } s m args below meth c cX6_set E A Q (cw E ad ap r.2) r.1) (hI : x_I E A s.heap (cw E ad ap S) H locs) (hl : lv_has ls 4 [(0, .ref (ad 699)), (1, .int a1), (2, .int a2)]) (hf : f_X6_set n S a1 a2 = some r) : W p l e { frames := 0, cells := 0, slots := 0, locals := 0 } s m args below meth c H locs 0 0 Q (F0 m 0 ls []) := by
  obtain ⟨hx, hb, hml, hown, hts, hK, hN, hA⟩ := id hC
  unfold f_X6_set at hf
  refine lv_iload_n hx hb dX6_set_0 rfl (lv_at hl 1 rfl) ?_
  refine x_lt0 hC 9 hf dX6_set_1 (by decide) (fun hf => ?_) (fun hf => ?_)
  · refine lv_bipush (v := (-2 : Int32)) hx hb dX6_set_9 (by decide) ?_
    obtain rfl := Option.some.inj hf
    exact hR _ _ _ _ hI dX6_set_11
  · refine lv_iload_n hx hb dX6_set_4 rfl (lv_at hl 1 rfl) ?_
    refine lv_iconst (v := (4 : Int32)) hx hb dX6_set_5 (by decide) ?_
    refine x_ilt hC 12 hf dX6_set_6 (by decide) (fun hf => ?_) (fun hf => ?_)
    · refine lv_aload_n hx hb dX6_set_12 rfl (lv_at hl 0 rfl) ?_
      refine gX6_9 hC hI lkf_X6_53 dX6_set_13 ?_
      refine lv_iload_n hx hb dX6_set_16 rfl (lv_at hl 1 rfl) ?_
      refine aX6_9 hC hI hf dX6_set_17 (fun v1 hf => ?_)
      refine lv_istore_n (lv' := [(3, .int v1), (0, .ref (ad 699)), (1, .int a1), (2, .int a2)]) hx hb dX6_set_18 rfl hl (by decide) rfl (fun ls hl => ?_)
      refine lv_aload_n hx hb dX6_set_19 rfl (lv_at hl 1 rfl) ?_
      refine gX6_9 hC hI lkf_X6_53 dX6_set_20 ?_
      refine lv_iload_n hx hb dX6_set_23 rfl (lv_at hl 2 rfl) ?_
      refine lv_iload_n hx hb dX6_set_24 rfl (lv_at hl 3 rfl) ?_
      refine tX6_9 hC hI hf dX6_set_25 (fun S H locs hI hf => ?_)
      refine lv_iload_n hx hb dX6_set_26 rfl (lv_at hl 0 rfl) ?_
      obtain rfl := Option.some.inj hf
      exact hR _ _ _ _ hI dX6_set_27
    · refine lv_bipush (v := (-2 : Int32)) hx hb dX6_set_9 (by decide) ?_
      obtain rfl := Option.some.inj hf
      exact hR _ _ _ _ hI dX6_set_11
theorem c_X6_set {a1 : Int32} {a2 : Int32} {v : Int32} {S1 : x_S} (hf : f_X6_set n S a1 a2 = some (v, S1)) : x_M l yX6_set cX6_set 4 (some .int) 0 0 E [.ref (ad 699), .int a1, .int a2] (cw E ad ap S) (cw E ad ap S1) (some (.int v)) :=
  x_entI (by decide) (Nat.le_of_ble_eq_true rfl) (fun p e s m args below meth c A Q ls hC hI hR hl => w_X6_set (r := (v, S1)) hC hR hI hl hf)
end
