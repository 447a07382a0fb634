section
variable {p : Program} {l : Launch} {e : Env} {s : State} {m : MethodId} {args : Array Value} {below : List Frame} {meth : Method} {c : Code} {H : Heap} {locs : List Loc} {Q : State → Prop}
variable {E : x_E} {A : Nat → Prop} {ls : Array Slot} {ad : Nat → Nat} {ap : Nat → Nat → Nat} {S : x_S} {w : va_W} {n : Nat}
-- X6_find
def f_X6_find (n : Nat) (S : x_S) (a1 : Int32) : Option (Option Nat × x_S) :=
if a1 < 0 then
some (none, S)
else
x_let (g_sc S 601) (fun v1 =>
if a1 < v1 then
x_g (¬ (a1 < 0 ∨ 12 ≤ (a1).toNatClampNeg)) (x_let (g_ra S 600 (a1).toNatClampNeg) (fun o2 => x_o o2 (
some (none, S)) (fun i3 =>
some (some i3, S))))
else
some (none, S))
set_option maxHeartbeats 4000000 in
set_option maxRecDepth 100000 in
theorem w_X6_find {r : Option Nat × x_S} {a1 : Int32} (hC : x_C p s m args meth c cX6_find 2 RX6 E A) (hR : x_Ra p l e { frames := 0, cells := 0, slots := 0, locals := 0 } s m args below meth c cX6_find E A Q (cw E ad ap r.2) (r.1.map (fun i => ap i 0))) (hI : x_I E A s.heap (cw E ad ap S) H locs) (hl : lv_has ls 2 [(0, .ref (ad 699)), (1, .int a1)]) (hf : f_X6_find n S a1 = some r) : W p l e { frames := 0, cells := 0, slots := 0, locals := 0 } s m args below meth c H locs 0 0 Q (F0 m 0 ls []) := by
  obtain ⟨hx, hb, hml, hown, hts, hK, hN, hA⟩ := id hC
  unfold f_X6_find at hf
  refine lv_iload_n hx hb dX6_find_0 rfl (lv_at hl 1 rfl) ?_
  refine x_lt0 hC 12 hf dX6_find_1 (by decide) (fun hf => ?_) (fun hf => ?_)
  · refine lv_null hx hb dX6_find_12 ?_
    refine lv_goto (tgt := 22) hx hb dX6_find_13 (by decide) ?_
    obtain rfl := Option.some.inj hf
    exact hR _ _ _ _ hI dX6_find_22
  · refine lv_iload_n hx hb dX6_find_4 rfl (lv_at hl 1 rfl) ?_
    refine lv_aload_n hx hb dX6_find_5 rfl (lv_at hl 0 rfl) ?_
    refine gX6_1 hC hI hf lkf_X6_15 dX6_find_6 (fun v1 hf => ?_)
    refine x_ilt hC 16 hf dX6_find_9 (by decide) (fun hf => ?_) (fun hf => ?_)
    · refine lv_aload_n hx hb dX6_find_16 rfl (lv_at hl 0 rfl) ?_
      refine gX6_0 hC hI lkf_X6_11 dX6_find_17 ?_
      refine lv_iload_n hx hb dX6_find_20 rfl (lv_at hl 1 rfl) ?_
      refine aX6_0 hC hI hf dX6_find_21 (fun o2 hf => ?_)
      refine x_casesR hf (fun hf => ?_) (fun i3 hf => ?_)
      · obtain rfl := Option.some.inj hf
        exact hR _ _ _ _ hI dX6_find_22
      · obtain rfl := Option.some.inj hf
        exact hR _ _ _ _ hI dX6_find_22
    · refine lv_null hx hb dX6_find_12 ?_
      refine lv_goto (tgt := 22) hx hb dX6_find_13 (by decide) ?_
      obtain rfl := Option.some.inj hf
      exact hR _ _ _ _ hI dX6_find_22
theorem c_X6_find {a1 : Int32} {v : Option Nat} {S1 : x_S} (hf : f_X6_find n S a1 = some (v, S1)) : x_M l yX6_find cX6_find 2 (some (.object "StoryDecompile$Routine")) 0 0 E [.ref (ad 699), .int a1] (cw E ad ap S) (cw E ad ap S1) (some (x_rr ap v)) :=
  x_entA (by decide) (Nat.le_of_ble_eq_true rfl) (fun p e s m args below meth c A Q ls hC hI hR hl => w_X6_find (r := (v, S1)) hC hR hI hl hf)
-- X6_usesA
def f_X6_usesA (n : Nat) (a0 : Int32) : Option (Int32) :=
if a0 = (2 : Int32) then
x_g ((0 : Int32) = 0 ∨ (0 : Int32) = 1) (some (0 : Int32))
else
if a0 = (4 : Int32) then
x_g ((0 : Int32) = 0 ∨ (0 : Int32) = 1) (some (0 : Int32))
else
x_g ((1 : Int32) = 0 ∨ (1 : Int32) = 1) (some (1 : Int32))
set_option maxHeartbeats 4000000 in
set_option maxRecDepth 100000 in
theorem w_X6_usesA {r : Int32} {a0 : Int32} (hC : x_C p s m args meth c cX6_usesA 1 RX6 E A) (hR : x_Rz p l e { frames := 0, cells := 0, slots := 0, locals := 0 } s m args below meth c cX6_usesA E A Q w r) (hI : x_I E A s.heap w H locs) (hl : lv_has ls 1 [(0, .int a0)]) (hf : f_X6_usesA n a0 = some r) : W p l e { frames := 0, cells := 0, slots := 0, locals := 0 } s m args below meth c H locs 0 0 Q (F0 m 0 ls []) := by
  obtain ⟨hx, hb, hml, hown, hts, hK, hN, hA⟩ := id hC
  unfold f_X6_usesA at hf
  refine lv_iload_n hx hb dX6_usesA_0 rfl (lv_at hl 0 rfl) ?_
  refine lv_iconst (v := (2 : Int32)) hx hb dX6_usesA_1 (by decide) ?_
  refine x_ieq hC 14 hf dX6_usesA_2 (by decide) (fun hf => ?_) (fun hf => ?_)
  · refine lv_iconst (v := (0 : Int32)) hx hb dX6_usesA_14 (by decide) ?_
    obtain ⟨h9, hf⟩ := x_g_eq hf
    obtain rfl := Option.some.inj hf
    exact hR _ _ _ _ h9 hI dX6_usesA_15
  · refine lv_iload_n hx hb dX6_usesA_5 rfl (lv_at hl 0 rfl) ?_
    refine lv_iconst (v := (4 : Int32)) hx hb dX6_usesA_6 (by decide) ?_
    refine x_ieq hC 14 hf dX6_usesA_7 (by decide) (fun hf => ?_) (fun hf => ?_)
    · refine lv_iconst (v := (0 : Int32)) hx hb dX6_usesA_14 (by decide) ?_
      obtain ⟨h9, hf⟩ := x_g_eq hf
      obtain rfl := Option.some.inj hf
      exact hR _ _ _ _ h9 hI dX6_usesA_15
    · refine lv_iconst (v := (1 : Int32)) hx hb dX6_usesA_10 (by decide) ?_
      refine lv_goto (tgt := 15) hx hb dX6_usesA_11 (by decide) ?_
      obtain ⟨h9, hf⟩ := x_g_eq hf
      obtain rfl := Option.some.inj hf
      exact hR _ _ _ _ h9 hI dX6_usesA_15
theorem c_X6_usesA {a0 : Int32} {v : Int32} (hf : f_X6_usesA n a0 = some v) : x_M l yX6_usesA cX6_usesA 1 (some .boolean) 0 0 E [.int a0] w w (some (.int v)) :=
  x_entZ (by decide) (Nat.le_of_ble_eq_true rfl) (fun p e s m args below meth c A Q ls hC hI hR hl => w_X6_usesA (r := v) hC hR hI hl hf)
-- X6_usesB
def f_X6_usesB (n : Nat) (a0 : Int32) : Option (Int32) :=
if a0 = (1 : Int32) then
x_g ((1 : Int32) = 0 ∨ (1 : Int32) = 1) (some (1 : Int32))
else
if a0 = (3 : Int32) then
x_g ((1 : Int32) = 0 ∨ (1 : Int32) = 1) (some (1 : Int32))
else
x_g ((0 : Int32) = 0 ∨ (0 : Int32) = 1) (some (0 : Int32))
set_option maxHeartbeats 4000000 in
set_option maxRecDepth 100000 in
theorem w_X6_usesB {r : Int32} {a0 : Int32} (hC : x_C p s m args meth c cX6_usesB 1 RX6 E A) (hR : x_Rz p l e { frames := 0, cells := 0, slots := 0, locals := 0 } s m args below meth c cX6_usesB E A Q w r) (hI : x_I E A s.heap w H locs) (hl : lv_has ls 1 [(0, .int a0)]) (hf : f_X6_usesB n a0 = some r) : W p l e { frames := 0, cells := 0, slots := 0, locals := 0 } s m args below meth c H locs 0 0 Q (F0 m 0 ls []) := by
  obtain ⟨hx, hb, hml, hown, hts, hK, hN, hA⟩ := id hC
  unfold f_X6_usesB at hf
  refine lv_iload_n hx hb dX6_usesB_0 rfl (lv_at hl 0 rfl) ?_
  refine lv_iconst (v := (1 : Int32)) hx hb dX6_usesB_1 (by decide) ?_
  refine x_ieq hC 10 hf dX6_usesB_2 (by decide) (fun hf => ?_) (fun hf => ?_)
  · refine lv_iconst (v := (1 : Int32)) hx hb dX6_usesB_10 (by decide) ?_
    refine lv_goto (tgt := 15) hx hb dX6_usesB_11 (by decide) ?_
    obtain ⟨h9, hf⟩ := x_g_eq hf
    obtain rfl := Option.some.inj hf
    exact hR _ _ _ _ h9 hI dX6_usesB_15
  · refine lv_iload_n hx hb dX6_usesB_5 rfl (lv_at hl 0 rfl) ?_
    refine lv_iconst (v := (3 : Int32)) hx hb dX6_usesB_6 (by decide) ?_
    refine x_ine hC 14 hf dX6_usesB_7 (by decide) (fun hf => ?_) (fun hf => ?_)
    · refine lv_iconst (v := (0 : Int32)) hx hb dX6_usesB_14 (by decide) ?_
      obtain ⟨h9, hf⟩ := x_g_eq hf
      obtain rfl := Option.some.inj hf
      exact hR _ _ _ _ h9 hI dX6_usesB_15
    · refine lv_iconst (v := (1 : Int32)) hx hb dX6_usesB_10 (by decide) ?_
      refine lv_goto (tgt := 15) hx hb dX6_usesB_11 (by decide) ?_
      obtain ⟨h9, hf⟩ := x_g_eq hf
      obtain rfl := Option.some.inj hf
      exact hR _ _ _ _ h9 hI dX6_usesB_15
theorem c_X6_usesB {a0 : Int32} {v : Int32} (hf : f_X6_usesB n a0 = some v) : x_M l yX6_usesB cX6_usesB 1 (some .boolean) 0 0 E [.int a0] w w (some (.int v)) :=
  x_entZ (by decide) (Nat.le_of_ble_eq_true rfl) (fun p e s m args below meth c A Q ls hC hI hR hl => w_X6_usesB (r := v) hC hR hI hl hf)
-- X6_isJump
def f_X6_isJump (n : Nat) (a0 : Int32) : Option (Int32) :=
if a0 = (2 : Int32) then
x_g ((1 : Int32) = 0 ∨ (1 : Int32) = 1) (some (1 : Int32))
else
if a0 = (3 : Int32) then
x_g ((1 : Int32) = 0 ∨ (1 : Int32) = 1) (some (1 : Int32))
else
x_g ((0 : Int32) = 0 ∨ (0 : Int32) = 1) (some (0 : Int32))
set_option maxHeartbeats 4000000 in
set_option maxRecDepth 100000 in
theorem w_X6_isJump {r : Int32} {a0 : Int32} (hC : x_C p s m args meth c cX6_isJump 1 RX6 E A) (hR : x_Rz p l e { frames := 0, cells := 0, slots := 0, locals := 0 } s m args below meth c cX6_isJump E A Q w r) (hI : x_I E A s.heap w H locs) (hl : lv_has ls 1 [(0, .int a0)]) (hf : f_X6_isJump n a0 = some r) : W p l e { frames := 0, cells := 0, slots := 0, locals := 0 } s m args below meth c H locs 0 0 Q (F0 m 0 ls []) := by
  obtain ⟨hx, hb, hml, hown, hts, hK, hN, hA⟩ := id hC
  unfold f_X6_isJump at hf
  refine lv_iload_n hx hb dX6_isJump_0 rfl (lv_at hl 0 rfl) ?_
  refine lv_iconst (v := (2 : Int32)) hx hb dX6_isJump_1 (by decide) ?_
  refine x_ieq hC 10 hf dX6_isJump_2 (by decide) (fun hf => ?_) (fun hf => ?_)
  · refine lv_iconst (v := (1 : Int32)) hx hb dX6_isJump_10 (by decide) ?_
    refine lv_goto (tgt := 15) hx hb dX6_isJump_11 (by decide) ?_
    obtain ⟨h9, hf⟩ := x_g_eq hf
    obtain rfl := Option.some.inj hf
    exact hR _ _ _ _ h9 hI dX6_isJump_15
  · refine lv_iload_n hx hb dX6_isJump_5 rfl (lv_at hl 0 rfl) ?_
    refine lv_iconst (v := (3 : Int32)) hx hb dX6_isJump_6 (by decide) ?_
    refine x_ine hC 14 hf dX6_isJump_7 (by decide) (fun hf => ?_) (fun hf => ?_)
    · refine lv_iconst (v := (0 : Int32)) hx hb dX6_isJump_14 (by decide) ?_
      obtain ⟨h9, hf⟩ := x_g_eq hf
      obtain rfl := Option.some.inj hf
      exact hR _ _ _ _ h9 hI dX6_isJump_15
    · refine lv_iconst (v := (1 : Int32)) hx hb dX6_isJump_10 (by decide) ?_
      refine lv_goto (tgt := 15) hx hb dX6_isJump_11 (by decide) ?_
      obtain ⟨h9, hf⟩ := x_g_eq hf
      obtain rfl := Option.some.inj hf
      exact hR _ _ _ _ h9 hI dX6_isJump_15
theorem c_X6_isJump {a0 : Int32} {v : Int32} (hf : f_X6_isJump n a0 = some v) : x_M l yX6_isJump cX6_isJump 1 (some .boolean) 0 0 E [.int a0] w w (some (.int v)) :=
  x_entZ (by decide) (Nat.le_of_ble_eq_true rfl) (fun p e s m args below meth c A Q ls hC hI hR hl => w_X6_isJump (r := v) hC hR hI hl hf)
-- X6_mayHaveB
def f_X6_mayHaveB (n : Nat) (a0 : Int32) (a1 : Int32) : Option (Int32) :=
if a0 = (1 : Int32) then
x_g ((1 : Int32) = 0 ∨ (1 : Int32) = 1) (some (1 : Int32))
else
if a0 = (3 : Int32) then
if a1 < 0 then
x_g ((0 : Int32) = 0 ∨ (0 : Int32) = 1) (some (0 : Int32))
else
if (6 : Int32) ≤ a1 then
x_g ((0 : Int32) = 0 ∨ (0 : Int32) = 1) (some (0 : Int32))
else
x_g ((1 : Int32) = 0 ∨ (1 : Int32) = 1) (some (1 : Int32))
else
if a1 = 0 then
x_g ((1 : Int32) = 0 ∨ (1 : Int32) = 1) (some (1 : Int32))
else
x_g ((0 : Int32) = 0 ∨ (0 : Int32) = 1) (some (0 : Int32))
set_option maxHeartbeats 4000000 in
set_option maxRecDepth 100000 in
theorem w_X6_mayHaveB {r : Int32} {a0 : Int32} {a1 : Int32} (hC : x_C p s m args meth c cX6_mayHaveB 2 RX6 E A) (hR : x_Rz p l e { frames := 0, cells := 0, slots := 0, locals := 0 } s m args below meth c cX6_mayHaveB E A Q w r) (hI : x_I E A s.heap w H locs) (hl : lv_has ls 2 [(0, .int a0), (1, .int a1)]) (hf : f_X6_mayHaveB n a0 a1 = some r) : W p l e { frames := 0, cells := 0, slots := 0, locals := 0 } s m args below meth c H locs 0 0 Q (F0 m 0 ls []) := by
  obtain ⟨hx, hb, hml, hown, hts, hK, hN, hA⟩ := id hC
  unfold f_X6_mayHaveB at hf
  refine lv_iload_n hx hb dX6_mayHaveB_0 rfl (lv_at hl 0 rfl) ?_
  refine x_case hf (fun q11 hf => ?_) (fun q11 hf => ?_)
  · refine lv_lookup (off := 27) (tgt := 28) hx hb dX6_mayHaveB_1 (by decide) (by first | (rw [q11]; done) | (rw [q11]; rfl)) (by decide) ?_
    refine lv_iconst (v := (1 : Int32)) hx hb dX6_mayHaveB_28 (by decide) ?_
    obtain ⟨h9, hf⟩ := x_g_eq hf
    obtain rfl := Option.some.inj hf
    exact hR _ _ _ _ h9 hI dX6_mayHaveB_29
  · refine x_case hf (fun q13 hf => ?_) (fun q13 hf => ?_)
    · refine lv_lookup (off := 29) (tgt := 30) hx hb dX6_mayHaveB_1 (by decide) (by first | (rw [q13]; done) | (rw [q13]; rfl)) (by decide) ?_
      refine lv_iload_n hx hb dX6_mayHaveB_30 rfl (lv_at hl 1 rfl) ?_
      refine x_lt0 hC 44 hf dX6_mayHaveB_31 (by decide) (fun hf => ?_) (fun hf => ?_)
      · refine lv_iconst (v := (0 : Int32)) hx hb dX6_mayHaveB_44 (by decide) ?_
        obtain ⟨h9, hf⟩ := x_g_eq hf
        obtain rfl := Option.some.inj hf
        exact hR _ _ _ _ h9 hI dX6_mayHaveB_45
      · refine lv_iload_n hx hb dX6_mayHaveB_34 rfl (lv_at hl 1 rfl) ?_
        refine lv_bipush (v := (6 : Int32)) hx hb dX6_mayHaveB_35 (by decide) ?_
        refine x_ige hC 44 hf dX6_mayHaveB_37 (by decide) (fun hf => ?_) (fun hf => ?_)
        · refine lv_iconst (v := (0 : Int32)) hx hb dX6_mayHaveB_44 (by decide) ?_
          obtain ⟨h9, hf⟩ := x_g_eq hf
          obtain rfl := Option.some.inj hf
          exact hR _ _ _ _ h9 hI dX6_mayHaveB_45
        · refine lv_iconst (v := (1 : Int32)) hx hb dX6_mayHaveB_40 (by decide) ?_
          refine lv_goto (tgt := 45) hx hb dX6_mayHaveB_41 (by decide) ?_
          obtain ⟨h9, hf⟩ := x_g_eq hf
          obtain rfl := Option.some.inj hf
          exact hR _ _ _ _ h9 hI dX6_mayHaveB_45
    · refine lv_lookup (off := 45) (tgt := 46) hx hb dX6_mayHaveB_1 (by decide) (by first | (rw [Array.toList, lv_osw q11 (by decide), lv_osw q13 (by decide)]; done) | (rw [Array.toList, lv_osw q11 (by decide), lv_osw q13 (by decide)]; rfl)) (by decide) ?_
      refine lv_iload_n hx hb dX6_mayHaveB_46 rfl (lv_at hl 1 rfl) ?_
      refine x_ne0 hC 54 hf dX6_mayHaveB_47 (by decide) (fun hf => ?_) (fun hf => ?_)
      · refine lv_iconst (v := (0 : Int32)) hx hb dX6_mayHaveB_54 (by decide) ?_
        obtain ⟨h9, hf⟩ := x_g_eq hf
        obtain rfl := Option.some.inj hf
        exact hR _ _ _ _ h9 hI dX6_mayHaveB_55
      · refine lv_iconst (v := (1 : Int32)) hx hb dX6_mayHaveB_50 (by decide) ?_
        refine lv_goto (tgt := 55) hx hb dX6_mayHaveB_51 (by decide) ?_
        obtain ⟨h9, hf⟩ := x_g_eq hf
        obtain rfl := Option.some.inj hf
        exact hR _ _ _ _ h9 hI dX6_mayHaveB_55
theorem c_X6_mayHaveB {a0 : Int32} {a1 : Int32} {v : Int32} (hf : f_X6_mayHaveB n a0 a1 = some v) : x_M l yX6_mayHaveB cX6_mayHaveB 2 (some .boolean) 0 0 E [.int a0, .int a1] w w (some (.int v)) :=
  x_entZ (by decide) (Nat.le_of_ble_eq_true rfl) (fun p e s m args below meth c A Q ls hC hI hR hl => w_X6_mayHaveB (r := v) hC hR hI hl hf)
-- X6_mayHaveA
def f_X6_mayHaveA_42 (n : Nat) (a1 : Int32) : Option (Int32) :=
if a1 < 0 then
x_g ((0 : Int32) = 0 ∨ (0 : Int32) = 1) (some (0 : Int32))
else
if (4 : Int32) ≤ a1 then
x_g ((0 : Int32) = 0 ∨ (0 : Int32) = 1) (some (0 : Int32))
else
x_g ((1 : Int32) = 0 ∨ (1 : Int32) = 1) (some (1 : Int32))
set_option maxHeartbeats 4000000 in
set_option maxRecDepth 100000 in
theorem w_X6_mayHaveA_42 {r : Int32} {a1 : Int32} (hC : x_C p s m args meth c cX6_mayHaveA 2 RX6 E A) (hR : x_Rz p l e { frames := 0, cells := 0, slots := 0, locals := 0 } s m args below meth c cX6_mayHaveA E A Q w r) (hI : x_I E A s.heap w H locs) (hl : lv_has ls 2 [(1, .int a1)]) (hf : f_X6_mayHaveA_42 n a1 = some r) : W p l e { frames := 0, cells := 0, slots := 0, locals := 0 } s m args below meth c H locs 0 0 Q (F0 m 42 ls []) := by
  obtain ⟨hx, hb, hml, hown, hts, hK, hN, hA⟩ := id hC
  unfold f_X6_mayHaveA_42 at hf
  refine lv_iload_n hx hb dX6_mayHaveA_42 rfl (lv_at hl 0 rfl) ?_
  refine x_lt0 hC 55 hf dX6_mayHaveA_43 (by decide) (fun hf => ?_) (fun hf => ?_)
  · refine lv_iconst (v := (0 : Int32)) hx hb dX6_mayHaveA_55 (by decide) ?_
    obtain ⟨h9, hf⟩ := x_g_eq hf
    obtain rfl := Option.some.inj hf
    exact hR _ _ _ _ h9 hI dX6_mayHaveA_56
  · refine lv_iload_n hx hb dX6_mayHaveA_46 rfl (lv_at hl 0 rfl) ?_
    refine lv_iconst (v := (4 : Int32)) hx hb dX6_mayHaveA_47 (by decide) ?_
    refine x_ige hC 55 hf dX6_mayHaveA_48 (by decide) (fun hf => ?_) (fun hf => ?_)
    · refine lv_iconst (v := (0 : Int32)) hx hb dX6_mayHaveA_55 (by decide) ?_
      obtain ⟨h9, hf⟩ := x_g_eq hf
      obtain rfl := Option.some.inj hf
      exact hR _ _ _ _ h9 hI dX6_mayHaveA_56
    · refine lv_iconst (v := (1 : Int32)) hx hb dX6_mayHaveA_51 (by decide) ?_
      refine lv_goto (tgt := 56) hx hb dX6_mayHaveA_52 (by decide) ?_
      obtain ⟨h9, hf⟩ := x_g_eq hf
      obtain rfl := Option.some.inj hf
      exact hR _ _ _ _ h9 hI dX6_mayHaveA_56
def f_X6_mayHaveA_73 (n : Nat) (a1 : Int32) : Option (Int32) :=
if a1 = 0 then
x_g ((1 : Int32) = 0 ∨ (1 : Int32) = 1) (some (1 : Int32))
else
x_g ((0 : Int32) = 0 ∨ (0 : Int32) = 1) (some (0 : Int32))
set_option maxHeartbeats 4000000 in
set_option maxRecDepth 100000 in
theorem w_X6_mayHaveA_73 {r : Int32} {a1 : Int32} (hC : x_C p s m args meth c cX6_mayHaveA 2 RX6 E A) (hR : x_Rz p l e { frames := 0, cells := 0, slots := 0, locals := 0 } s m args below meth c cX6_mayHaveA E A Q w r) (hI : x_I E A s.heap w H locs) (hl : lv_has ls 2 [(1, .int a1)]) (hf : f_X6_mayHaveA_73 n a1 = some r) : W p l e { frames := 0, cells := 0, slots := 0, locals := 0 } s m args below meth c H locs 0 0 Q (F0 m 73 ls []) := by
  obtain ⟨hx, hb, hml, hown, hts, hK, hN, hA⟩ := id hC
  unfold f_X6_mayHaveA_73 at hf
  refine lv_iload_n hx hb dX6_mayHaveA_73 rfl (lv_at hl 0 rfl) ?_
  refine x_ne0 hC 81 hf dX6_mayHaveA_74 (by decide) (fun hf => ?_) (fun hf => ?_)
  · refine lv_iconst (v := (0 : Int32)) hx hb dX6_mayHaveA_81 (by decide) ?_
    obtain ⟨h9, hf⟩ := x_g_eq hf
    obtain rfl := Option.some.inj hf
    exact hR _ _ _ _ h9 hI dX6_mayHaveA_82
  · refine lv_iconst (v := (1 : Int32)) hx hb dX6_mayHaveA_77 (by decide) ?_
    refine lv_goto (tgt := 82) hx hb dX6_mayHaveA_78 (by decide) ?_
    obtain ⟨h9, hf⟩ := x_g_eq hf
    obtain rfl := Option.some.inj hf
    exact hR _ _ _ _ h9 hI dX6_mayHaveA_82
def f_X6_mayHaveA (n : Nat) (a0 : Int32) (a1 : Int32) : Option (Int32) :=
if a0 = (0 : Int32) then
x_g ((1 : Int32) = 0 ∨ (1 : Int32) = 1) (some (1 : Int32))
else
if a0 = (1 : Int32) then
f_X6_mayHaveA_42 n a1
else
if a0 = (2 : Int32) then
f_X6_mayHaveA_73 n a1
else
if a0 = (3 : Int32) then
f_X6_mayHaveA_42 n a1
else
if a0 = (4 : Int32) then
f_X6_mayHaveA_73 n a1
else
if a0 = (5 : Int32) then
if a1 < 0 then
x_g ((0 : Int32) = 0 ∨ (0 : Int32) = 1) (some (0 : Int32))
else
if (12 : Int32) ≤ a1 then
x_g ((0 : Int32) = 0 ∨ (0 : Int32) = 1) (some (0 : Int32))
else
x_g ((1 : Int32) = 0 ∨ (1 : Int32) = 1) (some (1 : Int32))
else
f_X6_mayHaveA_73 n a1
set_option maxHeartbeats 4000000 in
set_option maxRecDepth 100000 in
theorem w_X6_mayHaveA {r : Int32} {a0 : Int32} {a1 : Int32} (hC : x_C p s m args meth c cX6_mayHaveA 2 RX6 E A) (hR : x_Rz p l e { frames := 0, cells := 0, slots := 0, locals := 0 } s m args below meth c cX6_mayHaveA E A Q w r) (hI : x_I E A s.heap w H locs) (hl : lv_has ls 2 [(0, .int a0), (1, .int a1)]) (hf : f_X6_mayHaveA n a0 a1 = some r) : W p l e { frames := 0, cells := 0, slots := 0, locals := 0 } s m args below meth c H locs 0 0 Q (F0 m 0 ls []) := by
  obtain ⟨hx, hb, hml, hown, hts, hK, hN, hA⟩ := id hC
  unfold f_X6_mayHaveA at hf
  refine lv_iload_n hx hb dX6_mayHaveA_0 rfl (lv_at hl 0 rfl) ?_
  refine x_case hf (fun q10 hf => ?_) (fun q10 hf => ?_)
  · refine lv_tableIn (tgt := 40) hx hb dX6_mayHaveA_1 (by rw [q10]; decide) (by rw [q10]; decide) (by rw [q10]; rfl) (by decide) ?_
    refine lv_iconst (v := (1 : Int32)) hx hb dX6_mayHaveA_40 (by decide) ?_
    obtain ⟨h9, hf⟩ := x_g_eq hf
    obtain rfl := Option.some.inj hf
    exact hR _ _ _ _ h9 hI dX6_mayHaveA_41
  · refine x_case hf (fun q11 hf => ?_) (fun q11 hf => ?_)
    · refine lv_tableIn (tgt := 42) hx hb dX6_mayHaveA_1 (by rw [q11]; decide) (by rw [q11]; decide) (by rw [q11]; rfl) (by decide) ?_
      exact w_X6_mayHaveA_42 hC hR hI (lv_sub hl [1] rfl) hf
    · refine x_case hf (fun q12 hf => ?_) (fun q12 hf => ?_)
      · refine lv_tableIn (tgt := 73) hx hb dX6_mayHaveA_1 (by rw [q12]; decide) (by rw [q12]; decide) (by rw [q12]; rfl) (by decide) ?_
        exact w_X6_mayHaveA_73 hC hR hI (lv_sub hl [1] rfl) hf
      · refine x_case hf (fun q13 hf => ?_) (fun q13 hf => ?_)
        · refine lv_tableIn (tgt := 42) hx hb dX6_mayHaveA_1 (by rw [q13]; decide) (by rw [q13]; decide) (by rw [q13]; rfl) (by decide) ?_
          exact w_X6_mayHaveA_42 hC hR hI (lv_sub hl [1] rfl) hf
        · refine x_case hf (fun q14 hf => ?_) (fun q14 hf => ?_)
          · refine lv_tableIn (tgt := 73) hx hb dX6_mayHaveA_1 (by rw [q14]; decide) (by rw [q14]; decide) (by rw [q14]; rfl) (by decide) ?_
            exact w_X6_mayHaveA_73 hC hR hI (lv_sub hl [1] rfl) hf
          · refine x_case hf (fun q15 hf => ?_) (fun q15 hf => ?_)
            · refine lv_tableIn (tgt := 57) hx hb dX6_mayHaveA_1 (by rw [q15]; decide) (by rw [q15]; decide) (by rw [q15]; rfl) (by decide) ?_
              refine lv_iload_n hx hb dX6_mayHaveA_57 rfl (lv_at hl 1 rfl) ?_
              refine x_lt0 hC 71 hf dX6_mayHaveA_58 (by decide) (fun hf => ?_) (fun hf => ?_)
              · refine lv_iconst (v := (0 : Int32)) hx hb dX6_mayHaveA_71 (by decide) ?_
                obtain ⟨h9, hf⟩ := x_g_eq hf
                obtain rfl := Option.some.inj hf
                exact hR _ _ _ _ h9 hI dX6_mayHaveA_72
              · refine lv_iload_n hx hb dX6_mayHaveA_61 rfl (lv_at hl 1 rfl) ?_
                refine lv_bipush (v := (12 : Int32)) hx hb dX6_mayHaveA_62 (by decide) ?_
                refine x_ige hC 71 hf dX6_mayHaveA_64 (by decide) (fun hf => ?_) (fun hf => ?_)
                · refine lv_iconst (v := (0 : Int32)) hx hb dX6_mayHaveA_71 (by decide) ?_
                  obtain ⟨h9, hf⟩ := x_g_eq hf
                  obtain rfl := Option.some.inj hf
                  exact hR _ _ _ _ h9 hI dX6_mayHaveA_72
                · refine lv_iconst (v := (1 : Int32)) hx hb dX6_mayHaveA_67 (by decide) ?_
                  refine lv_goto (tgt := 72) hx hb dX6_mayHaveA_68 (by decide) ?_
                  obtain ⟨h9, hf⟩ := x_g_eq hf
                  obtain rfl := Option.some.inj hf
                  exact hR _ _ _ _ h9 hI dX6_mayHaveA_72
            · refine lv_tableOut (tgt := 73) hx hb dX6_mayHaveA_1 (by have z10 := lv_neT (a := 0) q10 (by decide); have z11 := lv_neT (a := 1) q11 (by decide); have z12 := lv_neT (a := 2) q12 (by decide); have z13 := lv_neT (a := 3) q13 (by decide); have z14 := lv_neT (a := 4) q14 (by decide); have z15 := lv_neT (a := 5) q15 (by decide); omega) (by decide) ?_
              exact w_X6_mayHaveA_73 hC hR hI (lv_sub hl [1] rfl) hf
theorem c_X6_mayHaveA {a0 : Int32} {a1 : Int32} {v : Int32} (hf : f_X6_mayHaveA n a0 a1 = some v) : x_M l yX6_mayHaveA cX6_mayHaveA 2 (some .boolean) 0 0 E [.int a0, .int a1] w w (some (.int v)) :=
  x_entZ (by decide) (Nat.le_of_ble_eq_true rfl) (fun p e s m args below meth c A Q ls hC hI hR hl => w_X6_mayHaveA (r := v) hC hR hI hl hf)
-- X6_isAct
def f_X6_isAct_39 (n : Nat) (a0 : Int32) (a3 : Int32) : Option (Int32) :=
x_b (f_X6_isJump n a0) (fun v6 =>
if v6 = 0 then
x_g ((1 : Int32) = 0 ∨ (1 : Int32) = 1) (some (1 : Int32))
else
if a3 < 0 then
x_g ((0 : Int32) = 0 ∨ (0 : Int32) = 1) (some (0 : Int32))
else
if (60 : Int32) < a3 then
x_g ((0 : Int32) = 0 ∨ (0 : Int32) = 1) (some (0 : Int32))
else
x_g ((1 : Int32) = 0 ∨ (1 : Int32) = 1) (some (1 : Int32)))
set_option maxHeartbeats 4000000 in
set_option maxRecDepth 100000 in
theorem w_X6_isAct_39 {r : Int32} {a0 : Int32} {a3 : Int32} (hC : x_C p s m args meth c cX6_isAct 4 RX6 E A) (hR : x_Rz p l e { frames := 1, cells := 0, slots := 0, locals := 21 } s m args below meth c cX6_isAct E A Q w r) (hI : x_I E A s.heap w H locs) (hl : lv_has ls 4 [(0, .int a0), (3, .int a3)]) (hf : f_X6_isAct_39 n a0 a3 = some r) : W p l e { frames := 1, cells := 0, slots := 0, locals := 21 } s m args below meth c H locs 0 0 Q (F0 m 39 ls []) := by
  obtain ⟨hx, hb, hml, hown, hts, hK, hN, hA⟩ := id hC
  unfold f_X6_isAct_39 at hf
  refine lv_iload_n hx hb dX6_isAct_39 rfl (lv_at hl 0 rfl) ?_
  obtain ⟨v6, hc5, hf⟩ := x_b_eq hf
  refine x_callS hC hI (c_X6_isJump hc5) ks_X6_230 rfl ⟨Nat.le_of_ble_eq_true rfl, Nat.le_of_ble_eq_true rfl⟩ ⟨Nat.le_refl _, Nat.le_refl _⟩ hl.1 rfl (Nat.le_of_ble_eq_true rfl) dX6_isAct_40 (fun H locs hI => ?_)
  refine x_eq0 hC 56 hf dX6_isAct_43 (by decide) (fun hf => ?_) (fun hf => ?_)
  · refine lv_iconst (v := (1 : Int32)) hx hb dX6_isAct_56 (by decide) ?_
    refine lv_goto (tgt := 61) hx hb dX6_isAct_57 (by decide) ?_
    obtain ⟨h9, hf⟩ := x_g_eq hf
    obtain rfl := Option.some.inj hf
    exact hR _ _ _ _ h9 hI dX6_isAct_61
  · refine lv_iload_n hx hb dX6_isAct_46 rfl (lv_at hl 1 rfl) ?_
    refine x_lt0 hC 60 hf dX6_isAct_47 (by decide) (fun hf => ?_) (fun hf => ?_)
    · refine lv_iconst (v := (0 : Int32)) hx hb dX6_isAct_60 (by decide) ?_
      obtain ⟨h9, hf⟩ := x_g_eq hf
      obtain rfl := Option.some.inj hf
      exact hR _ _ _ _ h9 hI dX6_isAct_61
    · refine lv_iload_n hx hb dX6_isAct_50 rfl (lv_at hl 1 rfl) ?_
      refine lv_bipush (v := (60 : Int32)) hx hb dX6_isAct_51 (by decide) ?_
      refine x_igt hC 60 hf dX6_isAct_53 (by decide) (fun hf => ?_) (fun hf => ?_)
      · refine lv_iconst (v := (0 : Int32)) hx hb dX6_isAct_60 (by decide) ?_
        obtain ⟨h9, hf⟩ := x_g_eq hf
        obtain rfl := Option.some.inj hf
        exact hR _ _ _ _ h9 hI dX6_isAct_61
      · refine lv_iconst (v := (1 : Int32)) hx hb dX6_isAct_56 (by decide) ?_
        refine lv_goto (tgt := 61) hx hb dX6_isAct_57 (by decide) ?_
        obtain ⟨h9, hf⟩ := x_g_eq hf
        obtain rfl := Option.some.inj hf
        exact hR _ _ _ _ h9 hI dX6_isAct_61
def f_X6_isAct_24 (n : Nat) (a0 : Int32) (a2 : Int32) (a3 : Int32) : Option (Int32) :=
x_b (f_X6_usesB n a0) (fun v4 =>
if v4 = 0 then
f_X6_isAct_39 n a0 a3
else
x_b (f_X6_mayHaveB n a0 a2) (fun v8 =>
if v8 = 0 then
x_g ((0 : Int32) = 0 ∨ (0 : Int32) = 1) (some (0 : Int32))
else
f_X6_isAct_39 n a0 a3))
set_option maxHeartbeats 4000000 in
set_option maxRecDepth 100000 in
theorem w_X6_isAct_24 {r : Int32} {a0 : Int32} {a2 : Int32} {a3 : Int32} (hC : x_C p s m args meth c cX6_isAct 4 RX6 E A) (hR : x_Rz p l e { frames := 1, cells := 0, slots := 0, locals := 21 } s m args below meth c cX6_isAct E A Q w r) (hI : x_I E A s.heap w H locs) (hl : lv_has ls 4 [(0, .int a0), (2, .int a2), (3, .int a3)]) (hf : f_X6_isAct_24 n a0 a2 a3 = some r) : W p l e { frames := 1, cells := 0, slots := 0, locals := 21 } s m args below meth c H locs 0 0 Q (F0 m 24 ls []) := by
  obtain ⟨hx, hb, hml, hown, hts, hK, hN, hA⟩ := id hC
  unfold f_X6_isAct_24 at hf
  refine lv_iload_n hx hb dX6_isAct_24 rfl (lv_at hl 0 rfl) ?_
  obtain ⟨v4, hc3, hf⟩ := x_b_eq hf
  refine x_callS hC hI (c_X6_usesB hc3) ks_X6_224 rfl ⟨Nat.le_of_ble_eq_true rfl, Nat.le_of_ble_eq_true rfl⟩ ⟨Nat.le_refl _, Nat.le_refl _⟩ hl.1 rfl (Nat.le_of_ble_eq_true rfl) dX6_isAct_25 (fun H locs hI => ?_)
  refine x_eq0 hC 39 hf dX6_isAct_28 (by decide) (fun hf => ?_) (fun hf => ?_)
  · exact w_X6_isAct_39 hC hR hI (lv_sub hl [0, 2] rfl) hf
  · refine lv_iload_n hx hb dX6_isAct_31 rfl (lv_at hl 0 rfl) ?_
    refine lv_iload_n hx hb dX6_isAct_32 rfl (lv_at hl 1 rfl) ?_
    obtain ⟨v8, hc7, hf⟩ := x_b_eq hf
    refine x_callS hC hI (c_X6_mayHaveB hc7) ks_X6_227 rfl ⟨Nat.le_of_ble_eq_true rfl, Nat.le_of_ble_eq_true rfl⟩ ⟨Nat.le_refl _, Nat.le_refl _⟩ hl.1 rfl (Nat.le_of_ble_eq_true rfl) dX6_isAct_33 (fun H locs hI => ?_)
    refine x_eq0 hC 60 hf dX6_isAct_36 (by decide) (fun hf => ?_) (fun hf => ?_)
    · refine lv_iconst (v := (0 : Int32)) hx hb dX6_isAct_60 (by decide) ?_
      obtain ⟨h9, hf⟩ := x_g_eq hf
      obtain rfl := Option.some.inj hf
      exact hR _ _ _ _ h9 hI dX6_isAct_61
    · exact w_X6_isAct_39 hC hR hI (lv_sub hl [0, 2] rfl) hf
def f_X6_isAct (n : Nat) (a0 : Int32) (a1 : Int32) (a2 : Int32) (a3 : Int32) : Option (Int32) :=
if a0 < 0 then
x_g ((0 : Int32) = 0 ∨ (0 : Int32) = 1) (some (0 : Int32))
else
if (5 : Int32) < a0 then
x_g ((0 : Int32) = 0 ∨ (0 : Int32) = 1) (some (0 : Int32))
else
x_b (f_X6_usesA n a0) (fun v2 =>
if v2 = 0 then
f_X6_isAct_24 n a0 a2 a3
else
x_b (f_X6_mayHaveA n a0 a1) (fun v10 =>
if v10 = 0 then
x_g ((0 : Int32) = 0 ∨ (0 : Int32) = 1) (some (0 : Int32))
else
f_X6_isAct_24 n a0 a2 a3))
set_option maxHeartbeats 4000000 in
set_option maxRecDepth 100000 in
theorem w_X6_isAct {r : Int32} {a0 : Int32} {a1 : Int32} {a2 : Int32} {a3 : Int32} (hC : x_C p s m args meth c cX6_isAct 4 RX6 E A) (hR : x_Rz p l e { frames := 1, cells := 0, slots := 0, locals := 21 } s m args below meth c cX6_isAct E A Q w r) (hI : x_I E A s.heap w H locs) (hl : lv_has ls 4 [(0, .int a0), (1, .int a1), (2, .int a2), (3, .int a3)]) (hf : f_X6_isAct n a0 a1 a2 a3 = some r) : W p l e { frames := 1, cells := 0, slots := 0, locals := 21 } s m args below meth c H locs 0 0 Q (F0 m 0 ls []) := by
  obtain ⟨hx, hb, hml, hown, hts, hK, hN, hA⟩ := id hC
  unfold f_X6_isAct at hf
  refine lv_iload_n hx hb dX6_isAct_0 rfl (lv_at hl 0 rfl) ?_
  refine x_lt0 hC 60 hf dX6_isAct_1 (by decide) (fun hf => ?_) (fun hf => ?_)
  · refine lv_iconst (v := (0 : Int32)) hx hb dX6_isAct_60 (by decide) ?_
    obtain ⟨h9, hf⟩ := x_g_eq hf
    obtain rfl := Option.some.inj hf
    exact hR _ _ _ _ h9 hI dX6_isAct_61
  · refine lv_iload_n hx hb dX6_isAct_4 rfl (lv_at hl 0 rfl) ?_
    refine lv_iconst (v := (5 : Int32)) hx hb dX6_isAct_5 (by decide) ?_
    refine x_igt hC 60 hf dX6_isAct_6 (by decide) (fun hf => ?_) (fun hf => ?_)
    · refine lv_iconst (v := (0 : Int32)) hx hb dX6_isAct_60 (by decide) ?_
      obtain ⟨h9, hf⟩ := x_g_eq hf
      obtain rfl := Option.some.inj hf
      exact hR _ _ _ _ h9 hI dX6_isAct_61
    · refine lv_iload_n hx hb dX6_isAct_9 rfl (lv_at hl 0 rfl) ?_
      obtain ⟨v2, hc1, hf⟩ := x_b_eq hf
      refine x_callS hC hI (c_X6_usesA hc1) ks_X6_217 rfl ⟨Nat.le_of_ble_eq_true rfl, Nat.le_of_ble_eq_true rfl⟩ ⟨Nat.le_refl _, Nat.le_refl _⟩ hl.1 rfl (Nat.le_of_ble_eq_true rfl) dX6_isAct_10 (fun H locs hI => ?_)
      refine x_eq0 hC 24 hf dX6_isAct_13 (by decide) (fun hf => ?_) (fun hf => ?_)
      · exact w_X6_isAct_24 hC hR hI (lv_sub hl [0, 2, 3] rfl) hf
      · refine lv_iload_n hx hb dX6_isAct_16 rfl (lv_at hl 0 rfl) ?_
        refine lv_iload_n hx hb dX6_isAct_17 rfl (lv_at hl 1 rfl) ?_
        obtain ⟨v10, hc9, hf⟩ := x_b_eq hf
        refine x_callS hC hI (c_X6_mayHaveA hc9) ks_X6_220 rfl ⟨Nat.le_of_ble_eq_true rfl, Nat.le_of_ble_eq_true rfl⟩ ⟨Nat.le_refl _, Nat.le_refl _⟩ hl.1 rfl (Nat.le_of_ble_eq_true rfl) dX6_isAct_18 (fun H locs hI => ?_)
        refine x_eq0 hC 60 hf dX6_isAct_21 (by decide) (fun hf => ?_) (fun hf => ?_)
        · refine lv_iconst (v := (0 : Int32)) hx hb dX6_isAct_60 (by decide) ?_
          obtain ⟨h9, hf⟩ := x_g_eq hf
          obtain rfl := Option.some.inj hf
          exact hR _ _ _ _ h9 hI dX6_isAct_61
        · exact w_X6_isAct_24 hC hR hI (lv_sub hl [0, 2, 3] rfl) hf
theorem c_X6_isAct {a0 : Int32} {a1 : Int32} {a2 : Int32} {a3 : Int32} {v : Int32} (hf : f_X6_isAct n a0 a1 a2 a3 = some v) : x_M l yX6_isAct cX6_isAct 4 (some .boolean) 1 21 E [.int a0, .int a1, .int a2, .int a3] w w (some (.int v)) :=
  x_entZ (by decide) (Nat.le_of_ble_eq_true rfl) (fun p e s m args below meth c A Q ls hC hI hR hl => w_X6_isAct (r := v) hC hR hI hl hf)
-- X2_put
def f_X2_put_54 (n : Nat) (S : x_S) (a0 : Nat) (a1 : Int32) (a2 : Int32) (a5 : Int32) (t0 : Int32) (t1 : Int32) (t2 : Nat) : Option (x_S) :=
x_g (t2 < g_np S) (x_g (¬ (t1 < 0 ∨ 60 ≤ (t1).toNatClampNeg)) (x_let (s_pa S 2 t2 (t1).toNatClampNeg t0) (fun S =>
x_g (a0 < g_np S) (
x_b (f_X6_isJump n a2) (fun v6 =>
if v6 = 0 then
x_g (a0 < g_np S) (x_g (¬ (a1 < 0 ∨ 60 ≤ (a1).toNatClampNeg)) (x_let (s_pa S 3 a0 (a1).toNatClampNeg (0 : Int32)) (fun S =>
some S)))
else
x_g (a0 < g_np S) (x_g (¬ (a1 < 0 ∨ 60 ≤ (a1).toNatClampNeg)) (x_let (s_pa S 3 a0 (a1).toNatClampNeg a5) (fun S =>
some S))))))))
set_option maxHeartbeats 4000000 in
set_option maxRecDepth 100000 in
theorem w_X2_put_54 {r : x_S} {a0 : Nat} {a1 : Int32} {a2 : Int32} {a5 : Int32} {t0 : Int32} {t1 : Int32} {t2 : Nat} (hC : x_C p s m args meth c cX2_put 6 RX2 E A) (hR : x_Rv p l e { frames := 1, cells := 0, slots := 0, locals := 20 } s m args below meth c cX2_put E A Q (cw E ad ap r)) (hI : x_I E A s.heap (cw E ad ap S) H locs) (hl : lv_has ls 6 [(0, .ref (ap a0 0)), (1, .int a1), (2, .int a2), (5, .int a5)]) (hf : f_X2_put_54 n S a0 a1 a2 a5 t0 t1 t2 = some r) : W p l e { frames := 1, cells := 0, slots := 0, locals := 20 } s m args below meth c H locs 0 0 Q (F0 m 54 ls [.int t0, .int t1, .ref (ap t2 3)]) := by
  obtain ⟨hx, hb, hml, hown, hts, hK, hN, hA⟩ := id hC
  unfold f_X2_put_54 at hf
  refine tX2_2 hC hI hf dX2_put_54 (fun S H locs hI hf => ?_)
  refine lv_aload_n hx hb dX2_put_55 rfl (lv_at hl 0 rfl) ?_
  refine gX2_3 hC hI hf lkf_X2_21 dX2_put_56 (fun hf => ?_)
  refine lv_iload_n hx hb dX2_put_59 rfl (lv_at hl 1 rfl) ?_
  refine lv_iload_n hx hb dX2_put_60 rfl (lv_at hl 2 rfl) ?_
  obtain ⟨v6, hc5, hf⟩ := x_b_eq hf
  refine x_callN hC hI (c_X6_isJump hc5) ks_X2_39 rfl ⟨Nat.le_of_ble_eq_true rfl, Nat.le_of_ble_eq_true rfl⟩ ⟨Nat.le_refl _, Nat.le_refl _⟩ hl.1 rfl (Nat.le_of_ble_eq_true rfl) dX2_put_61 (fun H locs hI => ?_)
  refine x_eq0 hC 72 hf dX2_put_64 (by decide) (fun hf => ?_) (fun hf => ?_)
  · refine lv_iconst (v := (0 : Int32)) hx hb dX2_put_72 (by decide) ?_
    refine tX2_3 hC hI hf dX2_put_73 (fun S H locs hI hf => ?_)
    obtain rfl := Option.some.inj hf
    exact hR _ _ _ _ hI dX2_put_74
  · refine lv_iload hx hb dX2_put_67 (lv_at hl 3 rfl) ?_
    refine lv_goto (tgt := 73) hx hb dX2_put_69 (by decide) ?_
    refine tX2_3 hC hI hf dX2_put_73 (fun S H locs hI hf => ?_)
    obtain rfl := Option.some.inj hf
    exact hR _ _ _ _ hI dX2_put_74
def f_X2_put_35 (n : Nat) (S : x_S) (a0 : Nat) (a1 : Int32) (a2 : Int32) (a4 : Int32) (a5 : Int32) (t0 : Int32) (t1 : Int32) (t2 : Nat) : Option (x_S) :=
x_g (t2 < g_np S) (x_g (¬ (t1 < 0 ∨ 60 ≤ (t1).toNatClampNeg)) (x_let (s_pa S 1 t2 (t1).toNatClampNeg t0) (fun S =>
x_g (a0 < g_np S) (
x_b (f_X6_usesB n a2) (fun v4 =>
if v4 = 0 then
f_X2_put_54 n S a0 a1 a2 a5 (0 : Int32) a1 a0
else
f_X2_put_54 n S a0 a1 a2 a5 a4 a1 a0)))))
set_option maxHeartbeats 4000000 in
set_option maxRecDepth 100000 in
theorem w_X2_put_35 {r : x_S} {a0 : Nat} {a1 : Int32} {a2 : Int32} {a4 : Int32} {a5 : Int32} {t0 : Int32} {t1 : Int32} {t2 : Nat} (hC : x_C p s m args meth c cX2_put 6 RX2 E A) (hR : x_Rv p l e { frames := 1, cells := 0, slots := 0, locals := 20 } s m args below meth c cX2_put E A Q (cw E ad ap r)) (hI : x_I E A s.heap (cw E ad ap S) H locs) (hl : lv_has ls 6 [(0, .ref (ap a0 0)), (1, .int a1), (2, .int a2), (4, .int a4), (5, .int a5)]) (hf : f_X2_put_35 n S a0 a1 a2 a4 a5 t0 t1 t2 = some r) : W p l e { frames := 1, cells := 0, slots := 0, locals := 20 } s m args below meth c H locs 0 0 Q (F0 m 35 ls [.int t0, .int t1, .ref (ap t2 2)]) := by
  obtain ⟨hx, hb, hml, hown, hts, hK, hN, hA⟩ := id hC
  unfold f_X2_put_35 at hf
  refine tX2_1 hC hI hf dX2_put_35 (fun S H locs hI hf => ?_)
  refine lv_aload_n hx hb dX2_put_36 rfl (lv_at hl 0 rfl) ?_
  refine gX2_2 hC hI hf lkf_X2_18 dX2_put_37 (fun hf => ?_)
  refine lv_iload_n hx hb dX2_put_40 rfl (lv_at hl 1 rfl) ?_
  refine lv_iload_n hx hb dX2_put_41 rfl (lv_at hl 2 rfl) ?_
  obtain ⟨v4, hc3, hf⟩ := x_b_eq hf
  refine x_callN hC hI (c_X6_usesB hc3) ks_X2_36 rfl ⟨Nat.le_of_ble_eq_true rfl, Nat.le_of_ble_eq_true rfl⟩ ⟨Nat.le_refl _, Nat.le_refl _⟩ hl.1 rfl (Nat.le_of_ble_eq_true rfl) dX2_put_42 (fun H locs hI => ?_)
  refine x_eq0 hC 53 hf dX2_put_45 (by decide) (fun hf => ?_) (fun hf => ?_)
  · refine lv_iconst (v := (0 : Int32)) hx hb dX2_put_53 (by decide) ?_
    exact w_X2_put_54 hC hR hI (lv_sub hl [0, 1, 2, 4] rfl) hf
  · refine lv_iload hx hb dX2_put_48 (lv_at hl 3 rfl) ?_
    refine lv_goto (tgt := 54) hx hb dX2_put_50 (by decide) ?_
    exact w_X2_put_54 hC hR hI (lv_sub hl [0, 1, 2, 4] rfl) hf
def f_X2_put (n : Nat) (S : x_S) (a0 : Nat) (a1 : Int32) (a2 : Int32) (a3 : Int32) (a4 : Int32) (a5 : Int32) : Option (x_S) :=
if a1 < 0 then
some S
else
if a1 < (60 : Int32) then
x_g (a0 < g_np S) (
x_g (a0 < g_np S) (x_g (¬ (a1 < 0 ∨ 60 ≤ (a1).toNatClampNeg)) (x_let (s_pa S 0 a0 (a1).toNatClampNeg a2) (fun S =>
x_g (a0 < g_np S) (
x_b (f_X6_usesA n a2) (fun v2 =>
if v2 = 0 then
f_X2_put_35 n S a0 a1 a2 a4 a5 (0 : Int32) a1 a0
else
f_X2_put_35 n S a0 a1 a2 a4 a5 a3 a1 a0))))))
else
some S
set_option maxHeartbeats 4000000 in
set_option maxRecDepth 100000 in
theorem w_X2_put {r : x_S} {a0 : Nat} {a1 : Int32} {a2 : Int32} {a3 : Int32} {a4 : Int32} {a5 : Int32} (hC : x_C p s m args meth c cX2_put 6 RX2 E A) (hR : x_Rv p l e { frames := 1, cells := 0, slots := 0, locals := 20 } s m args below meth c cX2_put E A Q (cw E ad ap r)) (hI : x_I E A s.heap (cw E ad ap S) H locs) (hl : lv_has ls 6 [(0, .ref (ap a0 0)), (1, .int a1), (2, .int a2), (3, .int a3), (4, .int a4), (5, .int a5)]) (hf : f_X2_put n S a0 a1 a2 a3 a4 a5 = some r) : W p l e { frames := 1, cells := 0, slots := 0, locals := 20 } s m args below meth c H locs 0 0 Q (F0 m 0 ls []) := by
  obtain ⟨hx, hb, hml, hown, hts, hK, hN, hA⟩ := id hC
  unfold f_X2_put at hf
  refine lv_iload_n hx hb dX2_put_0 rfl (lv_at hl 1 rfl) ?_
  refine x_lt0 hC 10 hf dX2_put_1 (by decide) (fun hf => ?_) (fun hf => ?_)
  · obtain rfl := Option.some.inj hf
    exact hR _ _ _ _ hI dX2_put_10
  · refine lv_iload_n hx hb dX2_put_4 rfl (lv_at hl 1 rfl) ?_
    refine lv_bipush (v := (60 : Int32)) hx hb dX2_put_5 (by decide) ?_
    refine x_ilt hC 11 hf dX2_put_7 (by decide) (fun hf => ?_) (fun hf => ?_)
    · refine lv_aload_n hx hb dX2_put_11 rfl (lv_at hl 0 rfl) ?_
      refine gX2_0 hC hI hf lkf_X2_9 dX2_put_12 (fun hf => ?_)
      refine lv_iload_n hx hb dX2_put_15 rfl (lv_at hl 1 rfl) ?_
      refine lv_iload_n hx hb dX2_put_16 rfl (lv_at hl 2 rfl) ?_
      refine tX2_0 hC hI hf dX2_put_17 (fun S H locs hI hf => ?_)
      refine lv_aload_n hx hb dX2_put_18 rfl (lv_at hl 0 rfl) ?_
      refine gX2_1 hC hI hf lkf_X2_15 dX2_put_19 (fun hf => ?_)
      refine lv_iload_n hx hb dX2_put_22 rfl (lv_at hl 1 rfl) ?_
      refine lv_iload_n hx hb dX2_put_23 rfl (lv_at hl 2 rfl) ?_
      obtain ⟨v2, hc1, hf⟩ := x_b_eq hf
      refine x_callN hC hI (c_X6_usesA hc1) ks_X2_32 rfl ⟨Nat.le_of_ble_eq_true rfl, Nat.le_of_ble_eq_true rfl⟩ ⟨Nat.le_refl _, Nat.le_refl _⟩ hl.1 rfl (Nat.le_of_ble_eq_true rfl) dX2_put_24 (fun H locs hI => ?_)
      refine x_eq0 hC 34 hf dX2_put_27 (by decide) (fun hf => ?_) (fun hf => ?_)
      · refine lv_iconst (v := (0 : Int32)) hx hb dX2_put_34 (by decide) ?_
        exact w_X2_put_35 hC hR hI (lv_sub hl [0, 1, 2, 4, 5] rfl) hf
      · refine lv_iload_n hx hb dX2_put_30 rfl (lv_at hl 3 rfl) ?_
        refine lv_goto (tgt := 35) hx hb dX2_put_31 (by decide) ?_
        exact w_X2_put_35 hC hR hI (lv_sub hl [0, 1, 2, 4, 5] rfl) hf
    · obtain rfl := Option.some.inj hf
      exact hR _ _ _ _ hI dX2_put_10
theorem c_X2_put {a0 : Nat} {a1 : Int32} {a2 : Int32} {a3 : Int32} {a4 : Int32} {a5 : Int32} {S1 : x_S} (hf : f_X2_put n S a0 a1 a2 a3 a4 a5 = some S1) : x_M l yX2_put cX2_put 6 none 1 20 E [.ref (ap a0 0), .int a1, .int a2, .int a3, .int a4, .int a5] (cw E ad ap S) (cw E ad ap S1) none :=
  x_entV (by decide) (Nat.le_of_ble_eq_true rfl) (fun p e s m args below meth c A Q ls hC hI hR hl => w_X2_put (r := S1) hC hR hI hl hf)
-- X2_judgeWhole
def f_X2_judgeWhole_33 (n : Nat) (rec7 : x_S × Nat × Int32 → Option (x_S)) (S : x_S) (a0 : Nat) (a1 : Int32) : Option (x_S) :=
rec7 (S, a0, (a1 + (1 : Int32)))
set_option maxHeartbeats 4000000 in
set_option maxRecDepth 100000 in
theorem w_X2_judgeWhole_33 {r : x_S} {a0 : Nat} {a1 : Int32} {rec7 : x_S × Nat × Int32 → Option (x_S)} (hC : x_C p s m args meth c cX2_judgeWhole 2 RX2 E A) (hR : x_Rv p l e { frames := 0, cells := 0, slots := 0, locals := 0 } s m args below meth c cX2_judgeWhole E A Q (cw E ad ap r)) (hrec7 : ∀ z : x_S × Nat × Int32, rec7 z = some r → ∀ (H : Heap) (locs : List Loc) (ls : Array Slot), x_I E A s.heap (cw E ad ap z.1) H locs → lv_has ls 2 [(0, .ref (ap z.2.1 0)), (1, .int z.2.2)] → W p l e { frames := 0, cells := 0, slots := 0, locals := 0 } s m args below meth c H locs 0 0 Q (F0 m 7 ls [])) (hI : x_I E A s.heap (cw E ad ap S) H locs) (hl : lv_has ls 2 [(0, .ref (ap a0 0)), (1, .int a1)]) (hf : f_X2_judgeWhole_33 n rec7 S a0 a1 = some r) : W p l e { frames := 0, cells := 0, slots := 0, locals := 0 } s m args below meth c H locs 0 0 Q (F0 m 33 ls []) := by
  obtain ⟨hx, hb, hml, hown, hts, hK, hN, hA⟩ := id hC
  unfold f_X2_judgeWhole_33 at hf
  refine lv_iinc (v := (a1 + (1 : Int32))) (lv' := [(1, .int (a1 + (1 : Int32))), (0, .ref (ap a0 0))]) hx hb dX2_judgeWhole_33 hl (k := 1) rfl rfl (by decide) rfl (fun ls hl => ?_)
  refine lv_goto (tgt := 7) hx hb dX2_judgeWhole_36 (by decide) ?_
  exact hrec7 _ hf _ _ _ hI (lv_sub hl [1, 0] rfl)
def f_X2_judgeWhole_7 (n : Nat) (rec7 : x_S × Nat × Int32 → Option (x_S)) (S : x_S) (a0 : Nat) (a1 : Int32) : Option (x_S) :=
x_g (a0 < g_np S) (x_let (g_ps S 4 a0) (fun v1 =>
if v1 ≤ a1 then
some S
else
x_g (a0 < g_np S) (
x_g (a0 < g_np S) (x_g (¬ (a1 < 0 ∨ 60 ≤ (a1).toNatClampNeg)) (x_let (g_pa S 3 a0 (a1).toNatClampNeg) (fun v2 =>
x_g (a0 < g_np S) (x_let (g_ps S 4 a0) (fun v3 =>
if v2 ≤ v3 then
f_X2_judgeWhole_33 n rec7 S a0 a1
else
x_g (a0 < g_np S) (x_g ((0 : Int32) = 0 ∨ (0 : Int32) = 1) (x_let (s_ps S 5 a0 (0 : Int32)) (fun S =>
f_X2_judgeWhole_33 n rec7 S a0 a1)))))))))))
set_option maxHeartbeats 4000000 in
set_option maxRecDepth 100000 in
theorem w_X2_judgeWhole_7 {r : x_S} {a0 : Nat} {a1 : Int32} {rec7 : x_S × Nat × Int32 → Option (x_S)} (hC : x_C p s m args meth c cX2_judgeWhole 2 RX2 E A) (hR : x_Rv p l e { frames := 0, cells := 0, slots := 0, locals := 0 } s m args below meth c cX2_judgeWhole E A Q (cw E ad ap r)) (hrec7 : ∀ z : x_S × Nat × Int32, rec7 z = some r → ∀ (H : Heap) (locs : List Loc) (ls : Array Slot), x_I E A s.heap (cw E ad ap z.1) H locs → lv_has ls 2 [(0, .ref (ap z.2.1 0)), (1, .int z.2.2)] → W p l e { frames := 0, cells := 0, slots := 0, locals := 0 } s m args below meth c H locs 0 0 Q (F0 m 7 ls [])) (hI : x_I E A s.heap (cw E ad ap S) H locs) (hl : lv_has ls 2 [(0, .ref (ap a0 0)), (1, .int a1)]) (hf : f_X2_judgeWhole_7 n rec7 S a0 a1 = some r) : W p l e { frames := 0, cells := 0, slots := 0, locals := 0 } s m args below meth c H locs 0 0 Q (F0 m 7 ls []) := by
  obtain ⟨hx, hb, hml, hown, hts, hK, hN, hA⟩ := id hC
  unfold f_X2_judgeWhole_7 at hf
  refine lv_iload_n hx hb dX2_judgeWhole_7 rfl (lv_at hl 1 rfl) ?_
  refine lv_aload_n hx hb dX2_judgeWhole_8 rfl (lv_at hl 0 rfl) ?_
  refine gX2_4 hC hI hf lkf_X2_24 dX2_judgeWhole_9 (fun v1 hf => ?_)
  refine x_ige hC 39 hf dX2_judgeWhole_12 (by decide) (fun hf => ?_) (fun hf => ?_)
  · obtain rfl := Option.some.inj hf
    exact hR _ _ _ _ hI dX2_judgeWhole_39
  · refine lv_aload_n hx hb dX2_judgeWhole_15 rfl (lv_at hl 0 rfl) ?_
    refine gX2_3 hC hI hf lkf_X2_21 dX2_judgeWhole_16 (fun hf => ?_)
    refine lv_iload_n hx hb dX2_judgeWhole_19 rfl (lv_at hl 1 rfl) ?_
    refine aX2_3 hC hI hf dX2_judgeWhole_20 (fun v2 hf => ?_)
    refine lv_aload_n hx hb dX2_judgeWhole_21 rfl (lv_at hl 0 rfl) ?_
    refine gX2_4 hC hI hf lkf_X2_24 dX2_judgeWhole_22 (fun v3 hf => ?_)
    refine x_ile hC 33 hf dX2_judgeWhole_25 (by decide) (fun hf => ?_) (fun hf => ?_)
    · exact w_X2_judgeWhole_33 hC hR hrec7 hI (lv_sub hl [0, 1] rfl) hf
    · refine lv_aload_n hx hb dX2_judgeWhole_28 rfl (lv_at hl 0 rfl) ?_
      refine lv_iconst (v := (0 : Int32)) hx hb dX2_judgeWhole_29 (by decide) ?_
      refine pX2_5 hC hI hf lkf_X2_28 dX2_judgeWhole_30 (fun S H locs hI hf => ?_)
      exact w_X2_judgeWhole_33 hC hR hrec7 hI (lv_sub hl [0, 1] rfl) hf
theorem w_X2_judgeWhole_7_loop {r : x_S} (hC : x_C p s m args meth c cX2_judgeWhole 2 RX2 E A) (hR : x_Rv p l e { frames := 0, cells := 0, slots := 0, locals := 0 } s m args below meth c cX2_judgeWhole E A Q (cw E ad ap r)) : ∀ (k : Nat) (z : x_S × Nat × Int32), x_loop (fun rec z => f_X2_judgeWhole_7 n rec z.1 z.2.1 z.2.2) k z = some r → ∀ (H : Heap) (locs : List Loc) (ls : Array Slot), x_I E A s.heap (cw E ad ap z.1) H locs → lv_has ls 2 [(0, .ref (ap z.2.1 0)), (1, .int z.2.2)] → W p l e { frames := 0, cells := 0, slots := 0, locals := 0 } s m args below meth c H locs 0 0 Q (F0 m 7 ls []) :=
  x_loop_ind (P := fun (z : x_S × Nat × Int32) => ∀ (H : Heap) (locs : List Loc) (ls : Array Slot), x_I E A s.heap (cw E ad ap z.1) H locs → lv_has ls 2 [(0, .ref (ap z.2.1 0)), (1, .int z.2.2)] → W p l e { frames := 0, cells := 0, slots := 0, locals := 0 } s m args below meth c H locs 0 0 Q (F0 m 7 ls [])) (fun rec hrec z hf H locs ls hI hl => w_X2_judgeWhole_7 hC hR hrec hI hl hf)
def f_X2_judgeWhole (n : Nat) (S : x_S) (a0 : Nat) : Option (x_S) :=
x_g (a0 < g_np S) (x_g ((1 : Int32) = 0 ∨ (1 : Int32) = 1) (x_let (s_ps S 5 a0 (1 : Int32)) (fun S =>
x_loop (fun rec z => f_X2_judgeWhole_7 n rec z.1 z.2.1 z.2.2) n (S, a0, (0 : Int32)))))
set_option maxHeartbeats 4000000 in
set_option maxRecDepth 100000 in
theorem w_X2_judgeWhole {r : x_S} {a0 : Nat} (hC : x_C p s m args meth c cX2_judgeWhole 2 RX2 E A) (hR : x_Rv p l e { frames := 0, cells := 0, slots := 0, locals := 0 } s m args below meth c cX2_judgeWhole E A Q (cw E ad ap r)) (hI : x_I E A s.heap (cw E ad ap S) H locs) (hl : lv_has ls 2 [(0, .ref (ap a0 0))]) (hf : f_X2_judgeWhole n S a0 = some r) : W p l e { frames := 0, cells := 0, slots := 0, locals := 0 } s m args below meth c H locs 0 0 Q (F0 m 0 ls []) := by
  obtain ⟨hx, hb, hml, hown, hts, hK, hN, hA⟩ := id hC
  unfold f_X2_judgeWhole at hf
  refine lv_aload_n hx hb dX2_judgeWhole_0 rfl (lv_at hl 0 rfl) ?_
  refine lv_iconst (v := (1 : Int32)) hx hb dX2_judgeWhole_1 (by decide) ?_
  refine pX2_5 hC hI hf lkf_X2_28 dX2_judgeWhole_2 (fun S H locs hI hf => ?_)
  refine lv_iconst (v := (0 : Int32)) hx hb dX2_judgeWhole_5 (by decide) ?_
  refine lv_istore_n (lv' := [(1, .int (0 : Int32)), (0, .ref (ap a0 0))]) hx hb dX2_judgeWhole_6 rfl hl (by decide) rfl (fun ls hl => ?_)
  exact w_X2_judgeWhole_7_loop hC hR _ _ hf _ _ _ hI (lv_sub hl [1, 0] rfl)
theorem c_X2_judgeWhole {a0 : Nat} {S1 : x_S} (hf : f_X2_judgeWhole n S a0 = some S1) : x_M l yX2_judgeWhole cX2_judgeWhole 2 none 0 0 E [.ref (ap a0 0)] (cw E ad ap S) (cw E ad ap S1) none :=
  x_entV (by decide) (Nat.le_of_ble_eq_true rfl) (fun p e s m args below meth c A Q ls hC hI hR hl => w_X2_judgeWhole (r := S1) hC hR hI hl hf)
-- X6_change
def f_X6_change (n : Nat) (S : x_S) (a1 : Nat) (a2 : Int32) (a3 : Int32) (a4 : Int32) (a5 : Int32) (a6 : Int32) : Option (x_S) :=
x_g (a1 < g_np S) (x_b (f_X2_put n S a1 a2 a3 a4 a5 a6) (fun S =>
x_g (a1 < g_np S) (x_b (f_X2_judgeWhole n S a1) (fun S =>
x_let (s_sc S 603 (-1 : Int32)) (fun S =>
some S)))))
set_option maxHeartbeats 4000000 in
set_option maxRecDepth 100000 in
theorem w_X6_change {r : x_S} {a1 : Nat} {a2 : Int32} {a3 : Int32} {a4 : Int32} {a5 : Int32} {a6 : Int32} (hC : x_C p s m args meth c cX6_change 7 RX6 E A) (hR : x_Rv p l e { frames := 2, cells := 0, slots := 0, locals := 45 } s m args below meth c cX6_change E A Q (cw E ad ap r)) (hI : x_I E A s.heap (cw E ad ap S) H locs) (hl : lv_has ls 7 [(0, .ref (ad 699)), (1, .ref (ap a1 0)), (2, .int a2), (3, .int a3), (4, .int a4), (5, .int a5), (6, .int a6)]) (hf : f_X6_change n S a1 a2 a3 a4 a5 a6 = some r) : W p l e { frames := 2, cells := 0, slots := 0, locals := 45 } s m args below meth c H locs 0 0 Q (F0 m 0 ls []) := by
  obtain ⟨hx, hb, hml, hown, hts, hK, hN, hA⟩ := id hC
  unfold f_X6_change at hf
  refine lv_aload_n hx hb dX6_change_0 rfl (lv_at hl 1 rfl) ?_
  refine lv_iload_n hx hb dX6_change_1 rfl (lv_at hl 2 rfl) ?_
  refine lv_iload_n hx hb dX6_change_2 rfl (lv_at hl 3 rfl) ?_
  refine lv_iload hx hb dX6_change_3 (lv_at hl 4 rfl) ?_
  refine lv_iload hx hb dX6_change_5 (lv_at hl 5 rfl) ?_
  refine lv_iload hx hb dX6_change_7 (lv_at hl 6 rfl) ?_
  obtain ⟨h9, hf⟩ := x_g_eq hf
  obtain ⟨S, hc1, hf⟩ := x_b_eq hf
  refine x_callV hC hI (c_X2_put hc1) (36 + (5 * a1 + 0)) 2 (x_cw_get E ad ap _ a1 0 (by decide) h9) rfl kv_X6_191 rfl ⟨Nat.le_of_ble_eq_true rfl, Nat.le_of_ble_eq_true rfl⟩ ⟨Nat.le_refl _, Nat.le_refl _⟩ hl.1 rfl (Nat.le_of_ble_eq_true rfl) dX6_change_9 (fun H locs hI => ?_)
  refine lv_aload_n hx hb dX6_change_12 rfl (lv_at hl 1 rfl) ?_
  obtain ⟨h9, hf⟩ := x_g_eq hf
  obtain ⟨S, hc2, hf⟩ := x_b_eq hf
  refine x_callV hC hI (c_X2_judgeWhole hc2) (36 + (5 * a1 + 0)) 2 (x_cw_get E ad ap _ a1 0 (by decide) h9) rfl kv_X6_195 rfl ⟨Nat.le_of_ble_eq_true rfl, Nat.le_of_ble_eq_true rfl⟩ ⟨Nat.le_refl _, Nat.le_refl _⟩ hl.1 rfl (Nat.le_of_ble_eq_true rfl) dX6_change_13 (fun H locs hI => ?_)
  refine lv_aload_n hx hb dX6_change_16 rfl (lv_at hl 0 rfl) ?_
  refine lv_iconst (v := (-1 : Int32)) hx hb dX6_change_17 (by decide) ?_
  refine pX6_3 hC hI hf lkf_X6_26 dX6_change_18 (fun S H locs hI hf => ?_)
  obtain rfl := Option.some.inj hf
  exact hR _ _ _ _ hI dX6_change_21
theorem c_X6_change {a1 : Nat} {a2 : Int32} {a3 : Int32} {a4 : Int32} {a5 : Int32} {a6 : Int32} {S1 : x_S} (hf : f_X6_change n S a1 a2 a3 a4 a5 a6 = some S1) : x_M l yX6_change cX6_change 7 none 2 45 E [.ref (ad 699), .ref (ap a1 0), .int a2, .int a3, .int a4, .int a5, .int a6] (cw E ad ap S) (cw E ad ap S1) none :=
  x_entV (by decide) (Nat.le_of_ble_eq_true rfl) (fun p e s m args below meth c A Q ls hC hI hR hl => w_X6_change (r := S1) hC hR hI hl hf)
-- X6_act
def f_X6_act (n : Nat) (S : x_S) (a1 : Int32) (a2 : Int32) (a3 : Int32) (a4 : Int32) (a5 : Int32) : Option (Int32 × x_S) :=
x_b2 (f_X6_find n S a1) (fun o2 S => x_o o2 (
some ((-2 : Int32), S)) (fun i3 =>
x_b (f_X6_isAct n a2 a3 a4 a5) (fun v5 =>
if v5 = 0 then
some ((-2 : Int32), S)
else
x_g (i3 < g_np S) (x_let (g_ps S 4 i3) (fun v6 =>
if v6 < (60 : Int32) then
x_g (i3 < g_np S) (x_let (s_ps S 4 i3 (v6 + (1 : Int32))) (fun S =>
x_b (f_X6_change n S i3 v6 a2 a3 a4 a5) (fun S =>
some (v6, S))))
else
some ((-4 : Int32), S))))))
set_option maxHeartbeats 4000000 in
set_option maxRecDepth 100000 in
theorem w_X6_act {r : Int32 × x_S} {a1 : Int32} {a2 : Int32} {a3 : Int32} {a4 : Int32} {a5 : Int32} (hC : x_C p s m args meth c cX6_act 8 RX6 E A) (hR : x_Ri p l e { frames := 3, cells := 0, slots := 0, locals := 71 } s m args below meth c cX6_act E A Q (cw E ad ap r.2) r.1) (hI : x_I E A s.heap (cw E ad ap S) H locs) (hl : lv_has ls 8 [(0, .ref (ad 699)), (1, .int a1), (2, .int a2), (3, .int a3), (4, .int a4), (5, .int a5)]) (hf : f_X6_act n S a1 a2 a3 a4 a5 = some r) : W p l e { frames := 3, cells := 0, slots := 0, locals := 71 } s m args below meth c H locs 0 0 Q (F0 m 0 ls []) := by
  obtain ⟨hx, hb, hml, hown, hts, hK, hN, hA⟩ := id hC
  unfold f_X6_act at hf
  refine lv_aload_n hx hb dX6_act_0 rfl (lv_at hl 0 rfl) ?_
  refine lv_iload_n hx hb dX6_act_1 rfl (lv_at hl 1 rfl) ?_
  obtain ⟨o2, S, hc1, hf⟩ := x_b2_eq hf
  refine x_callV hC hI (c_X6_find hc1) 0 6 rfl rfl kv_X6_68 rfl ⟨Nat.le_of_ble_eq_true rfl, Nat.le_of_ble_eq_true rfl⟩ ⟨Nat.le_refl _, Nat.le_refl _⟩ hl.1 rfl (Nat.le_of_ble_eq_true rfl) dX6_act_2 (fun H locs hI => ?_)
  refine x_casesR hf (fun hf => ?_) (fun i3 hf => ?_)
  · refine lv_astoreN (lv' := [(6, .null), (0, .ref (ad 699)), (1, .int a1), (2, .int a2), (3, .int a3), (4, .int a4), (5, .int a5)]) hx hb dX6_act_5 hl (by decide) rfl (fun ls hl => ?_)
    refine lv_aloadN hx hb dX6_act_7 (lv_at hl 0 rfl) ?_
    refine lv_ifnullN (tgt := 24) hx hb dX6_act_9 (by decide) ?_
    refine lv_bipush (v := (-2 : Int32)) hx hb dX6_act_24 (by decide) ?_
    obtain rfl := Option.some.inj hf
    exact hR _ _ _ _ hI dX6_act_26
  · refine lv_astore (lv' := [(6, .ref (ap i3 0)), (0, .ref (ad 699)), (1, .int a1), (2, .int a2), (3, .int a3), (4, .int a4), (5, .int a5)]) hx hb dX6_act_5 hl (by decide) rfl (fun ls hl => ?_)
    refine lv_aload hx hb dX6_act_7 (lv_at hl 0 rfl) ?_
    refine lv_ifnull hx hb dX6_act_9 ?_
    refine lv_iload_n hx hb dX6_act_12 rfl (lv_at hl 3 rfl) ?_
    refine lv_iload_n hx hb dX6_act_13 rfl (lv_at hl 4 rfl) ?_
    refine lv_iload hx hb dX6_act_14 (lv_at hl 5 rfl) ?_
    refine lv_iload hx hb dX6_act_16 (lv_at hl 6 rfl) ?_
    obtain ⟨v5, hc4, hf⟩ := x_b_eq hf
    refine x_callS hC hI (c_X6_isAct hc4) ks_X6_72 rfl ⟨Nat.le_of_ble_eq_true rfl, Nat.le_of_ble_eq_true rfl⟩ ⟨Nat.le_refl _, Nat.le_refl _⟩ hl.1 rfl (Nat.le_of_ble_eq_true rfl) dX6_act_18 (fun H locs hI => ?_)
    refine x_ne0 hC 27 hf dX6_act_21 (by decide) (fun hf => ?_) (fun hf => ?_)
    · refine lv_aload hx hb dX6_act_27 (lv_at hl 0 rfl) ?_
      refine gX2_4 hC hI hf lkf_X6_76 dX6_act_29 (fun v6 hf => ?_)
      refine lv_istore (lv' := [(7, .int v6), (6, .ref (ap i3 0)), (0, .ref (ad 699)), (1, .int a1), (2, .int a2), (3, .int a3), (4, .int a4), (5, .int a5)]) hx hb dX6_act_32 hl (by decide) rfl (fun ls hl => ?_)
      refine lv_iload hx hb dX6_act_34 (lv_at hl 0 rfl) ?_
      refine lv_bipush (v := (60 : Int32)) hx hb dX6_act_36 (by decide) ?_
      refine x_ilt hC 44 hf dX6_act_38 (by decide) (fun hf => ?_) (fun hf => ?_)
      · refine lv_aload hx hb dX6_act_44 (lv_at hl 1 rfl) ?_
        refine lv_iload hx hb dX6_act_46 (lv_at hl 0 rfl) ?_
        refine lv_iconst (v := (1 : Int32)) hx hb dX6_act_48 (by decide) ?_
        refine lv_iadd hx hb dX6_act_49 ?_
        refine pX2_4 hC hI hf lkf_X6_76 dX6_act_50 (fun S H locs hI hf => ?_)
        refine lv_aload_n hx hb dX6_act_53 rfl (lv_at hl 2 rfl) ?_
        refine lv_aload hx hb dX6_act_54 (lv_at hl 1 rfl) ?_
        refine lv_iload hx hb dX6_act_56 (lv_at hl 0 rfl) ?_
        refine lv_iload_n hx hb dX6_act_58 rfl (lv_at hl 4 rfl) ?_
        refine lv_iload_n hx hb dX6_act_59 rfl (lv_at hl 5 rfl) ?_
        refine lv_iload hx hb dX6_act_60 (lv_at hl 6 rfl) ?_
        refine lv_iload hx hb dX6_act_62 (lv_at hl 7 rfl) ?_
        obtain ⟨S, hc7, hf⟩ := x_b_eq hf
        refine x_callV hC hI (c_X6_change hc7) 0 6 rfl rfl kv_X6_79 rfl ⟨Nat.le_of_ble_eq_true rfl, Nat.le_of_ble_eq_true rfl⟩ ⟨Nat.le_refl _, Nat.le_refl _⟩ hl.1 rfl (Nat.le_of_ble_eq_true rfl) dX6_act_64 (fun H locs hI => ?_)
        refine lv_iload hx hb dX6_act_67 (lv_at hl 0 rfl) ?_
        obtain rfl := Option.some.inj hf
        exact hR _ _ _ _ hI dX6_act_69
      · refine lv_bipush (v := (-4 : Int32)) hx hb dX6_act_41 (by decide) ?_
        obtain rfl := Option.some.inj hf
        exact hR _ _ _ _ hI dX6_act_43
    · refine lv_bipush (v := (-2 : Int32)) hx hb dX6_act_24 (by decide) ?_
      obtain rfl := Option.some.inj hf
      exact hR _ _ _ _ hI dX6_act_26
theorem c_X6_act {a1 : Int32} {a2 : Int32} {a3 : Int32} {a4 : Int32} {a5 : Int32} {v : Int32} {S1 : x_S} (hf : f_X6_act n S a1 a2 a3 a4 a5 = some (v, S1)) : x_M l yX6_act cX6_act 8 (some .int) 3 71 E [.ref (ad 699), .int a1, .int a2, .int a3, .int a4, .int a5] (cw E ad ap S) (cw E ad ap S1) (some (.int v)) :=
  x_entI (by decide) (Nat.le_of_ble_eq_true rfl) (fun p e s m args below meth c A Q ls hC hI hR hl => w_X6_act (r := (v, S1)) hC hR hI hl hf)
-- X2_has
def f_X2_has (n : Nat) (S : x_S) (a0 : Nat) (a1 : Int32) : Option (Int32 × x_S) :=
if a1 < 0 then
x_g ((0 : Int32) = 0 ∨ (0 : Int32) = 1) (some ((0 : Int32), S))
else
x_g (a0 < g_np S) (x_let (g_ps S 4 a0) (fun v1 =>
if v1 ≤ a1 then
x_g ((0 : Int32) = 0 ∨ (0 : Int32) = 1) (some ((0 : Int32), S))
else
x_g ((1 : Int32) = 0 ∨ (1 : Int32) = 1) (some ((1 : Int32), S))))
set_option maxHeartbeats 4000000 in
set_option maxRecDepth 100000 in
theorem w_X2_has {r : Int32 × x_S} {a0 : Nat} {a1 : Int32} (hC : x_C p s m args meth c cX2_has 2 RX2 E A) (hR : x_Rz p l e { frames := 0, cells := 0, slots := 0, locals := 0 } s m args below meth c cX2_has E A Q (cw E ad ap r.2) r.1) (hI : x_I E A s.heap (cw E ad ap S) H locs) (hl : lv_has ls 2 [(0, .ref (ap a0 0)), (1, .int a1)]) (hf : f_X2_has n S a0 a1 = some r) : W p l e { frames := 0, cells := 0, slots := 0, locals := 0 } s m args below meth c H locs 0 0 Q (F0 m 0 ls []) := by
  obtain ⟨hx, hb, hml, hown, hts, hK, hN, hA⟩ := id hC
  unfold f_X2_has at hf
  refine lv_iload_n hx hb dX2_has_0 rfl (lv_at hl 1 rfl) ?_
  refine x_lt0 hC 16 hf dX2_has_1 (by decide) (fun hf => ?_) (fun hf => ?_)
  · refine lv_iconst (v := (0 : Int32)) hx hb dX2_has_16 (by decide) ?_
    obtain ⟨h9, hf⟩ := x_g_eq hf
    obtain rfl := Option.some.inj hf
    exact hR _ _ _ _ h9 hI dX2_has_17
  · refine lv_iload_n hx hb dX2_has_4 rfl (lv_at hl 1 rfl) ?_
    refine lv_aload_n hx hb dX2_has_5 rfl (lv_at hl 0 rfl) ?_
    refine gX2_4 hC hI hf lkf_X2_24 dX2_has_6 (fun v1 hf => ?_)
    refine x_ige hC 16 hf dX2_has_9 (by decide) (fun hf => ?_) (fun hf => ?_)
    · refine lv_iconst (v := (0 : Int32)) hx hb dX2_has_16 (by decide) ?_
      obtain ⟨h9, hf⟩ := x_g_eq hf
      obtain rfl := Option.some.inj hf
      exact hR _ _ _ _ h9 hI dX2_has_17
    · refine lv_iconst (v := (1 : Int32)) hx hb dX2_has_12 (by decide) ?_
      refine lv_goto (tgt := 17) hx hb dX2_has_13 (by decide) ?_
      obtain ⟨h9, hf⟩ := x_g_eq hf
      obtain rfl := Option.some.inj hf
      exact hR _ _ _ _ h9 hI dX2_has_17
theorem c_X2_has {a0 : Nat} {a1 : Int32} {v : Int32} {S1 : x_S} (hf : f_X2_has n S a0 a1 = some (v, S1)) : x_M l yX2_has cX2_has 2 (some .boolean) 0 0 E [.ref (ap a0 0), .int a1] (cw E ad ap S) (cw E ad ap S1) (some (.int v)) :=
  x_entZ (by decide) (Nat.le_of_ble_eq_true rfl) (fun p e s m args below meth c A Q ls hC hI hR hl => w_X2_has (r := (v, S1)) hC hR hI hl hf)
-- X6_alter
def f_X6_alter (n : Nat) (S : x_S) (a1 : Int32) (a2 : Int32) (a3 : Int32) (a4 : Int32) (a5 : Int32) (a6 : Int32) : Option (Int32 × x_S) :=
x_b2 (f_X6_find n S a1) (fun o2 S => x_o o2 (
some ((-2 : Int32), S)) (fun i3 =>
x_g (i3 < g_np S) (x_b2 (f_X2_has n S i3 a2) (fun v5 S =>
if v5 = 0 then
some ((-2 : Int32), S)
else
x_b (f_X6_isAct n a3 a4 a5 a6) (fun v7 =>
if v7 = 0 then
some ((-2 : Int32), S)
else
x_b (f_X6_change n S i3 a2 a3 a4 a5 a6) (fun S =>
some (a2, S)))))))
set_option maxHeartbeats 4000000 in
set_option maxRecDepth 100000 in
theorem w_X6_alter {r : Int32 × x_S} {a1 : Int32} {a2 : Int32} {a3 : Int32} {a4 : Int32} {a5 : Int32} {a6 : Int32} (hC : x_C p s m args meth c cX6_alter 8 RX6 E A) (hR : x_Ri p l e { frames := 3, cells := 0, slots := 0, locals := 71 } s m args below meth c cX6_alter E A Q (cw E ad ap r.2) r.1) (hI : x_I E A s.heap (cw E ad ap S) H locs) (hl : lv_has ls 8 [(0, .ref (ad 699)), (1, .int a1), (2, .int a2), (3, .int a3), (4, .int a4), (5, .int a5), (6, .int a6)]) (hf : f_X6_alter n S a1 a2 a3 a4 a5 a6 = some r) : W p l e { frames := 3, cells := 0, slots := 0, locals := 71 } s m args below meth c H locs 0 0 Q (F0 m 0 ls []) := by
  obtain ⟨hx, hb, hml, hown, hts, hK, hN, hA⟩ := id hC
  unfold f_X6_alter at hf
  refine lv_aload_n hx hb dX6_alter_0 rfl (lv_at hl 0 rfl) ?_
  refine lv_iload_n hx hb dX6_alter_1 rfl (lv_at hl 1 rfl) ?_
  obtain ⟨o2, S, hc1, hf⟩ := x_b2_eq hf
  refine x_callV hC hI (c_X6_find hc1) 0 6 rfl rfl kv_X6_68 rfl ⟨Nat.le_of_ble_eq_true rfl, Nat.le_of_ble_eq_true rfl⟩ ⟨Nat.le_refl _, Nat.le_refl _⟩ hl.1 rfl (Nat.le_of_ble_eq_true rfl) dX6_alter_2 (fun H locs hI => ?_)
  refine x_casesR hf (fun hf => ?_) (fun i3 hf => ?_)
  · refine lv_astoreN (lv' := [(7, .null), (0, .ref (ad 699)), (1, .int a1), (2, .int a2), (3, .int a3), (4, .int a4), (5, .int a5), (6, .int a6)]) hx hb dX6_alter_5 hl (by decide) rfl (fun ls hl => ?_)
    refine lv_aloadN hx hb dX6_alter_7 (lv_at hl 0 rfl) ?_
    refine lv_ifnullN (tgt := 34) hx hb dX6_alter_9 (by decide) ?_
    refine lv_bipush (v := (-2 : Int32)) hx hb dX6_alter_34 (by decide) ?_
    obtain rfl := Option.some.inj hf
    exact hR _ _ _ _ hI dX6_alter_36
  · refine lv_astore (lv' := [(7, .ref (ap i3 0)), (0, .ref (ad 699)), (1, .int a1), (2, .int a2), (3, .int a3), (4, .int a4), (5, .int a5), (6, .int a6)]) hx hb dX6_alter_5 hl (by decide) rfl (fun ls hl => ?_)
    refine lv_aload hx hb dX6_alter_7 (lv_at hl 0 rfl) ?_
    refine lv_ifnull hx hb dX6_alter_9 ?_
    refine lv_aload hx hb dX6_alter_12 (lv_at hl 0 rfl) ?_
    refine lv_iload_n hx hb dX6_alter_14 rfl (lv_at hl 3 rfl) ?_
    obtain ⟨h9, hf⟩ := x_g_eq hf
    obtain ⟨v5, S, hc4, hf⟩ := x_b2_eq hf
    refine x_callV hC hI (c_X2_has hc4) (36 + (5 * i3 + 0)) 2 (x_cw_get E ad ap _ i3 0 (by decide) h9) rfl kv_X6_83 rfl ⟨Nat.le_of_ble_eq_true rfl, Nat.le_of_ble_eq_true rfl⟩ ⟨Nat.le_refl _, Nat.le_refl _⟩ hl.1 rfl (Nat.le_of_ble_eq_true rfl) dX6_alter_15 (fun H locs hI => ?_)
    refine x_eq0 hC 34 hf dX6_alter_18 (by decide) (fun hf => ?_) (fun hf => ?_)
    · refine lv_bipush (v := (-2 : Int32)) hx hb dX6_alter_34 (by decide) ?_
      obtain rfl := Option.some.inj hf
      exact hR _ _ _ _ hI dX6_alter_36
    · refine lv_iload_n hx hb dX6_alter_21 rfl (lv_at hl 4 rfl) ?_
      refine lv_iload hx hb dX6_alter_22 (lv_at hl 5 rfl) ?_
      refine lv_iload hx hb dX6_alter_24 (lv_at hl 6 rfl) ?_
      refine lv_iload hx hb dX6_alter_26 (lv_at hl 7 rfl) ?_
      obtain ⟨v7, hc6, hf⟩ := x_b_eq hf
      refine x_callS hC hI (c_X6_isAct hc6) ks_X6_72 rfl ⟨Nat.le_of_ble_eq_true rfl, Nat.le_of_ble_eq_true rfl⟩ ⟨Nat.le_refl _, Nat.le_refl _⟩ hl.1 rfl (Nat.le_of_ble_eq_true rfl) dX6_alter_28 (fun H locs hI => ?_)
      refine x_ne0 hC 37 hf dX6_alter_31 (by decide) (fun hf => ?_) (fun hf => ?_)
      · refine lv_aload_n hx hb dX6_alter_37 rfl (lv_at hl 1 rfl) ?_
        refine lv_aload hx hb dX6_alter_38 (lv_at hl 0 rfl) ?_
        refine lv_iload_n hx hb dX6_alter_40 rfl (lv_at hl 3 rfl) ?_
        refine lv_iload_n hx hb dX6_alter_41 rfl (lv_at hl 4 rfl) ?_
        refine lv_iload hx hb dX6_alter_42 (lv_at hl 5 rfl) ?_
        refine lv_iload hx hb dX6_alter_44 (lv_at hl 6 rfl) ?_
        refine lv_iload hx hb dX6_alter_46 (lv_at hl 7 rfl) ?_
        obtain ⟨S, hc8, hf⟩ := x_b_eq hf
        refine x_callV hC hI (c_X6_change hc8) 0 6 rfl rfl kv_X6_79 rfl ⟨Nat.le_of_ble_eq_true rfl, Nat.le_of_ble_eq_true rfl⟩ ⟨Nat.le_refl _, Nat.le_refl _⟩ hl.1 rfl (Nat.le_of_ble_eq_true rfl) dX6_alter_48 (fun H locs hI => ?_)
        refine lv_iload_n hx hb dX6_alter_51 rfl (lv_at hl 3 rfl) ?_
        obtain rfl := Option.some.inj hf
        exact hR _ _ _ _ hI dX6_alter_52
      · refine lv_bipush (v := (-2 : Int32)) hx hb dX6_alter_34 (by decide) ?_
        obtain rfl := Option.some.inj hf
        exact hR _ _ _ _ hI dX6_alter_36
theorem c_X6_alter {a1 : Int32} {a2 : Int32} {a3 : Int32} {a4 : Int32} {a5 : Int32} {a6 : Int32} {v : Int32} {S1 : x_S} (hf : f_X6_alter n S a1 a2 a3 a4 a5 a6 = some (v, S1)) : x_M l yX6_alter cX6_alter 8 (some .int) 3 71 E [.ref (ad 699), .int a1, .int a2, .int a3, .int a4, .int a5, .int a6] (cw E ad ap S) (cw E ad ap S1) (some (.int v)) :=
  x_entI (by decide) (Nat.le_of_ble_eq_true rfl) (fun p e s m args below meth c A Q ls hC hI hR hl => w_X6_alter (r := (v, S1)) hC hR hI hl hf)
-- X4_empty
def f_X4_empty (n : Nat) (S : x_S) : Option (x_S) :=
x_let (s_sc S 408 (0 : Int32)) (fun S =>
x_let (s_sc S 409 (0 : Int32)) (fun S =>
x_let (s_sc S 410 (0 : Int32)) (fun S =>
x_let (s_sc S 411 (0 : Int32)) (fun S =>
some S))))
set_option maxHeartbeats 4000000 in
set_option maxRecDepth 100000 in
theorem w_X4_empty {r : x_S} (hC : x_C p s m args meth c cX4_empty 1 RX4 E A) (hR : x_Rv p l e { frames := 0, cells := 0, slots := 0, locals := 0 } s m args below meth c cX4_empty E A Q (cw E ad ap r)) (hI : x_I E A s.heap (cw E ad ap S) H locs) (hl : lv_has ls 1 [(0, .ref (ad 499))]) (hf : f_X4_empty n S = some r) : W p l e { frames := 0, cells := 0, slots := 0, locals := 0 } s m args below meth c H locs 0 0 Q (F0 m 0 ls []) := by
  obtain ⟨hx, hb, hml, hown, hts, hK, hN, hA⟩ := id hC
  unfold f_X4_empty at hf
  refine lv_aload_n hx hb dX4_empty_0 rfl (lv_at hl 0 rfl) ?_
  refine lv_iconst (v := (0 : Int32)) hx hb dX4_empty_1 (by decide) ?_
  refine pX4_8 hC hI hf lkf_X4_36 dX4_empty_2 (fun S H locs hI hf => ?_)
  refine lv_aload_n hx hb dX4_empty_5 rfl (lv_at hl 0 rfl) ?_
  refine lv_iconst (v := (0 : Int32)) hx hb dX4_empty_6 (by decide) ?_
  refine pX4_9 hC hI hf lkf_X4_40 dX4_empty_7 (fun S H locs hI hf => ?_)
  refine lv_aload_n hx hb dX4_empty_10 rfl (lv_at hl 0 rfl) ?_
  refine lv_iconst (v := (0 : Int32)) hx hb dX4_empty_11 (by decide) ?_
  refine pX4_10 hC hI hf lkf_X4_43 dX4_empty_12 (fun S H locs hI hf => ?_)
  refine lv_aload_n hx hb dX4_empty_15 rfl (lv_at hl 0 rfl) ?_
  refine lv_iconst (v := (0 : Int32)) hx hb dX4_empty_16 (by decide) ?_
  refine pX4_11 hC hI hf lkf_X4_46 dX4_empty_17 (fun S H locs hI hf => ?_)
  obtain rfl := Option.some.inj hf
  exact hR _ _ _ _ hI dX4_empty_20
theorem c_X4_empty {S1 : x_S} (hf : f_X4_empty n S = some S1) : x_M l yX4_empty cX4_empty 1 none 0 0 E [.ref (ad 499)] (cw E ad ap S) (cw E ad ap S1) none :=
  x_entV (by decide) (Nat.le_of_ble_eq_true rfl) (fun p e s m args below meth c A Q ls hC hI hR hl => w_X4_empty (r := S1) hC hR hI hl hf)
-- X4_word
def f_X4_word (n : Nat) (S : x_S) (a1 : Int32) : Option (x_S) :=
x_let (g_sc S 409) (fun v1 =>
if (241 : Int32) ≤ v1 then
some S
else
x_let (g_sc S 409) (fun v2 =>
x_g (¬ (v2 < 0 ∨ 241 ≤ (v2).toNatClampNeg)) (x_let (s_ar S 407 (v2).toNatClampNeg a1) (fun S =>
x_let (g_sc S 409) (fun v3 =>
x_let (s_sc S 409 (v3 + (1 : Int32))) (fun S =>
some S))))))
set_option maxHeartbeats 4000000 in
set_option maxRecDepth 100000 in
theorem w_X4_word {r : x_S} {a1 : Int32} (hC : x_C p s m args meth c cX4_word 2 RX4 E A) (hR : x_Rv p l e { frames := 0, cells := 0, slots := 0, locals := 0 } s m args below meth c cX4_word E A Q (cw E ad ap r)) (hI : x_I E A s.heap (cw E ad ap S) H locs) (hl : lv_has ls 2 [(0, .ref (ad 499)), (1, .int a1)]) (hf : f_X4_word n S a1 = some r) : W p l e { frames := 0, cells := 0, slots := 0, locals := 0 } s m args below meth c H locs 0 0 Q (F0 m 0 ls []) := by
  obtain ⟨hx, hb, hml, hown, hts, hK, hN, hA⟩ := id hC
  unfold f_X4_word at hf
  refine lv_aload_n hx hb dX4_word_0 rfl (lv_at hl 0 rfl) ?_
  refine gX4_9 hC hI hf lkf_X4_40 dX4_word_1 (fun v1 hf => ?_)
  refine lv_sipush (v := (241 : Int32)) hx hb dX4_word_4 (by decide) ?_
  refine x_ige hC 30 hf dX4_word_7 (by decide) (fun hf => ?_) (fun hf => ?_)
  · obtain rfl := Option.some.inj hf
    exact hR _ _ _ _ hI dX4_word_30
  · refine lv_aload_n hx hb dX4_word_10 rfl (lv_at hl 0 rfl) ?_
    refine gX4_7 hC hI lkf_X4_33 dX4_word_11 ?_
    refine lv_aload_n hx hb dX4_word_14 rfl (lv_at hl 0 rfl) ?_
    refine gX4_9 hC hI hf lkf_X4_40 dX4_word_15 (fun v2 hf => ?_)
    refine lv_iload_n hx hb dX4_word_18 rfl (lv_at hl 1 rfl) ?_
    refine tX4_7 hC hI hf dX4_word_19 (fun S H locs hI hf => ?_)
    refine lv_aload_n hx hb dX4_word_20 rfl (lv_at hl 0 rfl) ?_
    refine lv_dup hx hb dX4_word_21 rfl ?_
    refine gX4_9 hC hI hf lkf_X4_40 dX4_word_22 (fun v3 hf => ?_)
    refine lv_iconst (v := (1 : Int32)) hx hb dX4_word_25 (by decide) ?_
    refine lv_iadd hx hb dX4_word_26 ?_
    refine pX4_9 hC hI hf lkf_X4_40 dX4_word_27 (fun S H locs hI hf => ?_)
    obtain rfl := Option.some.inj hf
    exact hR _ _ _ _ hI dX4_word_30
theorem c_X4_word {a1 : Int32} {S1 : x_S} (hf : f_X4_word n S a1 = some S1) : x_M l yX4_word cX4_word 2 none 0 0 E [.ref (ad 499), .int a1] (cw E ad ap S) (cw E ad ap S1) none :=
  x_entV (by decide) (Nat.le_of_ble_eq_true rfl) (fun p e s m args below meth c A Q ls hC hI hR hl => w_X4_word (r := S1) hC hR hI hl hf)
end
