section
variable {p : Program} {l : Launch} {e : Env} {s : State} {m : MethodId} {args : Array Value} {below : List Frame} {meth : Method} {c : Code} {H : Heap} {locs : List Loc} {Q : State → Prop}
variable {E : x_E} {A : Nat → Prop} {ls : Array Slot} {ad : Nat → Nat} {ap : Nat → Nat → Nat} {S : x_S} {w : va_W} {n : Nat}
-- X7_like
def f_X7_like (n : Nat) (S : x_S) (a1 : Int32) (a2 : Int32) : Option (Int32 × x_S) :=
x_b2 (f_X7_isRoutine n S a1) (fun v2 S =>
if v2 = 0 then
some ((-2 : Int32), S)
else
x_b2 (f_X7_isRoutine n S a2) (fun v4 S =>
if v4 = 0 then
some ((-2 : Int32), S)
else
x_b2 (f_X7_areLike n S a1 a2) (fun v6 S =>
if v6 = 0 then
some ((0 : Int32), S)
else
some ((1 : Int32), S))))
set_option maxHeartbeats 4000000 in
set_option maxRecDepth 100000 in
theorem w_X7_like {r : Int32 × x_S} {a1 : Int32} {a2 : Int32} (hC : x_C p s m args meth c cX7_like 3 RX7 E A) (hR : x_Ri p l e { frames := 2, cells := 0, slots := 0, locals := 43 } s m args below meth c cX7_like E A Q (mw E ad r.2) r.1) (hI : x_I E A s.heap (mw E ad S) H locs) (hl : lv_has ls 3 [(0, .ref (ad 799)), (1, .int a1), (2, .int a2)]) (hf : f_X7_like n S a1 a2 = some r) : W p l e { frames := 2, cells := 0, slots := 0, locals := 43 } s m args below meth c H locs 0 0 Q (F0 m 0 ls []) := by
  obtain ⟨hx, hb, hml, hown, hts, hK, hN, hA⟩ := id hC
  unfold f_X7_like at hf
  refine lv_aload_n hx hb dX7_like_0 rfl (lv_at hl 0 rfl) ?_
  refine lv_iload_n hx hb dX7_like_1 rfl (lv_at hl 1 rfl) ?_
  obtain ⟨v2, S, hc1, hf⟩ := x_b2_eq hf
  refine x_callV hC hI (c_X7_isRoutine hc1) 0 7 rfl rfl kv_X7_142 rfl ⟨Nat.le_of_ble_eq_true rfl, Nat.le_of_ble_eq_true rfl⟩ ⟨Nat.le_refl _, Nat.le_refl _⟩ hl.1 rfl (Nat.le_of_ble_eq_true rfl) dX7_like_2 (fun H locs hI => ?_)
  refine x_eq0 hC 33 hf dX7_like_5 (by decide) (fun hf => ?_) (fun hf => ?_)
  · refine lv_bipush (v := (-2 : Int32)) hx hb dX7_like_33 (by decide) ?_
    obtain rfl := Option.some.inj hf
    exact hR _ _ _ _ hI dX7_like_35
  · refine lv_aload_n hx hb dX7_like_8 rfl (lv_at hl 0 rfl) ?_
    refine lv_iload_n hx hb dX7_like_9 rfl (lv_at hl 2 rfl) ?_
    obtain ⟨v4, S, hc3, hf⟩ := x_b2_eq hf
    refine x_callV hC hI (c_X7_isRoutine hc3) 0 7 rfl rfl kv_X7_142 rfl ⟨Nat.le_of_ble_eq_true rfl, Nat.le_of_ble_eq_true rfl⟩ ⟨Nat.le_refl _, Nat.le_refl _⟩ hl.1 rfl (Nat.le_of_ble_eq_true rfl) dX7_like_10 (fun H locs hI => ?_)
    refine x_eq0 hC 33 hf dX7_like_13 (by decide) (fun hf => ?_) (fun hf => ?_)
    · refine lv_bipush (v := (-2 : Int32)) hx hb dX7_like_33 (by decide) ?_
      obtain rfl := Option.some.inj hf
      exact hR _ _ _ _ hI dX7_like_35
    · refine lv_aload_n hx hb dX7_like_16 rfl (lv_at hl 0 rfl) ?_
      refine lv_iload_n hx hb dX7_like_17 rfl (lv_at hl 1 rfl) ?_
      refine lv_iload_n hx hb dX7_like_18 rfl (lv_at hl 2 rfl) ?_
      obtain ⟨v6, S, hc5, hf⟩ := x_b2_eq hf
      refine x_callV hC hI (c_X7_areLike hc5) 0 7 rfl rfl kv_X7_194 rfl ⟨Nat.le_of_ble_eq_true rfl, Nat.le_of_ble_eq_true rfl⟩ ⟨Nat.le_refl _, Nat.le_refl _⟩ hl.1 rfl (Nat.le_of_ble_eq_true rfl) dX7_like_19 (fun H locs hI => ?_)
      refine x_eq0 hC 29 hf dX7_like_22 (by decide) (fun hf => ?_) (fun hf => ?_)
      · refine lv_iconst (v := (0 : Int32)) hx hb dX7_like_29 (by decide) ?_
        refine lv_goto (tgt := 35) hx hb dX7_like_30 (by decide) ?_
        obtain rfl := Option.some.inj hf
        exact hR _ _ _ _ hI dX7_like_35
      · refine lv_iconst (v := (1 : Int32)) hx hb dX7_like_25 (by decide) ?_
        refine lv_goto (tgt := 35) hx hb dX7_like_26 (by decide) ?_
        obtain rfl := Option.some.inj hf
        exact hR _ _ _ _ hI dX7_like_35
theorem c_X7_like {a1 : Int32} {a2 : Int32} {v : Int32} {S1 : x_S} (hf : f_X7_like n S a1 a2 = some (v, S1)) : x_M l yX7_like cX7_like 3 (some .int) 2 43 E [.ref (ad 799), .int a1, .int a2] (mw E ad S) (mw E ad S1) (some (.int v)) :=
  x_entI (by decide) (Nat.le_of_ble_eq_true rfl) (fun p e s m args below meth c A Q ls hC hI hR hl => w_X7_like (r := (v, S1)) hC hR hI hl hf)
-- X7_set
def f_X7_set (n : Nat) (S : x_S) (a1 : Int32) (a2 : Int32) : Option (Int32 × x_S) :=
x_b (f_X7_in n a1 (0 : Int32) (3 : Int32)) (fun v2 =>
if v2 = 0 then
some ((-2 : Int32), S)
else
x_g (¬ (a1 < 0 ∨ 4 ≤ (a1).toNatClampNeg)) (x_let (g_ar S 706 (a1).toNatClampNeg) (fun v3 =>
x_g (¬ (a1 < 0 ∨ 4 ≤ (a1).toNatClampNeg)) (x_let (s_ar S 706 (a1).toNatClampNeg a2) (fun S =>
some (v3, S))))))
set_option maxHeartbeats 4000000 in
set_option maxRecDepth 100000 in
theorem w_X7_set {r : Int32 × x_S} {a1 : Int32} {a2 : Int32} (hC : x_C p s m args meth c cX7_set 4 RX7 E A) (hR : x_Ri p l e { frames := 1, cells := 0, slots := 0, locals := 22 } s m args below meth c cX7_set E A Q (mw E ad r.2) r.1) (hI : x_I E A s.heap (mw E ad S) H locs) (hl : lv_has ls 4 [(0, .ref (ad 799)), (1, .int a1), (2, .int a2)]) (hf : f_X7_set n S a1 a2 = some r) : W p l e { frames := 1, cells := 0, slots := 0, locals := 22 } s m args below meth c H locs 0 0 Q (F0 m 0 ls []) := by
  obtain ⟨hx, hb, hml, hown, hts, hK, hN, hA⟩ := id hC
  unfold f_X7_set at hf
  refine lv_iload_n hx hb dX7_set_0 rfl (lv_at hl 1 rfl) ?_
  refine lv_iconst (v := (0 : Int32)) hx hb dX7_set_1 (by decide) ?_
  refine lv_iconst (v := (3 : Int32)) hx hb dX7_set_2 (by decide) ?_
  obtain ⟨v2, hc1, hf⟩ := x_b_eq hf
  refine x_callS hC hI (c_X7_in hc1) ks_X7_138 rfl ⟨Nat.le_of_ble_eq_true rfl, Nat.le_of_ble_eq_true rfl⟩ ⟨Nat.le_refl _, Nat.le_refl _⟩ hl.1 rfl (Nat.le_of_ble_eq_true rfl) dX7_set_3 (fun H locs hI => ?_)
  refine x_ne0 hC 12 hf dX7_set_6 (by decide) (fun hf => ?_) (fun hf => ?_)
  · refine lv_aload_n hx hb dX7_set_12 rfl (lv_at hl 0 rfl) ?_
    refine gX7_6 hC hI lkf_X7_25 dX7_set_13 ?_
    refine lv_iload_n hx hb dX7_set_16 rfl (lv_at hl 1 rfl) ?_
    refine aX7_6 hC hI hf dX7_set_17 (fun v3 hf => ?_)
    refine lv_istore_n (lv' := [(3, .int v3), (0, .ref (ad 799)), (1, .int a1), (2, .int a2)]) hx hb dX7_set_18 rfl hl (by decide) rfl (fun ls hl => ?_)
    refine lv_aload_n hx hb dX7_set_19 rfl (lv_at hl 1 rfl) ?_
    refine gX7_6 hC hI lkf_X7_25 dX7_set_20 ?_
    refine lv_iload_n hx hb dX7_set_23 rfl (lv_at hl 2 rfl) ?_
    refine lv_iload_n hx hb dX7_set_24 rfl (lv_at hl 3 rfl) ?_
    refine tX7_6 hC hI hf dX7_set_25 (fun S H locs hI hf => ?_)
    refine lv_iload_n hx hb dX7_set_26 rfl (lv_at hl 0 rfl) ?_
    obtain rfl := Option.some.inj hf
    exact hR _ _ _ _ hI dX7_set_27
  · refine lv_bipush (v := (-2 : Int32)) hx hb dX7_set_9 (by decide) ?_
    obtain rfl := Option.some.inj hf
    exact hR _ _ _ _ hI dX7_set_11
theorem c_X7_set {a1 : Int32} {a2 : Int32} {v : Int32} {S1 : x_S} (hf : f_X7_set n S a1 a2 = some (v, S1)) : x_M l yX7_set cX7_set 4 (some .int) 1 22 E [.ref (ad 799), .int a1, .int a2] (mw E ad S) (mw E ad S1) (some (.int v)) :=
  x_entI (by decide) (Nat.le_of_ble_eq_true rfl) (fun p e s m args below meth c A Q ls hC hI hR hl => w_X7_set (r := (v, S1)) hC hR hI hl hf)
-- X7_isSo
def f_X7_isSo (n : Nat) (a0 : Int32) (a1 : Int32) : Option (Int32) :=
if a1 = 0 then
if a0 = 0 then
x_g ((1 : Int32) = 0 ∨ (1 : Int32) = 1) (some (1 : Int32))
else
x_g ((0 : Int32) = 0 ∨ (0 : Int32) = 1) (some (0 : Int32))
else
if a1 = (1 : Int32) then
if a0 = 0 then
x_g ((0 : Int32) = 0 ∨ (0 : Int32) = 1) (some (0 : Int32))
else
x_g ((1 : Int32) = 0 ∨ (1 : Int32) = 1) (some (1 : Int32))
else
if a1 = (2 : Int32) then
if 0 ≤ a0 then
x_g ((0 : Int32) = 0 ∨ (0 : Int32) = 1) (some (0 : Int32))
else
x_g ((1 : Int32) = 0 ∨ (1 : Int32) = 1) (some (1 : Int32))
else
if a1 = (3 : Int32) then
if a0 < 0 then
x_g ((0 : Int32) = 0 ∨ (0 : Int32) = 1) (some (0 : Int32))
else
x_g ((1 : Int32) = 0 ∨ (1 : Int32) = 1) (some (1 : Int32))
else
if a1 = (4 : Int32) then
if a0 ≤ 0 then
x_g ((0 : Int32) = 0 ∨ (0 : Int32) = 1) (some (0 : Int32))
else
x_g ((1 : Int32) = 0 ∨ (1 : Int32) = 1) (some (1 : Int32))
else
if 0 < a0 then
x_g ((0 : Int32) = 0 ∨ (0 : Int32) = 1) (some (0 : Int32))
else
x_g ((1 : Int32) = 0 ∨ (1 : Int32) = 1) (some (1 : Int32))
set_option maxHeartbeats 4000000 in
set_option maxRecDepth 100000 in
theorem w_X7_isSo {r : Int32} {a0 : Int32} {a1 : Int32} (hC : x_C p s m args meth c cX7_isSo 2 RX7 E A) (hR : x_Rz p l e { frames := 0, cells := 0, slots := 0, locals := 0 } s m args below meth c cX7_isSo E A Q w r) (hI : x_I E A s.heap w H locs) (hl : lv_has ls 2 [(0, .int a0), (1, .int a1)]) (hf : f_X7_isSo n a0 a1 = some r) : W p l e { frames := 0, cells := 0, slots := 0, locals := 0 } s m args below meth c H locs 0 0 Q (F0 m 0 ls []) := by
  obtain ⟨hx, hb, hml, hown, hts, hK, hN, hA⟩ := id hC
  unfold f_X7_isSo at hf
  refine lv_iload_n hx hb dX7_isSo_0 rfl (lv_at hl 1 rfl) ?_
  refine x_ne0 hC 16 hf dX7_isSo_1 (by decide) (fun hf => ?_) (fun hf => ?_)
  · refine lv_iload_n hx hb dX7_isSo_16 rfl (lv_at hl 1 rfl) ?_
    refine lv_iconst (v := (1 : Int32)) hx hb dX7_isSo_17 (by decide) ?_
    refine x_ine hC 33 hf dX7_isSo_18 (by decide) (fun hf => ?_) (fun hf => ?_)
    · refine lv_iload_n hx hb dX7_isSo_33 rfl (lv_at hl 1 rfl) ?_
      refine lv_iconst (v := (2 : Int32)) hx hb dX7_isSo_34 (by decide) ?_
      refine x_ine hC 50 hf dX7_isSo_35 (by decide) (fun hf => ?_) (fun hf => ?_)
      · refine lv_iload_n hx hb dX7_isSo_50 rfl (lv_at hl 1 rfl) ?_
        refine lv_iconst (v := (3 : Int32)) hx hb dX7_isSo_51 (by decide) ?_
        refine x_ine hC 67 hf dX7_isSo_52 (by decide) (fun hf => ?_) (fun hf => ?_)
        · refine lv_iload_n hx hb dX7_isSo_67 rfl (lv_at hl 1 rfl) ?_
          refine lv_iconst (v := (4 : Int32)) hx hb dX7_isSo_68 (by decide) ?_
          refine x_ine hC 84 hf dX7_isSo_69 (by decide) (fun hf => ?_) (fun hf => ?_)
          · refine lv_iload_n hx hb dX7_isSo_84 rfl (lv_at hl 0 rfl) ?_
            refine x_gt0 hC 92 hf dX7_isSo_85 (by decide) (fun hf => ?_) (fun hf => ?_)
            · refine lv_iconst (v := (0 : Int32)) hx hb dX7_isSo_92 (by decide) ?_
              obtain ⟨h9, hf⟩ := x_g_eq hf
              obtain rfl := Option.some.inj hf
              exact hR _ _ _ _ h9 hI dX7_isSo_93
            · refine lv_iconst (v := (1 : Int32)) hx hb dX7_isSo_88 (by decide) ?_
              refine lv_goto (tgt := 93) hx hb dX7_isSo_89 (by decide) ?_
              obtain ⟨h9, hf⟩ := x_g_eq hf
              obtain rfl := Option.some.inj hf
              exact hR _ _ _ _ h9 hI dX7_isSo_93
          · refine lv_iload_n hx hb dX7_isSo_72 rfl (lv_at hl 0 rfl) ?_
            refine x_le0 hC 80 hf dX7_isSo_73 (by decide) (fun hf => ?_) (fun hf => ?_)
            · refine lv_iconst (v := (0 : Int32)) hx hb dX7_isSo_80 (by decide) ?_
              refine lv_goto (tgt := 93) hx hb dX7_isSo_81 (by decide) ?_
              obtain ⟨h9, hf⟩ := x_g_eq hf
              obtain rfl := Option.some.inj hf
              exact hR _ _ _ _ h9 hI dX7_isSo_93
            · refine lv_iconst (v := (1 : Int32)) hx hb dX7_isSo_76 (by decide) ?_
              refine lv_goto (tgt := 93) hx hb dX7_isSo_77 (by decide) ?_
              obtain ⟨h9, hf⟩ := x_g_eq hf
              obtain rfl := Option.some.inj hf
              exact hR _ _ _ _ h9 hI dX7_isSo_93
        · refine lv_iload_n hx hb dX7_isSo_55 rfl (lv_at hl 0 rfl) ?_
          refine x_lt0 hC 63 hf dX7_isSo_56 (by decide) (fun hf => ?_) (fun hf => ?_)
          · refine lv_iconst (v := (0 : Int32)) hx hb dX7_isSo_63 (by decide) ?_
            refine lv_goto (tgt := 93) hx hb dX7_isSo_64 (by decide) ?_
            obtain ⟨h9, hf⟩ := x_g_eq hf
            obtain rfl := Option.some.inj hf
            exact hR _ _ _ _ h9 hI dX7_isSo_93
          · refine lv_iconst (v := (1 : Int32)) hx hb dX7_isSo_59 (by decide) ?_
            refine lv_goto (tgt := 93) hx hb dX7_isSo_60 (by decide) ?_
            obtain ⟨h9, hf⟩ := x_g_eq hf
            obtain rfl := Option.some.inj hf
            exact hR _ _ _ _ h9 hI dX7_isSo_93
      · refine lv_iload_n hx hb dX7_isSo_38 rfl (lv_at hl 0 rfl) ?_
        refine x_ge0 hC 46 hf dX7_isSo_39 (by decide) (fun hf => ?_) (fun hf => ?_)
        · refine lv_iconst (v := (0 : Int32)) hx hb dX7_isSo_46 (by decide) ?_
          refine lv_goto (tgt := 93) hx hb dX7_isSo_47 (by decide) ?_
          obtain ⟨h9, hf⟩ := x_g_eq hf
          obtain rfl := Option.some.inj hf
          exact hR _ _ _ _ h9 hI dX7_isSo_93
        · refine lv_iconst (v := (1 : Int32)) hx hb dX7_isSo_42 (by decide) ?_
          refine lv_goto (tgt := 93) hx hb dX7_isSo_43 (by decide) ?_
          obtain ⟨h9, hf⟩ := x_g_eq hf
          obtain rfl := Option.some.inj hf
          exact hR _ _ _ _ h9 hI dX7_isSo_93
    · refine lv_iload_n hx hb dX7_isSo_21 rfl (lv_at hl 0 rfl) ?_
      refine x_eq0 hC 29 hf dX7_isSo_22 (by decide) (fun hf => ?_) (fun hf => ?_)
      · refine lv_iconst (v := (0 : Int32)) hx hb dX7_isSo_29 (by decide) ?_
        refine lv_goto (tgt := 93) hx hb dX7_isSo_30 (by decide) ?_
        obtain ⟨h9, hf⟩ := x_g_eq hf
        obtain rfl := Option.some.inj hf
        exact hR _ _ _ _ h9 hI dX7_isSo_93
      · refine lv_iconst (v := (1 : Int32)) hx hb dX7_isSo_25 (by decide) ?_
        refine lv_goto (tgt := 93) hx hb dX7_isSo_26 (by decide) ?_
        obtain ⟨h9, hf⟩ := x_g_eq hf
        obtain rfl := Option.some.inj hf
        exact hR _ _ _ _ h9 hI dX7_isSo_93
  · refine lv_iload_n hx hb dX7_isSo_4 rfl (lv_at hl 0 rfl) ?_
    refine x_ne0 hC 12 hf dX7_isSo_5 (by decide) (fun hf => ?_) (fun hf => ?_)
    · refine lv_iconst (v := (0 : Int32)) hx hb dX7_isSo_12 (by decide) ?_
      refine lv_goto (tgt := 93) hx hb dX7_isSo_13 (by decide) ?_
      obtain ⟨h9, hf⟩ := x_g_eq hf
      obtain rfl := Option.some.inj hf
      exact hR _ _ _ _ h9 hI dX7_isSo_93
    · refine lv_iconst (v := (1 : Int32)) hx hb dX7_isSo_8 (by decide) ?_
      refine lv_goto (tgt := 93) hx hb dX7_isSo_9 (by decide) ?_
      obtain ⟨h9, hf⟩ := x_g_eq hf
      obtain rfl := Option.some.inj hf
      exact hR _ _ _ _ h9 hI dX7_isSo_93
theorem c_X7_isSo {a0 : Int32} {a1 : Int32} {v : Int32} (hf : f_X7_isSo n a0 a1 = some v) : x_M l yX7_isSo cX7_isSo 2 (some .boolean) 0 0 E [.int a0, .int a1] w w (some (.int v)) :=
  x_entZ (by decide) (Nat.le_of_ble_eq_true rfl) (fun p e s m args below meth c A Q ls hC hI hR hl => w_X7_isSo (r := v) hC hR hI hl hf)
-- X7_run
def f_X7_run_424 (n : Nat) (rec89 : x_S × Int32 × Int32 → Option (Int32 × x_S)) (S : x_S) (a2 : Int32) (a3 : Int32) : Option (Int32 × x_S) :=
rec89 (S, a2, a3)
set_option maxHeartbeats 4000000 in
set_option maxRecDepth 100000 in
theorem w_X7_run_424 {r : Int32 × x_S} {a2 : Int32} {a3 : Int32} {rec89 : x_S × Int32 × Int32 → Option (Int32 × x_S)} (hC : x_C p s m args meth c cX7_run 7 RX7 E A) (hR : x_Ri p l e { frames := 2, cells := 0, slots := 0, locals := 44 } s m args below meth c cX7_run E A Q (mw E ad r.2) r.1) (hrec89 : ∀ z : x_S × Int32 × Int32, rec89 z = some r → ∀ (H : Heap) (locs : List Loc) (ls : Array Slot), x_I E A s.heap (mw E ad z.1) H locs → lv_has ls 7 [(0, .ref (ad 799)), (2, .int z.2.1), (3, .int z.2.2)] → W p l e { frames := 2, cells := 0, slots := 0, locals := 44 } s m args below meth c H locs 0 0 Q (F0 m 89 ls [])) (hI : x_I E A s.heap (mw E ad S) H locs) (hl : lv_has ls 7 [(0, .ref (ad 799)), (2, .int a2), (3, .int a3)]) (hf : f_X7_run_424 n rec89 S a2 a3 = some r) : W p l e { frames := 2, cells := 0, slots := 0, locals := 44 } s m args below meth c H locs 0 0 Q (F0 m 424 ls []) := by
  obtain ⟨hx, hb, hml, hown, hts, hK, hN, hA⟩ := id hC
  unfold f_X7_run_424 at hf
  refine lv_goto (tgt := 89) hx hb dX7_run_424 (by decide) ?_
  exact hrec89 _ hf _ _ _ hI (lv_sub hl [0, 1, 2] rfl)
def f_X7_run_307 (n : Nat) (rec89 : x_S × Int32 × Int32 → Option (Int32 × x_S)) (S : x_S) (a2 : Int32) (a3 : Int32) (a6 : Int32) : Option (Int32 × x_S) :=
x_g (¬ (a6 < 0 ∨ 720 ≤ (a6).toNatClampNeg)) (x_let (g_ar S 705 (a6).toNatClampNeg) (fun v15 =>
x_g (¬ ((a3 - (1 : Int32)) < 0 ∨ 8 ≤ ((a3 - (1 : Int32))).toNatClampNeg)) (x_let (s_ar S 753 ((a3 - (1 : Int32))).toNatClampNeg v15) (fun S =>
f_X7_run_424 n rec89 S a2 a3))))
set_option maxHeartbeats 4000000 in
set_option maxRecDepth 100000 in
theorem w_X7_run_307 {r : Int32 × x_S} {a2 : Int32} {a3 : Int32} {a6 : Int32} {rec89 : x_S × Int32 × Int32 → Option (Int32 × x_S)} (hC : x_C p s m args meth c cX7_run 7 RX7 E A) (hR : x_Ri p l e { frames := 2, cells := 0, slots := 0, locals := 44 } s m args below meth c cX7_run E A Q (mw E ad r.2) r.1) (hrec89 : ∀ z : x_S × Int32 × Int32, rec89 z = some r → ∀ (H : Heap) (locs : List Loc) (ls : Array Slot), x_I E A s.heap (mw E ad z.1) H locs → lv_has ls 7 [(0, .ref (ad 799)), (2, .int z.2.1), (3, .int z.2.2)] → W p l e { frames := 2, cells := 0, slots := 0, locals := 44 } s m args below meth c H locs 0 0 Q (F0 m 89 ls [])) (hI : x_I E A s.heap (mw E ad S) H locs) (hl : lv_has ls 7 [(0, .ref (ad 799)), (2, .int a2), (3, .int a3), (6, .int a6)]) (hf : f_X7_run_307 n rec89 S a2 a3 a6 = some r) : W p l e { frames := 2, cells := 0, slots := 0, locals := 44 } s m args below meth c H locs 0 0 Q (F0 m 307 ls []) := by
  obtain ⟨hx, hb, hml, hown, hts, hK, hN, hA⟩ := id hC
  unfold f_X7_run_307 at hf
  refine lv_aload_n hx hb dX7_run_307 rfl (lv_at hl 0 rfl) ?_
  refine gX7_53 hC hI lkf_X7_132 dX7_run_308 ?_
  refine lv_iload_n hx hb dX7_run_311 rfl (lv_at hl 2 rfl) ?_
  refine lv_iconst (v := (1 : Int32)) hx hb dX7_run_312 (by decide) ?_
  refine lv_isub hx hb dX7_run_313 ?_
  refine lv_aload_n hx hb dX7_run_314 rfl (lv_at hl 0 rfl) ?_
  refine gX7_5 hC hI lkf_X7_22 dX7_run_315 ?_
  refine lv_iload hx hb dX7_run_318 (lv_at hl 3 rfl) ?_
  refine aX7_5 hC hI hf dX7_run_320 (fun v15 hf => ?_)
  refine tX7_53 hC hI hf dX7_run_321 (fun S H locs hI hf => ?_)
  refine lv_goto (tgt := 424) hx hb dX7_run_322 (by decide) ?_
  exact w_X7_run_424 hC hR hrec89 hI (lv_sub hl [0, 1, 2] rfl) hf
def f_X7_run_325 (n : Nat) (rec89 : x_S × Int32 × Int32 → Option (Int32 × x_S)) (S : x_S) (a2 : Int32) (a3 : Int32) (a6 : Int32) : Option (Int32 × x_S) :=
x_g (¬ (a6 < 0 ∨ 720 ≤ (a6).toNatClampNeg)) (x_let (g_ar S 702 (a6).toNatClampNeg) (fun v17 =>
if v17 = (4 : Int32) then
f_X7_run_424 n rec89 S a2 (a3 + (-1 : Int32))
else
x_g (¬ (a6 < 0 ∨ 720 ≤ (a6).toNatClampNeg)) (x_let (g_ar S 702 (a6).toNatClampNeg) (fun v18 =>
if v18 = (5 : Int32) then
x_g (¬ (a6 < 0 ∨ 720 ≤ (a6).toNatClampNeg)) (x_let (g_ar S 703 (a6).toNatClampNeg) (fun v19 =>
x_b2 (f_X7_isRoutine n S v19) (fun v21 S =>
if v21 = 0 then
some ((2 : Int32), S)
else
x_g (¬ (a6 < 0 ∨ 720 ≤ (a6).toNatClampNeg)) (x_let (g_ar S 703 (a6).toNatClampNeg) (fun v22 =>
x_b2 (f_X7_isWhole n S v22) (fun v24 S =>
if v24 = 0 then
some ((2 : Int32), S)
else
if a3 = (8 : Int32) then
some ((3 : Int32), S)
else
x_g (¬ (a6 < 0 ∨ 720 ≤ (a6).toNatClampNeg)) (x_let (g_ar S 703 (a6).toNatClampNeg) (fun v25 =>
x_g (¬ (a3 < 0 ∨ 8 ≤ (a3).toNatClampNeg)) (x_let (s_ar S 752 (a3).toNatClampNeg v25) (fun S =>
x_g (¬ (a3 < 0 ∨ 8 ≤ (a3).toNatClampNeg)) (x_let (s_ar S 753 (a3).toNatClampNeg (0 : Int32)) (fun S =>
x_let (g_sc S 711) (fun v26 =>
x_let (s_sc S 711 (v26 + (1 : Int32))) (fun S =>
f_X7_run_424 n rec89 S a2 (a3 + (1 : Int32))))))))))))))))
else
f_X7_run_424 n rec89 S a2 a3))))
set_option maxHeartbeats 4000000 in
set_option maxRecDepth 100000 in
theorem w_X7_run_325 {r : Int32 × x_S} {a2 : Int32} {a3 : Int32} {a6 : Int32} {rec89 : x_S × Int32 × Int32 → Option (Int32 × x_S)} (hC : x_C p s m args meth c cX7_run 7 RX7 E A) (hR : x_Ri p l e { frames := 2, cells := 0, slots := 0, locals := 44 } s m args below meth c cX7_run E A Q (mw E ad r.2) r.1) (hrec89 : ∀ z : x_S × Int32 × Int32, rec89 z = some r → ∀ (H : Heap) (locs : List Loc) (ls : Array Slot), x_I E A s.heap (mw E ad z.1) H locs → lv_has ls 7 [(0, .ref (ad 799)), (2, .int z.2.1), (3, .int z.2.2)] → W p l e { frames := 2, cells := 0, slots := 0, locals := 44 } s m args below meth c H locs 0 0 Q (F0 m 89 ls [])) (hI : x_I E A s.heap (mw E ad S) H locs) (hl : lv_has ls 7 [(0, .ref (ad 799)), (2, .int a2), (3, .int a3), (6, .int a6)]) (hf : f_X7_run_325 n rec89 S a2 a3 a6 = some r) : W p l e { frames := 2, cells := 0, slots := 0, locals := 44 } s m args below meth c H locs 0 0 Q (F0 m 325 ls []) := by
  obtain ⟨hx, hb, hml, hown, hts, hK, hN, hA⟩ := id hC
  unfold f_X7_run_325 at hf
  refine lv_aload_n hx hb dX7_run_325 rfl (lv_at hl 0 rfl) ?_
  refine gX7_2 hC hI lkf_X7_13 dX7_run_326 ?_
  refine lv_iload hx hb dX7_run_329 (lv_at hl 3 rfl) ?_
  refine aX7_2 hC hI hf dX7_run_331 (fun v17 hf => ?_)
  refine lv_iconst (v := (4 : Int32)) hx hb dX7_run_332 (by decide) ?_
  refine x_ine hC 342 hf dX7_run_333 (by decide) (fun hf => ?_) (fun hf => ?_)
  · refine lv_aload_n hx hb dX7_run_342 rfl (lv_at hl 0 rfl) ?_
    refine gX7_2 hC hI lkf_X7_13 dX7_run_343 ?_
    refine lv_iload hx hb dX7_run_346 (lv_at hl 3 rfl) ?_
    refine aX7_2 hC hI hf dX7_run_348 (fun v18 hf => ?_)
    refine lv_iconst (v := (5 : Int32)) hx hb dX7_run_349 (by decide) ?_
    refine x_ine hC 424 hf dX7_run_350 (by decide) (fun hf => ?_) (fun hf => ?_)
    · exact w_X7_run_424 hC hR hrec89 hI (lv_sub hl [0, 1, 2] rfl) hf
    · refine lv_aload_n hx hb dX7_run_353 rfl (lv_at hl 0 rfl) ?_
      refine lv_aload_n hx hb dX7_run_354 rfl (lv_at hl 0 rfl) ?_
      refine gX7_3 hC hI lkf_X7_16 dX7_run_355 ?_
      refine lv_iload hx hb dX7_run_358 (lv_at hl 3 rfl) ?_
      refine aX7_3 hC hI hf dX7_run_360 (fun v19 hf => ?_)
      obtain ⟨v21, S, hc20, hf⟩ := x_b2_eq hf
      refine x_callV hC hI (c_X7_isRoutine hc20) 0 7 rfl rfl kv_X7_142 rfl ⟨Nat.le_of_ble_eq_true rfl, Nat.le_of_ble_eq_true rfl⟩ ⟨Nat.le_refl _, Nat.le_refl _⟩ hl.1 rfl (Nat.le_of_ble_eq_true rfl) dX7_run_361 (fun H locs hI => ?_)
      refine x_eq0 hC 381 hf dX7_run_364 (by decide) (fun hf => ?_) (fun hf => ?_)
      · refine lv_iconst (v := (2 : Int32)) hx hb dX7_run_381 (by decide) ?_
        obtain rfl := Option.some.inj hf
        exact hR _ _ _ _ hI dX7_run_382
      · refine lv_aload_n hx hb dX7_run_367 rfl (lv_at hl 0 rfl) ?_
        refine lv_aload_n hx hb dX7_run_368 rfl (lv_at hl 0 rfl) ?_
        refine gX7_3 hC hI lkf_X7_16 dX7_run_369 ?_
        refine lv_iload hx hb dX7_run_372 (lv_at hl 3 rfl) ?_
        refine aX7_3 hC hI hf dX7_run_374 (fun v22 hf => ?_)
        obtain ⟨v24, S, hc23, hf⟩ := x_b2_eq hf
        refine x_callV hC hI (c_X7_isWhole hc23) 0 7 rfl rfl kv_X7_184 rfl ⟨Nat.le_of_ble_eq_true rfl, Nat.le_of_ble_eq_true rfl⟩ ⟨Nat.le_refl _, Nat.le_refl _⟩ hl.1 rfl (Nat.le_of_ble_eq_true rfl) dX7_run_375 (fun H locs hI => ?_)
        refine x_ne0 hC 383 hf dX7_run_378 (by decide) (fun hf => ?_) (fun hf => ?_)
        · refine lv_iload_n hx hb dX7_run_383 rfl (lv_at hl 2 rfl) ?_
          refine lv_bipush (v := (8 : Int32)) hx hb dX7_run_384 (by decide) ?_
          refine x_ine hC 391 hf dX7_run_386 (by decide) (fun hf => ?_) (fun hf => ?_)
          · refine lv_aload_n hx hb dX7_run_391 rfl (lv_at hl 0 rfl) ?_
            refine gX7_52 hC hI lkf_X7_129 dX7_run_392 ?_
            refine lv_iload_n hx hb dX7_run_395 rfl (lv_at hl 2 rfl) ?_
            refine lv_aload_n hx hb dX7_run_396 rfl (lv_at hl 0 rfl) ?_
            refine gX7_3 hC hI lkf_X7_16 dX7_run_397 ?_
            refine lv_iload hx hb dX7_run_400 (lv_at hl 3 rfl) ?_
            refine aX7_3 hC hI hf dX7_run_402 (fun v25 hf => ?_)
            refine tX7_52 hC hI hf dX7_run_403 (fun S H locs hI hf => ?_)
            refine lv_aload_n hx hb dX7_run_404 rfl (lv_at hl 0 rfl) ?_
            refine gX7_53 hC hI lkf_X7_132 dX7_run_405 ?_
            refine lv_iload_n hx hb dX7_run_408 rfl (lv_at hl 2 rfl) ?_
            refine lv_iconst (v := (0 : Int32)) hx hb dX7_run_409 (by decide) ?_
            refine tX7_53 hC hI hf dX7_run_410 (fun S H locs hI hf => ?_)
            refine lv_iinc (v := (a3 + (1 : Int32))) (lv' := [(3, .int (a3 + (1 : Int32))), (0, .ref (ad 799)), (2, .int a2), (6, .int a6)]) hx hb dX7_run_411 hl (k := 2) rfl rfl (by decide) rfl (fun ls hl => ?_)
            refine lv_aload_n hx hb dX7_run_414 rfl (lv_at hl 1 rfl) ?_
            refine lv_dup hx hb dX7_run_415 rfl ?_
            refine gX7_11 hC hI hf lkf_X7_281 dX7_run_416 (fun v26 hf => ?_)
            refine lv_iconst (v := (1 : Int32)) hx hb dX7_run_419 (by decide) ?_
            refine lv_iadd hx hb dX7_run_420 ?_
            refine pX7_11 hC hI hf lkf_X7_281 dX7_run_421 (fun S H locs hI hf => ?_)
            exact w_X7_run_424 hC hR hrec89 hI (lv_sub hl [1, 2, 0] rfl) hf
          · refine lv_iconst (v := (3 : Int32)) hx hb dX7_run_389 (by decide) ?_
            obtain rfl := Option.some.inj hf
            exact hR _ _ _ _ hI dX7_run_390
        · refine lv_iconst (v := (2 : Int32)) hx hb dX7_run_381 (by decide) ?_
          obtain rfl := Option.some.inj hf
          exact hR _ _ _ _ hI dX7_run_382
  · refine lv_iinc (v := (a3 + (-1 : Int32))) (lv' := [(3, .int (a3 + (-1 : Int32))), (0, .ref (ad 799)), (2, .int a2), (6, .int a6)]) hx hb dX7_run_336 hl (k := 2) rfl rfl (by decide) rfl (fun ls hl => ?_)
    refine lv_goto (tgt := 424) hx hb dX7_run_339 (by decide) ?_
    exact w_X7_run_424 hC hR hrec89 hI (lv_sub hl [1, 2, 0] rfl) hf
def f_X7_run_89 (n : Nat) (rec89 : x_S × Int32 × Int32 → Option (Int32 × x_S)) (S : x_S) (a2 : Int32) (a3 : Int32) : Option (Int32 × x_S) :=
if a3 ≤ 0 then
some ((0 : Int32), S)
else
x_g (¬ ((a3 - (1 : Int32)) < 0 ∨ 8 ≤ ((a3 - (1 : Int32))).toNatClampNeg)) (x_let (g_ar S 752 ((a3 - (1 : Int32))).toNatClampNeg) (fun v7 =>
x_g (¬ ((a3 - (1 : Int32)) < 0 ∨ 8 ≤ ((a3 - (1 : Int32))).toNatClampNeg)) (x_let (g_ar S 753 ((a3 - (1 : Int32))).toNatClampNeg) (fun v8 =>
x_g (¬ (v7 < 0 ∨ 12 ≤ (v7).toNatClampNeg)) (x_let (g_ar S 701 (v7).toNatClampNeg) (fun v9 =>
if v8 = v9 then
rec89 (S, a2, (a3 + (-1 : Int32)))
else
x_let (g_sc S 710) (fun v10 =>
if v10 = a2 then
some ((1 : Int32), S)
else
x_let (g_sc S 710) (fun v11 =>
x_let (s_sc S 710 (v11 + (1 : Int32))) (fun S =>
x_g (¬ ((a3 - (1 : Int32)) < 0 ∨ 8 ≤ ((a3 - (1 : Int32))).toNatClampNeg)) (x_let (s_ar S 753 ((a3 - (1 : Int32))).toNatClampNeg (v8 + (1 : Int32))) (fun S =>
x_g (¬ ((((60 : Int32) * v7) + v8) < 0 ∨ 720 ≤ ((((60 : Int32) * v7) + v8)).toNatClampNeg)) (x_let (g_ar S 702 ((((60 : Int32) * v7) + v8)).toNatClampNeg) (fun v12 =>
if v12 = 0 then
x_let (g_sc S 712) (fun v35 =>
if v35 = (200 : Int32) then
some ((4 : Int32), S)
else
x_let (g_sc S 712) (fun v36 =>
x_g (¬ ((((60 : Int32) * v7) + v8) < 0 ∨ 720 ≤ ((((60 : Int32) * v7) + v8)).toNatClampNeg)) (x_let (g_ar S 703 ((((60 : Int32) * v7) + v8)).toNatClampNeg) (fun v37 =>
x_g (¬ (v36 < 0 ∨ 200 ≤ (v36).toNatClampNeg)) (x_let (s_ar S 713 (v36).toNatClampNeg v37) (fun S =>
x_let (g_sc S 712) (fun v38 =>
x_let (s_sc S 712 (v38 + (1 : Int32))) (fun S =>
f_X7_run_424 n rec89 S a2 a3))))))))
else
x_g (¬ ((((60 : Int32) * v7) + v8) < 0 ∨ 720 ≤ ((((60 : Int32) * v7) + v8)).toNatClampNeg)) (x_let (g_ar S 702 ((((60 : Int32) * v7) + v8)).toNatClampNeg) (fun v13 =>
if v13 = (1 : Int32) then
x_g (¬ ((((60 : Int32) * v7) + v8) < 0 ∨ 720 ≤ ((((60 : Int32) * v7) + v8)).toNatClampNeg)) (x_let (g_ar S 703 ((((60 : Int32) * v7) + v8)).toNatClampNeg) (fun v32 =>
x_g (¬ (v32 < 0 ∨ 4 ≤ (v32).toNatClampNeg)) (x_let (g_ar S 714 (v32).toNatClampNeg) (fun v33 =>
x_g (¬ ((((60 : Int32) * v7) + v8) < 0 ∨ 720 ≤ ((((60 : Int32) * v7) + v8)).toNatClampNeg)) (x_let (g_ar S 704 ((((60 : Int32) * v7) + v8)).toNatClampNeg) (fun v34 =>
x_g (¬ (v32 < 0 ∨ 4 ≤ (v32).toNatClampNeg)) (x_let (s_ar S 714 (v32).toNatClampNeg (v33 + v34)) (fun S =>
f_X7_run_424 n rec89 S a2 a3))))))))
else
x_g (¬ ((((60 : Int32) * v7) + v8) < 0 ∨ 720 ≤ ((((60 : Int32) * v7) + v8)).toNatClampNeg)) (x_let (g_ar S 702 ((((60 : Int32) * v7) + v8)).toNatClampNeg) (fun v14 =>
if v14 = (2 : Int32) then
f_X7_run_307 n rec89 S a2 a3 (((60 : Int32) * v7) + v8)
else
x_g (¬ ((((60 : Int32) * v7) + v8) < 0 ∨ 720 ≤ ((((60 : Int32) * v7) + v8)).toNatClampNeg)) (x_let (g_ar S 702 ((((60 : Int32) * v7) + v8)).toNatClampNeg) (fun v16 =>
if v16 = (3 : Int32) then
x_g (¬ ((((60 : Int32) * v7) + v8) < 0 ∨ 720 ≤ ((((60 : Int32) * v7) + v8)).toNatClampNeg)) (x_let (g_ar S 703 ((((60 : Int32) * v7) + v8)).toNatClampNeg) (fun v27 =>
x_g (¬ (v27 < 0 ∨ 4 ≤ (v27).toNatClampNeg)) (x_let (g_ar S 714 (v27).toNatClampNeg) (fun v28 =>
x_g (¬ ((((60 : Int32) * v7) + v8) < 0 ∨ 720 ≤ ((((60 : Int32) * v7) + v8)).toNatClampNeg)) (x_let (g_ar S 704 ((((60 : Int32) * v7) + v8)).toNatClampNeg) (fun v29 =>
x_b (f_X7_isSo n v28 v29) (fun v31 =>
if v31 = 0 then
f_X7_run_325 n rec89 S a2 a3 (((60 : Int32) * v7) + v8)
else
f_X7_run_307 n rec89 S a2 a3 (((60 : Int32) * v7) + v8))))))))
else
f_X7_run_325 n rec89 S a2 a3 (((60 : Int32) * v7) + v8))))))))))))))))))))
set_option maxHeartbeats 4000000 in
set_option maxRecDepth 100000 in
theorem w_X7_run_89 {r : Int32 × x_S} {a2 : Int32} {a3 : Int32} {rec89 : x_S × Int32 × Int32 → Option (Int32 × x_S)} (hC : x_C p s m args meth c cX7_run 7 RX7 E A) (hR : x_Ri p l e { frames := 2, cells := 0, slots := 0, locals := 44 } s m args below meth c cX7_run E A Q (mw E ad r.2) r.1) (hrec89 : ∀ z : x_S × Int32 × Int32, rec89 z = some r → ∀ (H : Heap) (locs : List Loc) (ls : Array Slot), x_I E A s.heap (mw E ad z.1) H locs → lv_has ls 7 [(0, .ref (ad 799)), (2, .int z.2.1), (3, .int z.2.2)] → W p l e { frames := 2, cells := 0, slots := 0, locals := 44 } s m args below meth c H locs 0 0 Q (F0 m 89 ls [])) (hI : x_I E A s.heap (mw E ad S) H locs) (hl : lv_has ls 7 [(0, .ref (ad 799)), (2, .int a2), (3, .int a3)]) (hf : f_X7_run_89 n rec89 S a2 a3 = some r) : W p l e { frames := 2, cells := 0, slots := 0, locals := 44 } s m args below meth c H locs 0 0 Q (F0 m 89 ls []) := by
  obtain ⟨hx, hb, hml, hown, hts, hK, hN, hA⟩ := id hC
  unfold f_X7_run_89 at hf
  refine lv_iload_n hx hb dX7_run_89 rfl (lv_at hl 2 rfl) ?_
  refine x_le0 hC 427 hf dX7_run_90 (by decide) (fun hf => ?_) (fun hf => ?_)
  · refine lv_iconst (v := (0 : Int32)) hx hb dX7_run_427 (by decide) ?_
    obtain rfl := Option.some.inj hf
    exact hR _ _ _ _ hI dX7_run_428
  · refine lv_aload_n hx hb dX7_run_93 rfl (lv_at hl 0 rfl) ?_
    refine gX7_52 hC hI lkf_X7_129 dX7_run_94 ?_
    refine lv_iload_n hx hb dX7_run_97 rfl (lv_at hl 2 rfl) ?_
    refine lv_iconst (v := (1 : Int32)) hx hb dX7_run_98 (by decide) ?_
    refine lv_isub hx hb dX7_run_99 ?_
    refine aX7_52 hC hI hf dX7_run_100 (fun v7 hf => ?_)
    refine lv_istore (lv' := [(4, .int v7), (0, .ref (ad 799)), (2, .int a2), (3, .int a3)]) hx hb dX7_run_101 hl (by decide) rfl (fun ls hl => ?_)
    refine lv_aload_n hx hb dX7_run_103 rfl (lv_at hl 1 rfl) ?_
    refine gX7_53 hC hI lkf_X7_132 dX7_run_104 ?_
    refine lv_iload_n hx hb dX7_run_107 rfl (lv_at hl 3 rfl) ?_
    refine lv_iconst (v := (1 : Int32)) hx hb dX7_run_108 (by decide) ?_
    refine lv_isub hx hb dX7_run_109 ?_
    refine aX7_53 hC hI hf dX7_run_110 (fun v8 hf => ?_)
    refine lv_istore (lv' := [(5, .int v8), (4, .int v7), (0, .ref (ad 799)), (2, .int a2), (3, .int a3)]) hx hb dX7_run_111 hl (by decide) rfl (fun ls hl => ?_)
    refine lv_iload hx hb dX7_run_113 (lv_at hl 0 rfl) ?_
    refine lv_aload_n hx hb dX7_run_115 rfl (lv_at hl 2 rfl) ?_
    refine gX7_1 hC hI lkf_X7_7 dX7_run_116 ?_
    refine lv_iload hx hb dX7_run_119 (lv_at hl 1 rfl) ?_
    refine aX7_1 hC hI hf dX7_run_121 (fun v9 hf => ?_)
    refine x_ine hC 131 hf dX7_run_122 (by decide) (fun hf => ?_) (fun hf => ?_)
    · refine lv_aload_n hx hb dX7_run_131 rfl (lv_at hl 2 rfl) ?_
      refine gX7_10 hC hI hf lkf_X7_278 dX7_run_132 (fun v10 hf => ?_)
      refine lv_iload_n hx hb dX7_run_135 rfl (lv_at hl 3 rfl) ?_
      refine x_ine hC 141 hf dX7_run_136 (by decide) (fun hf => ?_) (fun hf => ?_)
      · refine lv_aload_n hx hb dX7_run_141 rfl (lv_at hl 2 rfl) ?_
        refine lv_dup hx hb dX7_run_142 rfl ?_
        refine gX7_10 hC hI hf lkf_X7_278 dX7_run_143 (fun v11 hf => ?_)
        refine lv_iconst (v := (1 : Int32)) hx hb dX7_run_146 (by decide) ?_
        refine lv_iadd hx hb dX7_run_147 ?_
        refine pX7_10 hC hI hf lkf_X7_278 dX7_run_148 (fun S H locs hI hf => ?_)
        refine lv_bipush (v := (60 : Int32)) hx hb dX7_run_151 (by decide) ?_
        refine lv_iload hx hb dX7_run_153 (lv_at hl 1 rfl) ?_
        refine lv_imul hx hb dX7_run_155 ?_
        refine lv_iload hx hb dX7_run_156 (lv_at hl 0 rfl) ?_
        refine lv_iadd hx hb dX7_run_158 ?_
        refine lv_istore (lv' := [(6, .int (((60 : Int32) * v7) + v8)), (5, .int v8), (4, .int v7), (0, .ref (ad 799)), (2, .int a2), (3, .int a3)]) hx hb dX7_run_159 hl (by decide) rfl (fun ls hl => ?_)
        refine lv_aload_n hx hb dX7_run_161 rfl (lv_at hl 3 rfl) ?_
        refine gX7_53 hC hI lkf_X7_132 dX7_run_162 ?_
        refine lv_iload_n hx hb dX7_run_165 rfl (lv_at hl 5 rfl) ?_
        refine lv_iconst (v := (1 : Int32)) hx hb dX7_run_166 (by decide) ?_
        refine lv_isub hx hb dX7_run_167 ?_
        refine lv_iload hx hb dX7_run_168 (lv_at hl 1 rfl) ?_
        refine lv_iconst (v := (1 : Int32)) hx hb dX7_run_170 (by decide) ?_
        refine lv_iadd hx hb dX7_run_171 ?_
        refine tX7_53 hC hI hf dX7_run_172 (fun S H locs hI hf => ?_)
        refine lv_aload_n hx hb dX7_run_173 rfl (lv_at hl 3 rfl) ?_
        refine gX7_2 hC hI lkf_X7_13 dX7_run_174 ?_
        refine lv_iload hx hb dX7_run_177 (lv_at hl 0 rfl) ?_
        refine aX7_2 hC hI hf dX7_run_179 (fun v12 hf => ?_)
        refine x_ne0 hC 224 hf dX7_run_180 (by decide) (fun hf => ?_) (fun hf => ?_)
        · refine lv_aload_n hx hb dX7_run_224 rfl (lv_at hl 3 rfl) ?_
          refine gX7_2 hC hI lkf_X7_13 dX7_run_225 ?_
          refine lv_iload hx hb dX7_run_228 (lv_at hl 0 rfl) ?_
          refine aX7_2 hC hI hf dX7_run_230 (fun v13 hf => ?_)
          refine lv_iconst (v := (1 : Int32)) hx hb dX7_run_231 (by decide) ?_
          refine x_ine hC 260 hf dX7_run_232 (by decide) (fun hf => ?_) (fun hf => ?_)
          · refine lv_aload_n hx hb dX7_run_260 rfl (lv_at hl 3 rfl) ?_
            refine gX7_2 hC hI lkf_X7_13 dX7_run_261 ?_
            refine lv_iload hx hb dX7_run_264 (lv_at hl 0 rfl) ?_
            refine aX7_2 hC hI hf dX7_run_266 (fun v14 hf => ?_)
            refine lv_iconst (v := (2 : Int32)) hx hb dX7_run_267 (by decide) ?_
            refine x_ieq hC 307 hf dX7_run_268 (by decide) (fun hf => ?_) (fun hf => ?_)
            · exact w_X7_run_307 hC hR hrec89 hI (lv_sub hl [3, 4, 5, 0] rfl) hf
            · refine lv_aload_n hx hb dX7_run_271 rfl (lv_at hl 3 rfl) ?_
              refine gX7_2 hC hI lkf_X7_13 dX7_run_272 ?_
              refine lv_iload hx hb dX7_run_275 (lv_at hl 0 rfl) ?_
              refine aX7_2 hC hI hf dX7_run_277 (fun v16 hf => ?_)
              refine lv_iconst (v := (3 : Int32)) hx hb dX7_run_278 (by decide) ?_
              refine x_ine hC 325 hf dX7_run_279 (by decide) (fun hf => ?_) (fun hf => ?_)
              · exact w_X7_run_325 hC hR hrec89 hI (lv_sub hl [3, 4, 5, 0] rfl) hf
              · refine lv_aload_n hx hb dX7_run_282 rfl (lv_at hl 3 rfl) ?_
                refine gX7_14 hC hI lkf_X7_38 dX7_run_283 ?_
                refine lv_aload_n hx hb dX7_run_286 rfl (lv_at hl 3 rfl) ?_
                refine gX7_3 hC hI lkf_X7_16 dX7_run_287 ?_
                refine lv_iload hx hb dX7_run_290 (lv_at hl 0 rfl) ?_
                refine aX7_3 hC hI hf dX7_run_292 (fun v27 hf => ?_)
                refine aX7_14 hC hI hf dX7_run_293 (fun v28 hf => ?_)
                refine lv_aload_n hx hb dX7_run_294 rfl (lv_at hl 3 rfl) ?_
                refine gX7_4 hC hI lkf_X7_19 dX7_run_295 ?_
                refine lv_iload hx hb dX7_run_298 (lv_at hl 0 rfl) ?_
                refine aX7_4 hC hI hf dX7_run_300 (fun v29 hf => ?_)
                obtain ⟨v31, hc30, hf⟩ := x_b_eq hf
                refine x_callS hC hI (c_X7_isSo hc30) ks_X7_287 rfl ⟨Nat.le_of_ble_eq_true rfl, Nat.le_of_ble_eq_true rfl⟩ ⟨Nat.le_refl _, Nat.le_refl _⟩ hl.1 rfl (Nat.le_of_ble_eq_true rfl) dX7_run_301 (fun H locs hI => ?_)
                refine x_eq0 hC 325 hf dX7_run_304 (by decide) (fun hf => ?_) (fun hf => ?_)
                · exact w_X7_run_325 hC hR hrec89 hI (lv_sub hl [3, 4, 5, 0] rfl) hf
                · exact w_X7_run_307 hC hR hrec89 hI (lv_sub hl [3, 4, 5, 0] rfl) hf
          · refine lv_aload_n hx hb dX7_run_235 rfl (lv_at hl 3 rfl) ?_
            refine gX7_14 hC hI lkf_X7_38 dX7_run_236 ?_
            refine lv_aload_n hx hb dX7_run_239 rfl (lv_at hl 3 rfl) ?_
            refine gX7_3 hC hI lkf_X7_16 dX7_run_240 ?_
            refine lv_iload hx hb dX7_run_243 (lv_at hl 0 rfl) ?_
            refine aX7_3 hC hI hf dX7_run_245 (fun v32 hf => ?_)
            refine lv_dup2_11 hx hb dX7_run_246 rfl rfl ?_
            refine aX7_14 hC hI hf dX7_run_247 (fun v33 hf => ?_)
            refine lv_aload_n hx hb dX7_run_248 rfl (lv_at hl 3 rfl) ?_
            refine gX7_4 hC hI lkf_X7_19 dX7_run_249 ?_
            refine lv_iload hx hb dX7_run_252 (lv_at hl 0 rfl) ?_
            refine aX7_4 hC hI hf dX7_run_254 (fun v34 hf => ?_)
            refine lv_iadd hx hb dX7_run_255 ?_
            refine tX7_14 hC hI hf dX7_run_256 (fun S H locs hI hf => ?_)
            refine lv_goto (tgt := 424) hx hb dX7_run_257 (by decide) ?_
            exact w_X7_run_424 hC hR hrec89 hI (lv_sub hl [3, 4, 5] rfl) hf
        · refine lv_aload_n hx hb dX7_run_183 rfl (lv_at hl 3 rfl) ?_
          refine gX7_12 hC hI hf lkf_X7_284 dX7_run_184 (fun v35 hf => ?_)
          refine lv_sipush (v := (200 : Int32)) hx hb dX7_run_187 (by decide) ?_
          refine x_ine hC 195 hf dX7_run_190 (by decide) (fun hf => ?_) (fun hf => ?_)
          · refine lv_aload_n hx hb dX7_run_195 rfl (lv_at hl 3 rfl) ?_
            refine gX7_13 hC hI lkf_X7_35 dX7_run_196 ?_
            refine lv_aload_n hx hb dX7_run_199 rfl (lv_at hl 3 rfl) ?_
            refine gX7_12 hC hI hf lkf_X7_284 dX7_run_200 (fun v36 hf => ?_)
            refine lv_aload_n hx hb dX7_run_203 rfl (lv_at hl 3 rfl) ?_
            refine gX7_3 hC hI lkf_X7_16 dX7_run_204 ?_
            refine lv_iload hx hb dX7_run_207 (lv_at hl 0 rfl) ?_
            refine aX7_3 hC hI hf dX7_run_209 (fun v37 hf => ?_)
            refine tX7_13 hC hI hf dX7_run_210 (fun S H locs hI hf => ?_)
            refine lv_aload_n hx hb dX7_run_211 rfl (lv_at hl 3 rfl) ?_
            refine lv_dup hx hb dX7_run_212 rfl ?_
            refine gX7_12 hC hI hf lkf_X7_284 dX7_run_213 (fun v38 hf => ?_)
            refine lv_iconst (v := (1 : Int32)) hx hb dX7_run_216 (by decide) ?_
            refine lv_iadd hx hb dX7_run_217 ?_
            refine pX7_12 hC hI hf lkf_X7_284 dX7_run_218 (fun S H locs hI hf => ?_)
            refine lv_goto (tgt := 424) hx hb dX7_run_221 (by decide) ?_
            exact w_X7_run_424 hC hR hrec89 hI (lv_sub hl [3, 4, 5] rfl) hf
          · refine lv_iconst (v := (4 : Int32)) hx hb dX7_run_193 (by decide) ?_
            obtain rfl := Option.some.inj hf
            exact hR _ _ _ _ hI dX7_run_194
      · refine lv_iconst (v := (1 : Int32)) hx hb dX7_run_139 (by decide) ?_
        obtain rfl := Option.some.inj hf
        exact hR _ _ _ _ hI dX7_run_140
    · refine lv_iinc (v := (a3 + (-1 : Int32))) (lv' := [(3, .int (a3 + (-1 : Int32))), (5, .int v8), (4, .int v7), (0, .ref (ad 799)), (2, .int a2)]) hx hb dX7_run_125 hl (k := 4) rfl rfl (by decide) rfl (fun ls hl => ?_)
      refine lv_goto (tgt := 89) hx hb dX7_run_128 (by decide) ?_
      exact hrec89 _ hf _ _ _ hI (lv_sub hl [3, 4, 0] rfl)
theorem w_X7_run_89_loop {r : Int32 × x_S} (hC : x_C p s m args meth c cX7_run 7 RX7 E A) (hR : x_Ri p l e { frames := 2, cells := 0, slots := 0, locals := 44 } s m args below meth c cX7_run E A Q (mw E ad r.2) r.1) : ∀ (k : Nat) (z : x_S × Int32 × Int32), x_loop (fun rec z => f_X7_run_89 n rec z.1 z.2.1 z.2.2) k z = some r → ∀ (H : Heap) (locs : List Loc) (ls : Array Slot), x_I E A s.heap (mw E ad z.1) H locs → lv_has ls 7 [(0, .ref (ad 799)), (2, .int z.2.1), (3, .int z.2.2)] → W p l e { frames := 2, cells := 0, slots := 0, locals := 44 } s m args below meth c H locs 0 0 Q (F0 m 89 ls []) :=
  x_loop_ind (P := fun (z : x_S × Int32 × Int32) => ∀ (H : Heap) (locs : List Loc) (ls : Array Slot), x_I E A s.heap (mw E ad z.1) H locs → lv_has ls 7 [(0, .ref (ad 799)), (2, .int z.2.1), (3, .int z.2.2)] → W p l e { frames := 2, cells := 0, slots := 0, locals := 44 } s m args below meth c H locs 0 0 Q (F0 m 89 ls [])) (fun rec hrec z hf H locs ls hI hl => w_X7_run_89 hC hR hrec hI hl hf)
def f_X7_run_35 (n : Nat) (rec35 : x_S × Int32 × Int32 × Int32 → Option (Int32 × x_S)) (S : x_S) (a1 : Int32) (a2 : Int32) (a3 : Int32) : Option (Int32 × x_S) :=
if (4 : Int32) ≤ a3 then
x_let (s_sc S 710 (0 : Int32)) (fun S =>
x_let (s_sc S 711 (1 : Int32)) (fun S =>
x_let (s_sc S 712 (0 : Int32)) (fun S =>
x_g (¬ ((0 : Int32) < 0 ∨ 8 ≤ ((0 : Int32)).toNatClampNeg)) (x_let (s_ar S 752 ((0 : Int32)).toNatClampNeg a1) (fun S =>
x_g (¬ ((0 : Int32) < 0 ∨ 8 ≤ ((0 : Int32)).toNatClampNeg)) (x_let (s_ar S 753 ((0 : Int32)).toNatClampNeg (0 : Int32)) (fun S =>
x_loop (fun rec z => f_X7_run_89 n rec z.1 z.2.1 z.2.2) n (S, a2, (1 : Int32)))))))))
else
x_g (¬ (a3 < 0 ∨ 4 ≤ (a3).toNatClampNeg)) (x_let (g_ar S 706 (a3).toNatClampNeg) (fun v39 =>
x_g (¬ (a3 < 0 ∨ 4 ≤ (a3).toNatClampNeg)) (x_let (s_ar S 714 (a3).toNatClampNeg v39) (fun S =>
rec35 (S, a1, a2, (a3 + (1 : Int32)))))))
set_option maxHeartbeats 4000000 in
set_option maxRecDepth 100000 in
theorem w_X7_run_35 {r : Int32 × x_S} {a1 : Int32} {a2 : Int32} {a3 : Int32} {rec35 : x_S × Int32 × Int32 × Int32 → Option (Int32 × x_S)} (hC : x_C p s m args meth c cX7_run 7 RX7 E A) (hR : x_Ri p l e { frames := 2, cells := 0, slots := 0, locals := 44 } s m args below meth c cX7_run E A Q (mw E ad r.2) r.1) (hrec35 : ∀ z : x_S × Int32 × Int32 × Int32, rec35 z = some r → ∀ (H : Heap) (locs : List Loc) (ls : Array Slot), x_I E A s.heap (mw E ad z.1) H locs → lv_has ls 7 [(0, .ref (ad 799)), (1, .int z.2.1), (2, .int z.2.2.1), (3, .int z.2.2.2)] → W p l e { frames := 2, cells := 0, slots := 0, locals := 44 } s m args below meth c H locs 0 0 Q (F0 m 35 ls [])) (hI : x_I E A s.heap (mw E ad S) H locs) (hl : lv_has ls 7 [(0, .ref (ad 799)), (1, .int a1), (2, .int a2), (3, .int a3)]) (hf : f_X7_run_35 n rec35 S a1 a2 a3 = some r) : W p l e { frames := 2, cells := 0, slots := 0, locals := 44 } s m args below meth c H locs 0 0 Q (F0 m 35 ls []) := by
  obtain ⟨hx, hb, hml, hown, hts, hK, hN, hA⟩ := id hC
  unfold f_X7_run_35 at hf
  refine lv_iload_n hx hb dX7_run_35 rfl (lv_at hl 3 rfl) ?_
  refine lv_iconst (v := (4 : Int32)) hx hb dX7_run_36 (by decide) ?_
  refine x_ige hC 58 hf dX7_run_37 (by decide) (fun hf => ?_) (fun hf => ?_)
  · refine lv_aload_n hx hb dX7_run_58 rfl (lv_at hl 0 rfl) ?_
    refine lv_iconst (v := (0 : Int32)) hx hb dX7_run_59 (by decide) ?_
    refine pX7_10 hC hI hf lkf_X7_278 dX7_run_60 (fun S H locs hI hf => ?_)
    refine lv_aload_n hx hb dX7_run_63 rfl (lv_at hl 0 rfl) ?_
    refine lv_iconst (v := (1 : Int32)) hx hb dX7_run_64 (by decide) ?_
    refine pX7_11 hC hI hf lkf_X7_281 dX7_run_65 (fun S H locs hI hf => ?_)
    refine lv_aload_n hx hb dX7_run_68 rfl (lv_at hl 0 rfl) ?_
    refine lv_iconst (v := (0 : Int32)) hx hb dX7_run_69 (by decide) ?_
    refine pX7_12 hC hI hf lkf_X7_284 dX7_run_70 (fun S H locs hI hf => ?_)
    refine lv_aload_n hx hb dX7_run_73 rfl (lv_at hl 0 rfl) ?_
    refine gX7_52 hC hI lkf_X7_129 dX7_run_74 ?_
    refine lv_iconst (v := (0 : Int32)) hx hb dX7_run_77 (by decide) ?_
    refine lv_iload_n hx hb dX7_run_78 rfl (lv_at hl 1 rfl) ?_
    refine tX7_52 hC hI hf dX7_run_79 (fun S H locs hI hf => ?_)
    refine lv_aload_n hx hb dX7_run_80 rfl (lv_at hl 0 rfl) ?_
    refine gX7_53 hC hI lkf_X7_132 dX7_run_81 ?_
    refine lv_iconst (v := (0 : Int32)) hx hb dX7_run_84 (by decide) ?_
    refine lv_iconst (v := (0 : Int32)) hx hb dX7_run_85 (by decide) ?_
    refine tX7_53 hC hI hf dX7_run_86 (fun S H locs hI hf => ?_)
    refine lv_iconst (v := (1 : Int32)) hx hb dX7_run_87 (by decide) ?_
    refine lv_istore_n (lv' := [(3, .int (1 : Int32)), (0, .ref (ad 799)), (1, .int a1), (2, .int a2)]) hx hb dX7_run_88 rfl hl (by decide) rfl (fun ls hl => ?_)
    exact w_X7_run_89_loop hC hR _ _ hf _ _ _ hI (lv_sub hl [1, 3, 0] rfl)
  · refine lv_aload_n hx hb dX7_run_40 rfl (lv_at hl 0 rfl) ?_
    refine gX7_14 hC hI lkf_X7_38 dX7_run_41 ?_
    refine lv_iload_n hx hb dX7_run_44 rfl (lv_at hl 3 rfl) ?_
    refine lv_aload_n hx hb dX7_run_45 rfl (lv_at hl 0 rfl) ?_
    refine gX7_6 hC hI lkf_X7_25 dX7_run_46 ?_
    refine lv_iload_n hx hb dX7_run_49 rfl (lv_at hl 3 rfl) ?_
    refine aX7_6 hC hI hf dX7_run_50 (fun v39 hf => ?_)
    refine tX7_14 hC hI hf dX7_run_51 (fun S H locs hI hf => ?_)
    refine lv_iinc (v := (a3 + (1 : Int32))) (lv' := [(3, .int (a3 + (1 : Int32))), (0, .ref (ad 799)), (1, .int a1), (2, .int a2)]) hx hb dX7_run_52 hl (k := 3) rfl rfl (by decide) rfl (fun ls hl => ?_)
    refine lv_goto (tgt := 35) hx hb dX7_run_55 (by decide) ?_
    exact hrec35 _ hf _ _ _ hI (lv_sub hl [1, 2, 3, 0] rfl)
theorem w_X7_run_35_loop {r : Int32 × x_S} (hC : x_C p s m args meth c cX7_run 7 RX7 E A) (hR : x_Ri p l e { frames := 2, cells := 0, slots := 0, locals := 44 } s m args below meth c cX7_run E A Q (mw E ad r.2) r.1) : ∀ (k : Nat) (z : x_S × Int32 × Int32 × Int32), x_loop (fun rec z => f_X7_run_35 n rec z.1 z.2.1 z.2.2.1 z.2.2.2) k z = some r → ∀ (H : Heap) (locs : List Loc) (ls : Array Slot), x_I E A s.heap (mw E ad z.1) H locs → lv_has ls 7 [(0, .ref (ad 799)), (1, .int z.2.1), (2, .int z.2.2.1), (3, .int z.2.2.2)] → W p l e { frames := 2, cells := 0, slots := 0, locals := 44 } s m args below meth c H locs 0 0 Q (F0 m 35 ls []) :=
  x_loop_ind (P := fun (z : x_S × Int32 × Int32 × Int32) => ∀ (H : Heap) (locs : List Loc) (ls : Array Slot), x_I E A s.heap (mw E ad z.1) H locs → lv_has ls 7 [(0, .ref (ad 799)), (1, .int z.2.1), (2, .int z.2.2.1), (3, .int z.2.2.2)] → W p l e { frames := 2, cells := 0, slots := 0, locals := 44 } s m args below meth c H locs 0 0 Q (F0 m 35 ls [])) (fun rec hrec z hf H locs ls hI hl => w_X7_run_35 hC hR hrec hI hl hf)
def f_X7_run (n : Nat) (S : x_S) (a1 : Int32) (a2 : Int32) : Option (Int32 × x_S) :=
x_b2 (f_X7_isRoutine n S a1) (fun v2 S =>
if v2 = 0 then
some ((-2 : Int32), S)
else
x_b (f_X7_in n a2 (0 : Int32) (10000 : Int32)) (fun v4 =>
if v4 = 0 then
some ((-2 : Int32), S)
else
x_b2 (f_X7_isWhole n S a1) (fun v6 S =>
if v6 = 0 then
some ((-3 : Int32), S)
else
x_loop (fun rec z => f_X7_run_35 n rec z.1 z.2.1 z.2.2.1 z.2.2.2) n (S, a1, a2, (0 : Int32)))))
set_option maxHeartbeats 4000000 in
set_option maxRecDepth 100000 in
theorem w_X7_run {r : Int32 × x_S} {a1 : Int32} {a2 : Int32} (hC : x_C p s m args meth c cX7_run 7 RX7 E A) (hR : x_Ri p l e { frames := 2, cells := 0, slots := 0, locals := 44 } s m args below meth c cX7_run E A Q (mw E ad r.2) r.1) (hI : x_I E A s.heap (mw E ad S) H locs) (hl : lv_has ls 7 [(0, .ref (ad 799)), (1, .int a1), (2, .int a2)]) (hf : f_X7_run n S a1 a2 = some r) : W p l e { frames := 2, cells := 0, slots := 0, locals := 44 } s m args below meth c H locs 0 0 Q (F0 m 0 ls []) := by
  obtain ⟨hx, hb, hml, hown, hts, hK, hN, hA⟩ := id hC
  unfold f_X7_run at hf
  refine lv_aload_n hx hb dX7_run_0 rfl (lv_at hl 0 rfl) ?_
  refine lv_iload_n hx hb dX7_run_1 rfl (lv_at hl 1 rfl) ?_
  obtain ⟨v2, S, hc1, hf⟩ := x_b2_eq hf
  refine x_callV hC hI (c_X7_isRoutine hc1) 0 7 rfl rfl kv_X7_142 rfl ⟨Nat.le_of_ble_eq_true rfl, Nat.le_of_ble_eq_true rfl⟩ ⟨Nat.le_refl _, Nat.le_refl _⟩ hl.1 rfl (Nat.le_of_ble_eq_true rfl) dX7_run_2 (fun H locs hI => ?_)
  refine x_eq0 hC 19 hf dX7_run_5 (by decide) (fun hf => ?_) (fun hf => ?_)
  · refine lv_bipush (v := (-2 : Int32)) hx hb dX7_run_19 (by decide) ?_
    obtain rfl := Option.some.inj hf
    exact hR _ _ _ _ hI dX7_run_21
  · refine lv_iload_n hx hb dX7_run_8 rfl (lv_at hl 2 rfl) ?_
    refine lv_iconst (v := (0 : Int32)) hx hb dX7_run_9 (by decide) ?_
    refine lv_sipush (v := (10000 : Int32)) hx hb dX7_run_10 (by decide) ?_
    obtain ⟨v4, hc3, hf⟩ := x_b_eq hf
    refine x_callS hC hI (c_X7_in hc3) ks_X7_138 rfl ⟨Nat.le_of_ble_eq_true rfl, Nat.le_of_ble_eq_true rfl⟩ ⟨Nat.le_refl _, Nat.le_refl _⟩ hl.1 rfl (Nat.le_of_ble_eq_true rfl) dX7_run_13 (fun H locs hI => ?_)
    refine x_ne0 hC 22 hf dX7_run_16 (by decide) (fun hf => ?_) (fun hf => ?_)
    · refine lv_aload_n hx hb dX7_run_22 rfl (lv_at hl 0 rfl) ?_
      refine lv_iload_n hx hb dX7_run_23 rfl (lv_at hl 1 rfl) ?_
      obtain ⟨v6, S, hc5, hf⟩ := x_b2_eq hf
      refine x_callV hC hI (c_X7_isWhole hc5) 0 7 rfl rfl kv_X7_184 rfl ⟨Nat.le_of_ble_eq_true rfl, Nat.le_of_ble_eq_true rfl⟩ ⟨Nat.le_refl _, Nat.le_refl _⟩ hl.1 rfl (Nat.le_of_ble_eq_true rfl) dX7_run_24 (fun H locs hI => ?_)
      refine x_ne0 hC 33 hf dX7_run_27 (by decide) (fun hf => ?_) (fun hf => ?_)
      · refine lv_iconst (v := (0 : Int32)) hx hb dX7_run_33 (by decide) ?_
        refine lv_istore_n (lv' := [(3, .int (0 : Int32)), (0, .ref (ad 799)), (1, .int a1), (2, .int a2)]) hx hb dX7_run_34 rfl hl (by decide) rfl (fun ls hl => ?_)
        exact w_X7_run_35_loop hC hR _ _ hf _ _ _ hI (lv_sub hl [1, 2, 3, 0] rfl)
      · refine lv_bipush (v := (-3 : Int32)) hx hb dX7_run_30 (by decide) ?_
        obtain rfl := Option.some.inj hf
        exact hR _ _ _ _ hI dX7_run_32
    · refine lv_bipush (v := (-2 : Int32)) hx hb dX7_run_19 (by decide) ?_
      obtain rfl := Option.some.inj hf
      exact hR _ _ _ _ hI dX7_run_21
theorem c_X7_run {a1 : Int32} {a2 : Int32} {v : Int32} {S1 : x_S} (hf : f_X7_run n S a1 a2 = some (v, S1)) : x_M l yX7_run cX7_run 7 (some .int) 2 44 E [.ref (ad 799), .int a1, .int a2] (mw E ad S) (mw E ad S1) (some (.int v)) :=
  x_entI (by decide) (Nat.le_of_ble_eq_true rfl) (fun p e s m args below meth c A Q ls hC hI hR hl => w_X7_run (r := (v, S1)) hC hR hI hl hf)
-- X7_ran
def f_X7_ran (n : Nat) (S : x_S) (a1 : Int32) : Option (Int32 × x_S) :=
x_b (f_X7_in n a1 (0 : Int32) (7 : Int32)) (fun v2 =>
if v2 = 0 then
some ((-2 : Int32), S)
else
if a1 = (3 : Int32) then
some ((-2 : Int32), S)
else
if a1 = 0 then
x_let (g_sc S 710) (fun v6 =>
some (v6, S))
else
if a1 = (1 : Int32) then
x_let (g_sc S 712) (fun v5 =>
some (v5, S))
else
if a1 = (2 : Int32) then
x_let (g_sc S 711) (fun v4 =>
some (v4, S))
else
x_g (¬ ((a1 - (4 : Int32)) < 0 ∨ 4 ≤ ((a1 - (4 : Int32))).toNatClampNeg)) (x_let (g_ar S 714 ((a1 - (4 : Int32))).toNatClampNeg) (fun v3 =>
some (v3, S))))
set_option maxHeartbeats 4000000 in
set_option maxRecDepth 100000 in
theorem w_X7_ran {r : Int32 × x_S} {a1 : Int32} (hC : x_C p s m args meth c cX7_ran 2 RX7 E A) (hR : x_Ri p l e { frames := 1, cells := 0, slots := 0, locals := 22 } s m args below meth c cX7_ran E A Q (mw E ad r.2) r.1) (hI : x_I E A s.heap (mw E ad S) H locs) (hl : lv_has ls 2 [(0, .ref (ad 799)), (1, .int a1)]) (hf : f_X7_ran n S a1 = some r) : W p l e { frames := 1, cells := 0, slots := 0, locals := 22 } s m args below meth c H locs 0 0 Q (F0 m 0 ls []) := by
  obtain ⟨hx, hb, hml, hown, hts, hK, hN, hA⟩ := id hC
  unfold f_X7_ran at hf
  refine lv_iload_n hx hb dX7_ran_0 rfl (lv_at hl 1 rfl) ?_
  refine lv_iconst (v := (0 : Int32)) hx hb dX7_ran_1 (by decide) ?_
  refine lv_bipush (v := (7 : Int32)) hx hb dX7_ran_2 (by decide) ?_
  obtain ⟨v2, hc1, hf⟩ := x_b_eq hf
  refine x_callS hC hI (c_X7_in hc1) ks_X7_138 rfl ⟨Nat.le_of_ble_eq_true rfl, Nat.le_of_ble_eq_true rfl⟩ ⟨Nat.le_refl _, Nat.le_refl _⟩ hl.1 rfl (Nat.le_of_ble_eq_true rfl) dX7_ran_4 (fun H locs hI => ?_)
  refine x_eq0 hC 15 hf dX7_ran_7 (by decide) (fun hf => ?_) (fun hf => ?_)
  · refine lv_bipush (v := (-2 : Int32)) hx hb dX7_ran_15 (by decide) ?_
    obtain rfl := Option.some.inj hf
    exact hR _ _ _ _ hI dX7_ran_17
  · refine lv_iload_n hx hb dX7_ran_10 rfl (lv_at hl 1 rfl) ?_
    refine lv_iconst (v := (3 : Int32)) hx hb dX7_ran_11 (by decide) ?_
    refine x_ine hC 18 hf dX7_ran_12 (by decide) (fun hf => ?_) (fun hf => ?_)
    · refine lv_iload_n hx hb dX7_ran_18 rfl (lv_at hl 1 rfl) ?_
      refine x_ne0 hC 29 hf dX7_ran_19 (by decide) (fun hf => ?_) (fun hf => ?_)
      · refine lv_iload_n hx hb dX7_ran_29 rfl (lv_at hl 1 rfl) ?_
        refine lv_iconst (v := (1 : Int32)) hx hb dX7_ran_30 (by decide) ?_
        refine x_ine hC 41 hf dX7_ran_31 (by decide) (fun hf => ?_) (fun hf => ?_)
        · refine lv_iload_n hx hb dX7_ran_41 rfl (lv_at hl 1 rfl) ?_
          refine lv_iconst (v := (2 : Int32)) hx hb dX7_ran_42 (by decide) ?_
          refine x_ine hC 53 hf dX7_ran_43 (by decide) (fun hf => ?_) (fun hf => ?_)
          · refine lv_aload_n hx hb dX7_ran_53 rfl (lv_at hl 0 rfl) ?_
            refine gX7_14 hC hI lkf_X7_38 dX7_ran_54 ?_
            refine lv_iload_n hx hb dX7_ran_57 rfl (lv_at hl 1 rfl) ?_
            refine lv_iconst (v := (4 : Int32)) hx hb dX7_ran_58 (by decide) ?_
            refine lv_isub hx hb dX7_ran_59 ?_
            refine aX7_14 hC hI hf dX7_ran_60 (fun v3 hf => ?_)
            obtain rfl := Option.some.inj hf
            exact hR _ _ _ _ hI dX7_ran_61
          · refine lv_aload_n hx hb dX7_ran_46 rfl (lv_at hl 0 rfl) ?_
            refine gX7_11 hC hI hf lkf_X7_281 dX7_ran_47 (fun v4 hf => ?_)
            refine lv_goto (tgt := 61) hx hb dX7_ran_50 (by decide) ?_
            obtain rfl := Option.some.inj hf
            exact hR _ _ _ _ hI dX7_ran_61
        · refine lv_aload_n hx hb dX7_ran_34 rfl (lv_at hl 0 rfl) ?_
          refine gX7_12 hC hI hf lkf_X7_284 dX7_ran_35 (fun v5 hf => ?_)
          refine lv_goto (tgt := 61) hx hb dX7_ran_38 (by decide) ?_
          obtain rfl := Option.some.inj hf
          exact hR _ _ _ _ hI dX7_ran_61
      · refine lv_aload_n hx hb dX7_ran_22 rfl (lv_at hl 0 rfl) ?_
        refine gX7_10 hC hI hf lkf_X7_278 dX7_ran_23 (fun v6 hf => ?_)
        refine lv_goto (tgt := 61) hx hb dX7_ran_26 (by decide) ?_
        obtain rfl := Option.some.inj hf
        exact hR _ _ _ _ hI dX7_ran_61
    · refine lv_bipush (v := (-2 : Int32)) hx hb dX7_ran_15 (by decide) ?_
      obtain rfl := Option.some.inj hf
      exact hR _ _ _ _ hI dX7_ran_17
theorem c_X7_ran {a1 : Int32} {v : Int32} {S1 : x_S} (hf : f_X7_ran n S a1 = some (v, S1)) : x_M l yX7_ran cX7_ran 2 (some .int) 1 22 E [.ref (ad 799), .int a1] (mw E ad S) (mw E ad S1) (some (.int v)) :=
  x_entI (by decide) (Nat.le_of_ble_eq_true rfl) (fun p e s m args below meth c A Q ls hC hI hR hl => w_X7_ran (r := (v, S1)) hC hR hI hl hf)
-- X7_out
def f_X7_out (n : Nat) (S : x_S) (a1 : Int32) : Option (Int32 × x_S) :=
x_let (g_sc S 712) (fun v1 =>
x_b (f_X7_in n a1 (0 : Int32) (v1 - (1 : Int32))) (fun v3 =>
if v3 = 0 then
some ((-2 : Int32), S)
else
x_g (¬ (a1 < 0 ∨ 200 ≤ (a1).toNatClampNeg)) (x_let (g_ar S 713 (a1).toNatClampNeg) (fun v4 =>
some (v4, S)))))
set_option maxHeartbeats 4000000 in
set_option maxRecDepth 100000 in
theorem w_X7_out {r : Int32 × x_S} {a1 : Int32} (hC : x_C p s m args meth c cX7_out 2 RX7 E A) (hR : x_Ri p l e { frames := 1, cells := 0, slots := 0, locals := 22 } s m args below meth c cX7_out E A Q (mw E ad r.2) r.1) (hI : x_I E A s.heap (mw E ad S) H locs) (hl : lv_has ls 2 [(0, .ref (ad 799)), (1, .int a1)]) (hf : f_X7_out n S a1 = some r) : W p l e { frames := 1, cells := 0, slots := 0, locals := 22 } s m args below meth c H locs 0 0 Q (F0 m 0 ls []) := by
  obtain ⟨hx, hb, hml, hown, hts, hK, hN, hA⟩ := id hC
  unfold f_X7_out at hf
  refine lv_iload_n hx hb dX7_out_0 rfl (lv_at hl 1 rfl) ?_
  refine lv_iconst (v := (0 : Int32)) hx hb dX7_out_1 (by decide) ?_
  refine lv_aload_n hx hb dX7_out_2 rfl (lv_at hl 0 rfl) ?_
  refine gX7_12 hC hI hf lkf_X7_284 dX7_out_3 (fun v1 hf => ?_)
  refine lv_iconst (v := (1 : Int32)) hx hb dX7_out_6 (by decide) ?_
  refine lv_isub hx hb dX7_out_7 ?_
  obtain ⟨v3, hc2, hf⟩ := x_b_eq hf
  refine x_callS hC hI (c_X7_in hc2) ks_X7_138 rfl ⟨Nat.le_of_ble_eq_true rfl, Nat.le_of_ble_eq_true rfl⟩ ⟨Nat.le_refl _, Nat.le_refl _⟩ hl.1 rfl (Nat.le_of_ble_eq_true rfl) dX7_out_8 (fun H locs hI => ?_)
  refine x_eq0 hC 23 hf dX7_out_11 (by decide) (fun hf => ?_) (fun hf => ?_)
  · refine lv_bipush (v := (-2 : Int32)) hx hb dX7_out_23 (by decide) ?_
    obtain rfl := Option.some.inj hf
    exact hR _ _ _ _ hI dX7_out_25
  · refine lv_aload_n hx hb dX7_out_14 rfl (lv_at hl 0 rfl) ?_
    refine gX7_13 hC hI lkf_X7_35 dX7_out_15 ?_
    refine lv_iload_n hx hb dX7_out_18 rfl (lv_at hl 1 rfl) ?_
    refine aX7_13 hC hI hf dX7_out_19 (fun v4 hf => ?_)
    refine lv_goto (tgt := 25) hx hb dX7_out_20 (by decide) ?_
    obtain rfl := Option.some.inj hf
    exact hR _ _ _ _ hI dX7_out_25
theorem c_X7_out {a1 : Int32} {v : Int32} {S1 : x_S} (hf : f_X7_out n S a1 = some (v, S1)) : x_M l yX7_out cX7_out 2 (some .int) 1 22 E [.ref (ad 799), .int a1] (mw E ad S) (mw E ad S1) (some (.int v)) :=
  x_entI (by decide) (Nat.le_of_ble_eq_true rfl) (fun p e s m args below meth c A Q ls hC hI hR hl => w_X7_out (r := (v, S1)) hC hR hI hl hf)
-- X7_routine
def f_X7_routine (n : Nat) (S : x_S) : Option (Int32 × x_S) :=
x_let (g_sc S 700) (fun v1 =>
if v1 = (12 : Int32) then
some ((-4 : Int32), S)
else
x_let (g_sc S 700) (fun v2 =>
x_g (¬ (v2 < 0 ∨ 12 ≤ (v2).toNatClampNeg)) (x_let (s_ar S 701 (v2).toNatClampNeg (0 : Int32)) (fun S =>
x_let (g_sc S 700) (fun v3 =>
x_let (s_sc S 700 (v3 + (1 : Int32))) (fun S =>
x_let (g_sc S 700) (fun v4 =>
some ((v4 - (1 : Int32)), S))))))))
set_option maxHeartbeats 4000000 in
set_option maxRecDepth 100000 in
theorem w_X7_routine {r : Int32 × x_S} (hC : x_C p s m args meth c cX7_routine 1 RX7 E A) (hR : x_Ri p l e { frames := 0, cells := 0, slots := 0, locals := 0 } s m args below meth c cX7_routine E A Q (mw E ad r.2) r.1) (hI : x_I E A s.heap (mw E ad S) H locs) (hl : lv_has ls 1 [(0, .ref (ad 799))]) (hf : f_X7_routine n S = some r) : W p l e { frames := 0, cells := 0, slots := 0, locals := 0 } s m args below meth c H locs 0 0 Q (F0 m 0 ls []) := by
  obtain ⟨hx, hb, hml, hown, hts, hK, hN, hA⟩ := id hC
  unfold f_X7_routine at hf
  refine lv_aload_n hx hb dX7_routine_0 rfl (lv_at hl 0 rfl) ?_
  refine gX7_0 hC hI hf lkf_X7_135 dX7_routine_1 (fun v1 hf => ?_)
  refine lv_bipush (v := (12 : Int32)) hx hb dX7_routine_4 (by decide) ?_
  refine x_ine hC 12 hf dX7_routine_6 (by decide) (fun hf => ?_) (fun hf => ?_)
  · refine lv_aload_n hx hb dX7_routine_12 rfl (lv_at hl 0 rfl) ?_
    refine gX7_1 hC hI lkf_X7_7 dX7_routine_13 ?_
    refine lv_aload_n hx hb dX7_routine_16 rfl (lv_at hl 0 rfl) ?_
    refine gX7_0 hC hI hf lkf_X7_135 dX7_routine_17 (fun v2 hf => ?_)
    refine lv_iconst (v := (0 : Int32)) hx hb dX7_routine_20 (by decide) ?_
    refine tX7_1 hC hI hf dX7_routine_21 (fun S H locs hI hf => ?_)
    refine lv_aload_n hx hb dX7_routine_22 rfl (lv_at hl 0 rfl) ?_
    refine lv_dup hx hb dX7_routine_23 rfl ?_
    refine gX7_0 hC hI hf lkf_X7_135 dX7_routine_24 (fun v3 hf => ?_)
    refine lv_iconst (v := (1 : Int32)) hx hb dX7_routine_27 (by decide) ?_
    refine lv_iadd hx hb dX7_routine_28 ?_
    refine pX7_0 hC hI hf lkf_X7_135 dX7_routine_29 (fun S H locs hI hf => ?_)
    refine lv_aload_n hx hb dX7_routine_32 rfl (lv_at hl 0 rfl) ?_
    refine gX7_0 hC hI hf lkf_X7_135 dX7_routine_33 (fun v4 hf => ?_)
    refine lv_iconst (v := (1 : Int32)) hx hb dX7_routine_36 (by decide) ?_
    refine lv_isub hx hb dX7_routine_37 ?_
    obtain rfl := Option.some.inj hf
    exact hR _ _ _ _ hI dX7_routine_38
  · refine lv_bipush (v := (-4 : Int32)) hx hb dX7_routine_9 (by decide) ?_
    obtain rfl := Option.some.inj hf
    exact hR _ _ _ _ hI dX7_routine_11
theorem c_X7_routine {v : Int32} {S1 : x_S} (hf : f_X7_routine n S = some (v, S1)) : x_M l yX7_routine cX7_routine 1 (some .int) 0 0 E [.ref (ad 799)] (mw E ad S) (mw E ad S1) (some (.int v)) :=
  x_entI (by decide) (Nat.le_of_ble_eq_true rfl) (fun p e s m args below meth c A Q ls hC hI hR hl => w_X7_routine (r := (v, S1)) hC hR hI hl hf)
-- X7_next
def f_X7_next (n : Nat) (S : x_S) : Option (Int32 × x_S) :=
x_let (g_sc S 737) (fun v1 =>
if v1 = 0 then
x_let (g_sc S 736) (fun v2 =>
x_let (g_sc S 708) (fun v3 =>
if v2 = v3 then
x_let (s_sc S 737 (1 : Int32)) (fun S =>
some ((0 : Int32), S))
else
x_let (g_sc S 736) (fun v4 =>
x_let (s_sc S 736 (v4 + (1 : Int32))) (fun S =>
x_let (g_sc S 736) (fun v5 =>
x_g (¬ ((v5 - (1 : Int32)) < 0 ∨ 300 ≤ ((v5 - (1 : Int32))).toNatClampNeg)) (x_let (g_ar S 707 ((v5 - (1 : Int32))).toNatClampNeg) (fun v6 =>
some (v6, S))))))))
else
some ((0 : Int32), S))
set_option maxHeartbeats 4000000 in
set_option maxRecDepth 100000 in
theorem w_X7_next {r : Int32 × x_S} (hC : x_C p s m args meth c cX7_next 1 RX7 E A) (hR : x_Ri p l e { frames := 0, cells := 0, slots := 0, locals := 0 } s m args below meth c cX7_next E A Q (mw E ad r.2) r.1) (hI : x_I E A s.heap (mw E ad S) H locs) (hl : lv_has ls 1 [(0, .ref (ad 799))]) (hf : f_X7_next n S = some r) : W p l e { frames := 0, cells := 0, slots := 0, locals := 0 } s m args below meth c H locs 0 0 Q (F0 m 0 ls []) := by
  obtain ⟨hx, hb, hml, hown, hts, hK, hN, hA⟩ := id hC
  unfold f_X7_next at hf
  refine lv_aload_n hx hb dX7_next_0 rfl (lv_at hl 0 rfl) ?_
  refine gX7_37 hC hI hf lkf_X7_230 dX7_next_1 (fun v1 hf => ?_)
  refine x_eq0 hC 9 hf dX7_next_4 (by decide) (fun hf => ?_) (fun hf => ?_)
  · refine lv_aload_n hx hb dX7_next_9 rfl (lv_at hl 0 rfl) ?_
    refine gX7_36 hC hI hf lkf_X7_233 dX7_next_10 (fun v2 hf => ?_)
    refine lv_aload_n hx hb dX7_next_13 rfl (lv_at hl 0 rfl) ?_
    refine gX7_8 hC hI hf lkf_X7_227 dX7_next_14 (fun v3 hf => ?_)
    refine x_ine hC 27 hf dX7_next_17 (by decide) (fun hf => ?_) (fun hf => ?_)
    · refine lv_aload_n hx hb dX7_next_27 rfl (lv_at hl 0 rfl) ?_
      refine lv_dup hx hb dX7_next_28 rfl ?_
      refine gX7_36 hC hI hf lkf_X7_233 dX7_next_29 (fun v4 hf => ?_)
      refine lv_iconst (v := (1 : Int32)) hx hb dX7_next_32 (by decide) ?_
      refine lv_iadd hx hb dX7_next_33 ?_
      refine pX7_36 hC hI hf lkf_X7_233 dX7_next_34 (fun S H locs hI hf => ?_)
      refine lv_aload_n hx hb dX7_next_37 rfl (lv_at hl 0 rfl) ?_
      refine gX7_7 hC hI lkf_X7_28 dX7_next_38 ?_
      refine lv_aload_n hx hb dX7_next_41 rfl (lv_at hl 0 rfl) ?_
      refine gX7_36 hC hI hf lkf_X7_233 dX7_next_42 (fun v5 hf => ?_)
      refine lv_iconst (v := (1 : Int32)) hx hb dX7_next_45 (by decide) ?_
      refine lv_isub hx hb dX7_next_46 ?_
      refine aX7_7 hC hI hf dX7_next_47 (fun v6 hf => ?_)
      obtain rfl := Option.some.inj hf
      exact hR _ _ _ _ hI dX7_next_48
    · refine lv_aload_n hx hb dX7_next_20 rfl (lv_at hl 0 rfl) ?_
      refine lv_iconst (v := (1 : Int32)) hx hb dX7_next_21 (by decide) ?_
      refine pX7_37 hC hI hf lkf_X7_230 dX7_next_22 (fun S H locs hI hf => ?_)
      refine lv_iconst (v := (0 : Int32)) hx hb dX7_next_25 (by decide) ?_
      obtain rfl := Option.some.inj hf
      exact hR _ _ _ _ hI dX7_next_26
  · refine lv_iconst (v := (0 : Int32)) hx hb dX7_next_7 (by decide) ?_
    obtain rfl := Option.some.inj hf
    exact hR _ _ _ _ hI dX7_next_8
theorem c_X7_next {v : Int32} {S1 : x_S} (hf : f_X7_next n S = some (v, S1)) : x_M l yX7_next cX7_next 1 (some .int) 0 0 E [.ref (ad 799)] (mw E ad S) (mw E ad S1) (some (.int v)) :=
  x_entI (by decide) (Nat.le_of_ble_eq_true rfl) (fun p e s m args below meth c A Q ls hC hI hR hl => w_X7_next (r := (v, S1)) hC hR hI hl hf)
-- X7_wrong
def f_X7_wrong (n : Nat) (S : x_S) (a1 : Int32) : Option (x_S) :=
x_let (g_sc S 737) (fun v1 =>
if v1 = 0 then
x_let (s_sc S 737 a1) (fun S =>
x_let (g_sc S 736) (fun v2 =>
x_let (s_sc S 736 (v2 - (1 : Int32))) (fun S =>
some S)))
else
some S)
set_option maxHeartbeats 4000000 in
set_option maxRecDepth 100000 in
theorem w_X7_wrong {r : x_S} {a1 : Int32} (hC : x_C p s m args meth c cX7_wrong 2 RX7 E A) (hR : x_Rv p l e { frames := 0, cells := 0, slots := 0, locals := 0 } s m args below meth c cX7_wrong E A Q (mw E ad r)) (hI : x_I E A s.heap (mw E ad S) H locs) (hl : lv_has ls 2 [(0, .ref (ad 799)), (1, .int a1)]) (hf : f_X7_wrong n S a1 = some r) : W p l e { frames := 0, cells := 0, slots := 0, locals := 0 } s m args below meth c H locs 0 0 Q (F0 m 0 ls []) := by
  obtain ⟨hx, hb, hml, hown, hts, hK, hN, hA⟩ := id hC
  unfold f_X7_wrong at hf
  refine lv_aload_n hx hb dX7_wrong_0 rfl (lv_at hl 0 rfl) ?_
  refine gX7_37 hC hI hf lkf_X7_230 dX7_wrong_1 (fun v1 hf => ?_)
  refine x_ne0 hC 22 hf dX7_wrong_4 (by decide) (fun hf => ?_) (fun hf => ?_)
  · obtain rfl := Option.some.inj hf
    exact hR _ _ _ _ hI dX7_wrong_22
  · refine lv_aload_n hx hb dX7_wrong_7 rfl (lv_at hl 0 rfl) ?_
    refine lv_iload_n hx hb dX7_wrong_8 rfl (lv_at hl 1 rfl) ?_
    refine pX7_37 hC hI hf lkf_X7_230 dX7_wrong_9 (fun S H locs hI hf => ?_)
    refine lv_aload_n hx hb dX7_wrong_12 rfl (lv_at hl 0 rfl) ?_
    refine lv_dup hx hb dX7_wrong_13 rfl ?_
    refine gX7_36 hC hI hf lkf_X7_233 dX7_wrong_14 (fun v2 hf => ?_)
    refine lv_iconst (v := (1 : Int32)) hx hb dX7_wrong_17 (by decide) ?_
    refine lv_isub hx hb dX7_wrong_18 ?_
    refine pX7_36 hC hI hf lkf_X7_233 dX7_wrong_19 (fun S H locs hI hf => ?_)
    obtain rfl := Option.some.inj hf
    exact hR _ _ _ _ hI dX7_wrong_22
theorem c_X7_wrong {a1 : Int32} {S1 : x_S} (hf : f_X7_wrong n S a1 = some S1) : x_M l yX7_wrong cX7_wrong 2 none 0 0 E [.ref (ad 799), .int a1] (mw E ad S) (mw E ad S1) none :=
  x_entV (by decide) (Nat.le_of_ble_eq_true rfl) (fun p e s m args below meth c A Q ls hC hI hR hl => w_X7_wrong (r := S1) hC hR hI hl hf)
end
