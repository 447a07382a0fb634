section
variable {p : Program} {l : Launch} {e : Env} {s : State} {m : MethodId} {args : Array Value} {below : List Frame} {meth : Method} {c : Code} {H : Heap} {locs : List Loc} {Q : State → Prop}
variable {E : x_E} {A : Nat → Prop} {ls : Array Slot} {ad : Nat → Nat} {ap : Nat → Nat → Nat} {S : x_S} {w : va_W} {n : Nat}
-- X7_act
def f_X7_act (n : Nat) (S : x_S) (a1 : Int32) (a2 : Int32) (a3 : Int32) (a4 : Int32) (a5 : Int32) : Option (Int32 × x_S) :=
x_b2 (f_X7_isRoutine n S a1) (fun v2 S =>
if v2 = 0 then
some ((-2 : Int32), S)
else
x_b (f_X7_isAct n a2 a3 a4 a5) (fun v4 =>
if v4 = 0 then
some ((-2 : Int32), S)
else
x_g (¬ (a1 < 0 ∨ 12 ≤ (a1).toNatClampNeg)) (x_let (g_ar S 701 (a1).toNatClampNeg) (fun v5 =>
if v5 = (60 : Int32) then
some ((-4 : Int32), S)
else
x_g (¬ (a1 < 0 ∨ 12 ≤ (a1).toNatClampNeg)) (x_let (g_ar S 701 (a1).toNatClampNeg) (fun v6 =>
x_b (f_X7_put n S a1 v6 a2 a3 a4 a5) (fun S =>
x_g (¬ (a1 < 0 ∨ 12 ≤ (a1).toNatClampNeg)) (x_let (g_ar S 701 (a1).toNatClampNeg) (fun v8 =>
x_g (¬ (a1 < 0 ∨ 12 ≤ (a1).toNatClampNeg)) (x_let (s_ar S 701 (a1).toNatClampNeg (v8 + (1 : Int32))) (fun S =>
x_g (¬ (a1 < 0 ∨ 12 ≤ (a1).toNatClampNeg)) (x_let (g_ar S 701 (a1).toNatClampNeg) (fun v9 =>
some ((v9 - (1 : Int32)), S))))))))))))))
set_option maxHeartbeats 4000000 in
set_option maxRecDepth 100000 in
theorem w_X7_act {r : Int32 × x_S} {a1 : Int32} {a2 : Int32} {a3 : Int32} {a4 : Int32} {a5 : Int32} (hC : x_C p s m args meth c cX7_act 6 RX7 E A) (hR : x_Ri p l e { frames := 2, cells := 0, slots := 0, locals := 45 } s m args below meth c cX7_act E A Q (mw E ad r.2) r.1) (hI : x_I E A s.heap (mw E ad S) H locs) (hl : lv_has ls 6 [(0, .ref (ad 799)), (1, .int a1), (2, .int a2), (3, .int a3), (4, .int a4), (5, .int a5)]) (hf : f_X7_act n S a1 a2 a3 a4 a5 = some r) : W p l e { frames := 2, cells := 0, slots := 0, locals := 45 } s m args below meth c H locs 0 0 Q (F0 m 0 ls []) := by
  obtain ⟨hx, hb, hml, hown, hts, hK, hN, hA⟩ := id hC
  unfold f_X7_act at hf
  refine lv_aload_n hx hb dX7_act_0 rfl (lv_at hl 0 rfl) ?_
  refine lv_iload_n hx hb dX7_act_1 rfl (lv_at hl 1 rfl) ?_
  obtain ⟨v2, S, hc1, hf⟩ := x_b2_eq hf
  refine x_callV hC hI (c_X7_isRoutine hc1) 0 7 rfl rfl kv_X7_142 rfl ⟨Nat.le_of_ble_eq_true rfl, Nat.le_of_ble_eq_true rfl⟩ ⟨Nat.le_refl _, Nat.le_refl _⟩ hl.1 rfl (Nat.le_of_ble_eq_true rfl) dX7_act_2 (fun H locs hI => ?_)
  refine x_eq0 hC 20 hf dX7_act_5 (by decide) (fun hf => ?_) (fun hf => ?_)
  · refine lv_bipush (v := (-2 : Int32)) hx hb dX7_act_20 (by decide) ?_
    obtain rfl := Option.some.inj hf
    exact hR _ _ _ _ hI dX7_act_22
  · refine lv_iload_n hx hb dX7_act_8 rfl (lv_at hl 2 rfl) ?_
    refine lv_iload_n hx hb dX7_act_9 rfl (lv_at hl 3 rfl) ?_
    refine lv_iload hx hb dX7_act_10 (lv_at hl 4 rfl) ?_
    refine lv_iload hx hb dX7_act_12 (lv_at hl 5 rfl) ?_
    obtain ⟨v4, hc3, hf⟩ := x_b_eq hf
    refine x_callS hC hI (c_X7_isAct hc3) ks_X7_146 rfl ⟨Nat.le_of_ble_eq_true rfl, Nat.le_of_ble_eq_true rfl⟩ ⟨Nat.le_refl _, Nat.le_refl _⟩ hl.1 rfl (Nat.le_of_ble_eq_true rfl) dX7_act_14 (fun H locs hI => ?_)
    refine x_ne0 hC 23 hf dX7_act_17 (by decide) (fun hf => ?_) (fun hf => ?_)
    · refine lv_aload_n hx hb dX7_act_23 rfl (lv_at hl 0 rfl) ?_
      refine gX7_1 hC hI lkf_X7_7 dX7_act_24 ?_
      refine lv_iload_n hx hb dX7_act_27 rfl (lv_at hl 1 rfl) ?_
      refine aX7_1 hC hI hf dX7_act_28 (fun v5 hf => ?_)
      refine lv_bipush (v := (60 : Int32)) hx hb dX7_act_29 (by decide) ?_
      refine x_ine hC 37 hf dX7_act_31 (by decide) (fun hf => ?_) (fun hf => ?_)
      · refine lv_aload_n hx hb dX7_act_37 rfl (lv_at hl 0 rfl) ?_
        refine lv_iload_n hx hb dX7_act_38 rfl (lv_at hl 1 rfl) ?_
        refine lv_aload_n hx hb dX7_act_39 rfl (lv_at hl 0 rfl) ?_
        refine gX7_1 hC hI lkf_X7_7 dX7_act_40 ?_
        refine lv_iload_n hx hb dX7_act_43 rfl (lv_at hl 1 rfl) ?_
        refine aX7_1 hC hI hf dX7_act_44 (fun v6 hf => ?_)
        refine lv_iload_n hx hb dX7_act_45 rfl (lv_at hl 2 rfl) ?_
        refine lv_iload_n hx hb dX7_act_46 rfl (lv_at hl 3 rfl) ?_
        refine lv_iload hx hb dX7_act_47 (lv_at hl 4 rfl) ?_
        refine lv_iload hx hb dX7_act_49 (lv_at hl 5 rfl) ?_
        obtain ⟨S, hc7, hf⟩ := x_b_eq hf
        refine x_callV hC hI (c_X7_put hc7) 0 7 rfl rfl kv_X7_150 rfl ⟨Nat.le_of_ble_eq_true rfl, Nat.le_of_ble_eq_true rfl⟩ ⟨Nat.le_refl _, Nat.le_refl _⟩ hl.1 rfl (Nat.le_of_ble_eq_true rfl) dX7_act_51 (fun H locs hI => ?_)
        refine lv_aload_n hx hb dX7_act_54 rfl (lv_at hl 0 rfl) ?_
        refine gX7_1 hC hI lkf_X7_7 dX7_act_55 ?_
        refine lv_iload_n hx hb dX7_act_58 rfl (lv_at hl 1 rfl) ?_
        refine lv_dup2_11 hx hb dX7_act_59 rfl rfl ?_
        refine aX7_1 hC hI hf dX7_act_60 (fun v8 hf => ?_)
        refine lv_iconst (v := (1 : Int32)) hx hb dX7_act_61 (by decide) ?_
        refine lv_iadd hx hb dX7_act_62 ?_
        refine tX7_1 hC hI hf dX7_act_63 (fun S H locs hI hf => ?_)
        refine lv_aload_n hx hb dX7_act_64 rfl (lv_at hl 0 rfl) ?_
        refine gX7_1 hC hI lkf_X7_7 dX7_act_65 ?_
        refine lv_iload_n hx hb dX7_act_68 rfl (lv_at hl 1 rfl) ?_
        refine aX7_1 hC hI hf dX7_act_69 (fun v9 hf => ?_)
        refine lv_iconst (v := (1 : Int32)) hx hb dX7_act_70 (by decide) ?_
        refine lv_isub hx hb dX7_act_71 ?_
        obtain rfl := Option.some.inj hf
        exact hR _ _ _ _ hI dX7_act_72
      · refine lv_bipush (v := (-4 : Int32)) hx hb dX7_act_34 (by decide) ?_
        obtain rfl := Option.some.inj hf
        exact hR _ _ _ _ hI dX7_act_36
    · refine lv_bipush (v := (-2 : Int32)) hx hb dX7_act_20 (by decide) ?_
      obtain rfl := Option.some.inj hf
      exact hR _ _ _ _ hI dX7_act_22
theorem c_X7_act {a1 : Int32} {a2 : Int32} {a3 : Int32} {a4 : Int32} {a5 : Int32} {v : Int32} {S1 : x_S} (hf : f_X7_act n S a1 a2 a3 a4 a5 = some (v, S1)) : x_M l yX7_act cX7_act 6 (some .int) 2 45 E [.ref (ad 799), .int a1, .int a2, .int a3, .int a4, .int a5] (mw E ad S) (mw E ad S1) (some (.int v)) :=
  x_entI (by decide) (Nat.le_of_ble_eq_true rfl) (fun p e s m args below meth c A Q ls hC hI hR hl => w_X7_act (r := (v, S1)) hC hR hI hl hf)
-- X7_alter
def f_X7_alter (n : Nat) (S : x_S) (a1 : Int32) (a2 : Int32) (a3 : Int32) (a4 : Int32) (a5 : Int32) (a6 : Int32) : Option (Int32 × x_S) :=
x_b2 (f_X7_isRoutine n S a1) (fun v2 S =>
if v2 = 0 then
some ((-2 : Int32), S)
else
x_g (¬ (a1 < 0 ∨ 12 ≤ (a1).toNatClampNeg)) (x_let (g_ar S 701 (a1).toNatClampNeg) (fun v3 =>
x_b (f_X7_in n a2 (0 : Int32) (v3 - (1 : Int32))) (fun v5 =>
if v5 = 0 then
some ((-2 : Int32), S)
else
x_b (f_X7_isAct n a3 a4 a5 a6) (fun v7 =>
if v7 = 0 then
some ((-2 : Int32), S)
else
x_b (f_X7_put n S a1 a2 a3 a4 a5 a6) (fun S =>
some (a2, S)))))))
set_option maxHeartbeats 4000000 in
set_option maxRecDepth 100000 in
theorem w_X7_alter {r : Int32 × x_S} {a1 : Int32} {a2 : Int32} {a3 : Int32} {a4 : Int32} {a5 : Int32} {a6 : Int32} (hC : x_C p s m args meth c cX7_alter 7 RX7 E A) (hR : x_Ri p l e { frames := 2, cells := 0, slots := 0, locals := 45 } s m args below meth c cX7_alter E A Q (mw E ad r.2) r.1) (hI : x_I E A s.heap (mw E ad S) H locs) (hl : lv_has ls 7 [(0, .ref (ad 799)), (1, .int a1), (2, .int a2), (3, .int a3), (4, .int a4), (5, .int a5), (6, .int a6)]) (hf : f_X7_alter n S a1 a2 a3 a4 a5 a6 = some r) : W p l e { frames := 2, cells := 0, slots := 0, locals := 45 } s m args below meth c H locs 0 0 Q (F0 m 0 ls []) := by
  obtain ⟨hx, hb, hml, hown, hts, hK, hN, hA⟩ := id hC
  unfold f_X7_alter at hf
  refine lv_aload_n hx hb dX7_alter_0 rfl (lv_at hl 0 rfl) ?_
  refine lv_iload_n hx hb dX7_alter_1 rfl (lv_at hl 1 rfl) ?_
  obtain ⟨v2, S, hc1, hf⟩ := x_b2_eq hf
  refine x_callV hC hI (c_X7_isRoutine hc1) 0 7 rfl rfl kv_X7_142 rfl ⟨Nat.le_of_ble_eq_true rfl, Nat.le_of_ble_eq_true rfl⟩ ⟨Nat.le_refl _, Nat.le_refl _⟩ hl.1 rfl (Nat.le_of_ble_eq_true rfl) dX7_alter_2 (fun H locs hI => ?_)
  refine x_eq0 hC 37 hf dX7_alter_5 (by decide) (fun hf => ?_) (fun hf => ?_)
  · refine lv_bipush (v := (-2 : Int32)) hx hb dX7_alter_37 (by decide) ?_
    obtain rfl := Option.some.inj hf
    exact hR _ _ _ _ hI dX7_alter_39
  · refine lv_iload_n hx hb dX7_alter_8 rfl (lv_at hl 2 rfl) ?_
    refine lv_iconst (v := (0 : Int32)) hx hb dX7_alter_9 (by decide) ?_
    refine lv_aload_n hx hb dX7_alter_10 rfl (lv_at hl 0 rfl) ?_
    refine gX7_1 hC hI lkf_X7_7 dX7_alter_11 ?_
    refine lv_iload_n hx hb dX7_alter_14 rfl (lv_at hl 1 rfl) ?_
    refine aX7_1 hC hI hf dX7_alter_15 (fun v3 hf => ?_)
    refine lv_iconst (v := (1 : Int32)) hx hb dX7_alter_16 (by decide) ?_
    refine lv_isub hx hb dX7_alter_17 ?_
    obtain ⟨v5, hc4, hf⟩ := x_b_eq hf
    refine x_callS hC hI (c_X7_in hc4) ks_X7_138 rfl ⟨Nat.le_of_ble_eq_true rfl, Nat.le_of_ble_eq_true rfl⟩ ⟨Nat.le_refl _, Nat.le_refl _⟩ hl.1 rfl (Nat.le_of_ble_eq_true rfl) dX7_alter_18 (fun H locs hI => ?_)
    refine x_eq0 hC 37 hf dX7_alter_21 (by decide) (fun hf => ?_) (fun hf => ?_)
    · refine lv_bipush (v := (-2 : Int32)) hx hb dX7_alter_37 (by decide) ?_
      obtain rfl := Option.some.inj hf
      exact hR _ _ _ _ hI dX7_alter_39
    · refine lv_iload_n hx hb dX7_alter_24 rfl (lv_at hl 3 rfl) ?_
      refine lv_iload hx hb dX7_alter_25 (lv_at hl 4 rfl) ?_
      refine lv_iload hx hb dX7_alter_27 (lv_at hl 5 rfl) ?_
      refine lv_iload hx hb dX7_alter_29 (lv_at hl 6 rfl) ?_
      obtain ⟨v7, hc6, hf⟩ := x_b_eq hf
      refine x_callS hC hI (c_X7_isAct hc6) ks_X7_146 rfl ⟨Nat.le_of_ble_eq_true rfl, Nat.le_of_ble_eq_true rfl⟩ ⟨Nat.le_refl _, Nat.le_refl _⟩ hl.1 rfl (Nat.le_of_ble_eq_true rfl) dX7_alter_31 (fun H locs hI => ?_)
      refine x_ne0 hC 40 hf dX7_alter_34 (by decide) (fun hf => ?_) (fun hf => ?_)
      · refine lv_aload_n hx hb dX7_alter_40 rfl (lv_at hl 0 rfl) ?_
        refine lv_iload_n hx hb dX7_alter_41 rfl (lv_at hl 1 rfl) ?_
        refine lv_iload_n hx hb dX7_alter_42 rfl (lv_at hl 2 rfl) ?_
        refine lv_iload_n hx hb dX7_alter_43 rfl (lv_at hl 3 rfl) ?_
        refine lv_iload hx hb dX7_alter_44 (lv_at hl 4 rfl) ?_
        refine lv_iload hx hb dX7_alter_46 (lv_at hl 5 rfl) ?_
        refine lv_iload hx hb dX7_alter_48 (lv_at hl 6 rfl) ?_
        obtain ⟨S, hc8, hf⟩ := x_b_eq hf
        refine x_callV hC hI (c_X7_put hc8) 0 7 rfl rfl kv_X7_150 rfl ⟨Nat.le_of_ble_eq_true rfl, Nat.le_of_ble_eq_true rfl⟩ ⟨Nat.le_refl _, Nat.le_refl _⟩ hl.1 rfl (Nat.le_of_ble_eq_true rfl) dX7_alter_50 (fun H locs hI => ?_)
        refine lv_iload_n hx hb dX7_alter_53 rfl (lv_at hl 2 rfl) ?_
        obtain rfl := Option.some.inj hf
        exact hR _ _ _ _ hI dX7_alter_54
      · refine lv_bipush (v := (-2 : Int32)) hx hb dX7_alter_37 (by decide) ?_
        obtain rfl := Option.some.inj hf
        exact hR _ _ _ _ hI dX7_alter_39
theorem c_X7_alter {a1 : Int32} {a2 : Int32} {a3 : Int32} {a4 : Int32} {a5 : Int32} {a6 : Int32} {v : Int32} {S1 : x_S} (hf : f_X7_alter n S a1 a2 a3 a4 a5 a6 = some (v, S1)) : x_M l yX7_alter cX7_alter 7 (some .int) 2 45 E [.ref (ad 799), .int a1, .int a2, .int a3, .int a4, .int a5, .int a6] (mw E ad S) (mw E ad S1) (some (.int v)) :=
  x_entI (by decide) (Nat.le_of_ble_eq_true rfl) (fun p e s m args below meth c A Q ls hC hI hR hl => w_X7_alter (r := (v, S1)) hC hR hI hl hf)
-- X7_leads
def f_X7_leads (n : Nat) (S : x_S) (a1 : Int32) : Option (Int32 × x_S) :=
x_g (¬ (a1 < 0 ∨ 720 ≤ (a1).toNatClampNeg)) (x_let (g_ar S 702 (a1).toNatClampNeg) (fun v1 =>
if v1 = (2 : Int32) then
x_g ((1 : Int32) = 0 ∨ (1 : Int32) = 1) (some ((1 : Int32), S))
else
x_g (¬ (a1 < 0 ∨ 720 ≤ (a1).toNatClampNeg)) (x_let (g_ar S 702 (a1).toNatClampNeg) (fun v2 =>
if v2 = (3 : Int32) then
x_g ((1 : Int32) = 0 ∨ (1 : Int32) = 1) (some ((1 : Int32), S))
else
x_g ((0 : Int32) = 0 ∨ (0 : Int32) = 1) (some ((0 : Int32), S))))))
set_option maxHeartbeats 4000000 in
set_option maxRecDepth 100000 in
theorem w_X7_leads {r : Int32 × x_S} {a1 : Int32} (hC : x_C p s m args meth c cX7_leads 2 RX7 E A) (hR : x_Rz p l e { frames := 0, cells := 0, slots := 0, locals := 0 } s m args below meth c cX7_leads E A Q (mw E ad r.2) r.1) (hI : x_I E A s.heap (mw E ad S) H locs) (hl : lv_has ls 2 [(0, .ref (ad 799)), (1, .int a1)]) (hf : f_X7_leads n S a1 = some r) : W p l e { frames := 0, cells := 0, slots := 0, locals := 0 } s m args below meth c H locs 0 0 Q (F0 m 0 ls []) := by
  obtain ⟨hx, hb, hml, hown, hts, hK, hN, hA⟩ := id hC
  unfold f_X7_leads at hf
  refine lv_aload_n hx hb dX7_leads_0 rfl (lv_at hl 0 rfl) ?_
  refine gX7_2 hC hI lkf_X7_13 dX7_leads_1 ?_
  refine lv_iload_n hx hb dX7_leads_4 rfl (lv_at hl 1 rfl) ?_
  refine aX7_2 hC hI hf dX7_leads_5 (fun v1 hf => ?_)
  refine lv_iconst (v := (2 : Int32)) hx hb dX7_leads_6 (by decide) ?_
  refine x_ieq hC 20 hf dX7_leads_7 (by decide) (fun hf => ?_) (fun hf => ?_)
  · refine lv_iconst (v := (1 : Int32)) hx hb dX7_leads_20 (by decide) ?_
    refine lv_goto (tgt := 25) hx hb dX7_leads_21 (by decide) ?_
    obtain ⟨h9, hf⟩ := x_g_eq hf
    obtain rfl := Option.some.inj hf
    exact hR _ _ _ _ h9 hI dX7_leads_25
  · refine lv_aload_n hx hb dX7_leads_10 rfl (lv_at hl 0 rfl) ?_
    refine gX7_2 hC hI lkf_X7_13 dX7_leads_11 ?_
    refine lv_iload_n hx hb dX7_leads_14 rfl (lv_at hl 1 rfl) ?_
    refine aX7_2 hC hI hf dX7_leads_15 (fun v2 hf => ?_)
    refine lv_iconst (v := (3 : Int32)) hx hb dX7_leads_16 (by decide) ?_
    refine x_ine hC 24 hf dX7_leads_17 (by decide) (fun hf => ?_) (fun hf => ?_)
    · refine lv_iconst (v := (0 : Int32)) hx hb dX7_leads_24 (by decide) ?_
      obtain ⟨h9, hf⟩ := x_g_eq hf
      obtain rfl := Option.some.inj hf
      exact hR _ _ _ _ h9 hI dX7_leads_25
    · refine lv_iconst (v := (1 : Int32)) hx hb dX7_leads_20 (by decide) ?_
      refine lv_goto (tgt := 25) hx hb dX7_leads_21 (by decide) ?_
      obtain ⟨h9, hf⟩ := x_g_eq hf
      obtain rfl := Option.some.inj hf
      exact hR _ _ _ _ h9 hI dX7_leads_25
theorem c_X7_leads {a1 : Int32} {v : Int32} {S1 : x_S} (hf : f_X7_leads n S a1 = some (v, S1)) : x_M l yX7_leads cX7_leads 2 (some .boolean) 0 0 E [.ref (ad 799), .int a1] (mw E ad S) (mw E ad S1) (some (.int v)) :=
  x_entZ (by decide) (Nat.le_of_ble_eq_true rfl) (fun p e s m args below meth c A Q ls hC hI hR hl => w_X7_leads (r := (v, S1)) hC hR hI hl hf)
-- X7_isWhole
def f_X7_isWhole_54 (n : Nat) (rec7 : x_S × Int32 × Int32 × Int32 → Option (Int32 × x_S)) (S : x_S) (a1 : Int32) (a3 : Int32) (t0 : Int32) : Option (Int32 × x_S) :=
rec7 (S, a1, t0, (a3 + (1 : Int32)))
set_option maxHeartbeats 4000000 in
set_option maxRecDepth 100000 in
theorem w_X7_isWhole_54 {r : Int32 × x_S} {a1 : Int32} {a3 : Int32} {t0 : Int32} {rec7 : x_S × Int32 × Int32 × Int32 → Option (Int32 × x_S)} (hC : x_C p s m args meth c cX7_isWhole 4 RX7 E A) (hR : x_Rz p l e { frames := 1, cells := 0, slots := 0, locals := 21 } s m args below meth c cX7_isWhole E A Q (mw E ad r.2) r.1) (hrec7 : ∀ z : x_S × Int32 × Int32 × Int32, rec7 z = some r → ∀ (H : Heap) (locs : List Loc) (ls : Array Slot), x_I E A s.heap (mw E ad z.1) H locs → lv_has ls 4 [(0, .ref (ad 799)), (1, .int z.2.1), (2, .int z.2.2.1), (3, .int z.2.2.2)] → W p l e { frames := 1, cells := 0, slots := 0, locals := 21 } s m args below meth c H locs 0 0 Q (F0 m 7 ls [])) (hI : x_I E A s.heap (mw E ad S) H locs) (hl : lv_has ls 4 [(0, .ref (ad 799)), (1, .int a1), (3, .int a3)]) (hf : f_X7_isWhole_54 n rec7 S a1 a3 t0 = some r) : W p l e { frames := 1, cells := 0, slots := 0, locals := 21 } s m args below meth c H locs 0 0 Q (F0 m 54 ls [.int t0]) := by
  obtain ⟨hx, hb, hml, hown, hts, hK, hN, hA⟩ := id hC
  unfold f_X7_isWhole_54 at hf
  refine lv_istore_n (lv' := [(2, .int t0), (0, .ref (ad 799)), (1, .int a1), (3, .int a3)]) hx hb dX7_isWhole_54 rfl hl (by decide) rfl (fun ls hl => ?_)
  refine lv_iinc (v := (a3 + (1 : Int32))) (lv' := [(3, .int (a3 + (1 : Int32))), (2, .int t0), (0, .ref (ad 799)), (1, .int a1)]) hx hb dX7_isWhole_55 hl (k := 3) rfl rfl (by decide) rfl (fun ls hl => ?_)
  refine lv_goto (tgt := 7) hx hb dX7_isWhole_58 (by decide) ?_
  exact hrec7 _ hf _ _ _ hI (lv_sub hl [2, 3, 1, 0] rfl)
def f_X7_isWhole_53 (n : Nat) (rec7 : x_S × Int32 × Int32 × Int32 → Option (Int32 × x_S)) (S : x_S) (a1 : Int32) (a3 : Int32) : Option (Int32 × x_S) :=
f_X7_isWhole_54 n rec7 S a1 a3 (0 : Int32)
set_option maxHeartbeats 4000000 in
set_option maxRecDepth 100000 in
theorem w_X7_isWhole_53 {r : Int32 × x_S} {a1 : Int32} {a3 : Int32} {rec7 : x_S × Int32 × Int32 × Int32 → Option (Int32 × x_S)} (hC : x_C p s m args meth c cX7_isWhole 4 RX7 E A) (hR : x_Rz p l e { frames := 1, cells := 0, slots := 0, locals := 21 } s m args below meth c cX7_isWhole E A Q (mw E ad r.2) r.1) (hrec7 : ∀ z : x_S × Int32 × Int32 × Int32, rec7 z = some r → ∀ (H : Heap) (locs : List Loc) (ls : Array Slot), x_I E A s.heap (mw E ad z.1) H locs → lv_has ls 4 [(0, .ref (ad 799)), (1, .int z.2.1), (2, .int z.2.2.1), (3, .int z.2.2.2)] → W p l e { frames := 1, cells := 0, slots := 0, locals := 21 } s m args below meth c H locs 0 0 Q (F0 m 7 ls [])) (hI : x_I E A s.heap (mw E ad S) H locs) (hl : lv_has ls 4 [(0, .ref (ad 799)), (1, .int a1), (3, .int a3)]) (hf : f_X7_isWhole_53 n rec7 S a1 a3 = some r) : W p l e { frames := 1, cells := 0, slots := 0, locals := 21 } s m args below meth c H locs 0 0 Q (F0 m 53 ls []) := by
  obtain ⟨hx, hb, hml, hown, hts, hK, hN, hA⟩ := id hC
  unfold f_X7_isWhole_53 at hf
  refine lv_iconst (v := (0 : Int32)) hx hb dX7_isWhole_53 (by decide) ?_
  exact w_X7_isWhole_54 hC hR hrec7 hI (lv_sub hl [0, 1, 2] rfl) hf
def f_X7_isWhole_49 (n : Nat) (rec7 : x_S × Int32 × Int32 × Int32 → Option (Int32 × x_S)) (S : x_S) (a1 : Int32) (a3 : Int32) : Option (Int32 × x_S) :=
f_X7_isWhole_54 n rec7 S a1 a3 (1 : Int32)
set_option maxHeartbeats 4000000 in
set_option maxRecDepth 100000 in
theorem w_X7_isWhole_49 {r : Int32 × x_S} {a1 : Int32} {a3 : Int32} {rec7 : x_S × Int32 × Int32 × Int32 → Option (Int32 × x_S)} (hC : x_C p s m args meth c cX7_isWhole 4 RX7 E A) (hR : x_Rz p l e { frames := 1, cells := 0, slots := 0, locals := 21 } s m args below meth c cX7_isWhole E A Q (mw E ad r.2) r.1) (hrec7 : ∀ z : x_S × Int32 × Int32 × Int32, rec7 z = some r → ∀ (H : Heap) (locs : List Loc) (ls : Array Slot), x_I E A s.heap (mw E ad z.1) H locs → lv_has ls 4 [(0, .ref (ad 799)), (1, .int z.2.1), (2, .int z.2.2.1), (3, .int z.2.2.2)] → W p l e { frames := 1, cells := 0, slots := 0, locals := 21 } s m args below meth c H locs 0 0 Q (F0 m 7 ls [])) (hI : x_I E A s.heap (mw E ad S) H locs) (hl : lv_has ls 4 [(0, .ref (ad 799)), (1, .int a1), (3, .int a3)]) (hf : f_X7_isWhole_49 n rec7 S a1 a3 = some r) : W p l e { frames := 1, cells := 0, slots := 0, locals := 21 } s m args below meth c H locs 0 0 Q (F0 m 49 ls []) := by
  obtain ⟨hx, hb, hml, hown, hts, hK, hN, hA⟩ := id hC
  unfold f_X7_isWhole_49 at hf
  refine lv_iconst (v := (1 : Int32)) hx hb dX7_isWhole_49 (by decide) ?_
  refine lv_goto (tgt := 54) hx hb dX7_isWhole_50 (by decide) ?_
  exact w_X7_isWhole_54 hC hR hrec7 hI (lv_sub hl [0, 1, 2] rfl) hf
def f_X7_isWhole_7 (n : Nat) (rec7 : x_S × Int32 × Int32 × Int32 → Option (Int32 × x_S)) (S : x_S) (a1 : Int32) (a2 : Int32) (a3 : Int32) : Option (Int32 × x_S) :=
x_g (¬ (a1 < 0 ∨ 12 ≤ (a1).toNatClampNeg)) (x_let (g_ar S 701 (a1).toNatClampNeg) (fun v1 =>
if (((60 : Int32) * a1) + v1) ≤ a3 then
x_g (a2 = 0 ∨ a2 = 1) (some (a2, S))
else
if a2 = 0 then
f_X7_isWhole_53 n rec7 S a1 a3
else
x_b2 (f_X7_leads n S a3) (fun v3 S =>
if v3 = 0 then
f_X7_isWhole_49 n rec7 S a1 a3
else
x_g (¬ (a3 < 0 ∨ 720 ≤ (a3).toNatClampNeg)) (x_let (g_ar S 705 (a3).toNatClampNeg) (fun v4 =>
x_g (¬ (a1 < 0 ∨ 12 ≤ (a1).toNatClampNeg)) (x_let (g_ar S 701 (a1).toNatClampNeg) (fun v5 =>
if v5 < v4 then
f_X7_isWhole_53 n rec7 S a1 a3
else
f_X7_isWhole_49 n rec7 S a1 a3)))))))
set_option maxHeartbeats 4000000 in
set_option maxRecDepth 100000 in
theorem w_X7_isWhole_7 {r : Int32 × x_S} {a1 : Int32} {a2 : Int32} {a3 : Int32} {rec7 : x_S × Int32 × Int32 × Int32 → Option (Int32 × x_S)} (hC : x_C p s m args meth c cX7_isWhole 4 RX7 E A) (hR : x_Rz p l e { frames := 1, cells := 0, slots := 0, locals := 21 } s m args below meth c cX7_isWhole E A Q (mw E ad r.2) r.1) (hrec7 : ∀ z : x_S × Int32 × Int32 × Int32, rec7 z = some r → ∀ (H : Heap) (locs : List Loc) (ls : Array Slot), x_I E A s.heap (mw E ad z.1) H locs → lv_has ls 4 [(0, .ref (ad 799)), (1, .int z.2.1), (2, .int z.2.2.1), (3, .int z.2.2.2)] → W p l e { frames := 1, cells := 0, slots := 0, locals := 21 } s m args below meth c H locs 0 0 Q (F0 m 7 ls [])) (hI : x_I E A s.heap (mw E ad S) H locs) (hl : lv_has ls 4 [(0, .ref (ad 799)), (1, .int a1), (2, .int a2), (3, .int a3)]) (hf : f_X7_isWhole_7 n rec7 S a1 a2 a3 = some r) : W p l e { frames := 1, cells := 0, slots := 0, locals := 21 } s m args below meth c H locs 0 0 Q (F0 m 7 ls []) := by
  obtain ⟨hx, hb, hml, hown, hts, hK, hN, hA⟩ := id hC
  unfold f_X7_isWhole_7 at hf
  refine lv_iload_n hx hb dX7_isWhole_7 rfl (lv_at hl 3 rfl) ?_
  refine lv_bipush (v := (60 : Int32)) hx hb dX7_isWhole_8 (by decide) ?_
  refine lv_iload_n hx hb dX7_isWhole_10 rfl (lv_at hl 1 rfl) ?_
  refine lv_imul hx hb dX7_isWhole_11 ?_
  refine lv_aload_n hx hb dX7_isWhole_12 rfl (lv_at hl 0 rfl) ?_
  refine gX7_1 hC hI lkf_X7_7 dX7_isWhole_13 ?_
  refine lv_iload_n hx hb dX7_isWhole_16 rfl (lv_at hl 1 rfl) ?_
  refine aX7_1 hC hI hf dX7_isWhole_17 (fun v1 hf => ?_)
  refine lv_iadd hx hb dX7_isWhole_18 ?_
  refine x_ige hC 61 hf dX7_isWhole_19 (by decide) (fun hf => ?_) (fun hf => ?_)
  · refine lv_iload_n hx hb dX7_isWhole_61 rfl (lv_at hl 2 rfl) ?_
    obtain ⟨h9, hf⟩ := x_g_eq hf
    obtain rfl := Option.some.inj hf
    exact hR _ _ _ _ h9 hI dX7_isWhole_62
  · refine lv_iload_n hx hb dX7_isWhole_22 rfl (lv_at hl 2 rfl) ?_
    refine x_eq0 hC 53 hf dX7_isWhole_23 (by decide) (fun hf => ?_) (fun hf => ?_)
    · exact w_X7_isWhole_53 hC hR hrec7 hI (lv_sub hl [0, 1, 3] rfl) hf
    · refine lv_aload_n hx hb dX7_isWhole_26 rfl (lv_at hl 0 rfl) ?_
      refine lv_iload_n hx hb dX7_isWhole_27 rfl (lv_at hl 3 rfl) ?_
      obtain ⟨v3, S, hc2, hf⟩ := x_b2_eq hf
      refine x_callV hC hI (c_X7_leads hc2) 0 7 rfl rfl kv_X7_154 rfl ⟨Nat.le_of_ble_eq_true rfl, Nat.le_of_ble_eq_true rfl⟩ ⟨Nat.le_refl _, Nat.le_refl _⟩ hl.1 rfl (Nat.le_of_ble_eq_true rfl) dX7_isWhole_28 (fun H locs hI => ?_)
      refine x_eq0 hC 49 hf dX7_isWhole_31 (by decide) (fun hf => ?_) (fun hf => ?_)
      · exact w_X7_isWhole_49 hC hR hrec7 hI (lv_sub hl [0, 1, 3] rfl) hf
      · refine lv_aload_n hx hb dX7_isWhole_34 rfl (lv_at hl 0 rfl) ?_
        refine gX7_5 hC hI lkf_X7_22 dX7_isWhole_35 ?_
        refine lv_iload_n hx hb dX7_isWhole_38 rfl (lv_at hl 3 rfl) ?_
        refine aX7_5 hC hI hf dX7_isWhole_39 (fun v4 hf => ?_)
        refine lv_aload_n hx hb dX7_isWhole_40 rfl (lv_at hl 0 rfl) ?_
        refine gX7_1 hC hI lkf_X7_7 dX7_isWhole_41 ?_
        refine lv_iload_n hx hb dX7_isWhole_44 rfl (lv_at hl 1 rfl) ?_
        refine aX7_1 hC hI hf dX7_isWhole_45 (fun v5 hf => ?_)
        refine x_igt hC 53 hf dX7_isWhole_46 (by decide) (fun hf => ?_) (fun hf => ?_)
        · exact w_X7_isWhole_53 hC hR hrec7 hI (lv_sub hl [0, 1, 3] rfl) hf
        · exact w_X7_isWhole_49 hC hR hrec7 hI (lv_sub hl [0, 1, 3] rfl) hf
theorem w_X7_isWhole_7_loop {r : Int32 × x_S} (hC : x_C p s m args meth c cX7_isWhole 4 RX7 E A) (hR : x_Rz p l e { frames := 1, cells := 0, slots := 0, locals := 21 } s m args below meth c cX7_isWhole E A Q (mw E ad r.2) r.1) : ∀ (k : Nat) (z : x_S × Int32 × Int32 × Int32), x_loop (fun rec z => f_X7_isWhole_7 n rec z.1 z.2.1 z.2.2.1 z.2.2.2) k z = some r → ∀ (H : Heap) (locs : List Loc) (ls : Array Slot), x_I E A s.heap (mw E ad z.1) H locs → lv_has ls 4 [(0, .ref (ad 799)), (1, .int z.2.1), (2, .int z.2.2.1), (3, .int z.2.2.2)] → W p l e { frames := 1, cells := 0, slots := 0, locals := 21 } s m args below meth c H locs 0 0 Q (F0 m 7 ls []) :=
  x_loop_ind (P := fun (z : x_S × Int32 × Int32 × Int32) => ∀ (H : Heap) (locs : List Loc) (ls : Array Slot), x_I E A s.heap (mw E ad z.1) H locs → lv_has ls 4 [(0, .ref (ad 799)), (1, .int z.2.1), (2, .int z.2.2.1), (3, .int z.2.2.2)] → W p l e { frames := 1, cells := 0, slots := 0, locals := 21 } s m args below meth c H locs 0 0 Q (F0 m 7 ls [])) (fun rec hrec z hf H locs ls hI hl => w_X7_isWhole_7 hC hR hrec hI hl hf)
def f_X7_isWhole (n : Nat) (S : x_S) (a1 : Int32) : Option (Int32 × x_S) :=
x_loop (fun rec z => f_X7_isWhole_7 n rec z.1 z.2.1 z.2.2.1 z.2.2.2) n (S, a1, (1 : Int32), ((60 : Int32) * a1))
set_option maxHeartbeats 4000000 in
set_option maxRecDepth 100000 in
theorem w_X7_isWhole {r : Int32 × x_S} {a1 : Int32} (hC : x_C p s m args meth c cX7_isWhole 4 RX7 E A) (hR : x_Rz p l e { frames := 1, cells := 0, slots := 0, locals := 21 } s m args below meth c cX7_isWhole E A Q (mw E ad r.2) r.1) (hI : x_I E A s.heap (mw E ad S) H locs) (hl : lv_has ls 4 [(0, .ref (ad 799)), (1, .int a1)]) (hf : f_X7_isWhole n S a1 = some r) : W p l e { frames := 1, cells := 0, slots := 0, locals := 21 } s m args below meth c H locs 0 0 Q (F0 m 0 ls []) := by
  obtain ⟨hx, hb, hml, hown, hts, hK, hN, hA⟩ := id hC
  unfold f_X7_isWhole at hf
  refine lv_iconst (v := (1 : Int32)) hx hb dX7_isWhole_0 (by decide) ?_
  refine lv_istore_n (lv' := [(2, .int (1 : Int32)), (0, .ref (ad 799)), (1, .int a1)]) hx hb dX7_isWhole_1 rfl hl (by decide) rfl (fun ls hl => ?_)
  refine lv_bipush (v := (60 : Int32)) hx hb dX7_isWhole_2 (by decide) ?_
  refine lv_iload_n hx hb dX7_isWhole_4 rfl (lv_at hl 2 rfl) ?_
  refine lv_imul hx hb dX7_isWhole_5 ?_
  refine lv_istore_n (lv' := [(3, .int ((60 : Int32) * a1)), (2, .int (1 : Int32)), (0, .ref (ad 799)), (1, .int a1)]) hx hb dX7_isWhole_6 rfl hl (by decide) rfl (fun ls hl => ?_)
  exact w_X7_isWhole_7_loop hC hR _ _ hf _ _ _ hI (lv_sub hl [2, 3, 1, 0] rfl)
theorem c_X7_isWhole {a1 : Int32} {v : Int32} {S1 : x_S} (hf : f_X7_isWhole n S a1 = some (v, S1)) : x_M l yX7_isWhole cX7_isWhole 4 (some .boolean) 1 21 E [.ref (ad 799), .int a1] (mw E ad S) (mw E ad S1) (some (.int v)) :=
  x_entZ (by decide) (Nat.le_of_ble_eq_true rfl) (fun p e s m args below meth c A Q ls hC hI hR hl => w_X7_isWhole (r := (v, S1)) hC hR hI hl hf)
-- X7_range
def f_X7_range (n : Nat) (S : x_S) (a1 : Int32) (a2 : Int32) (a3 : Int32) (a4 : Int32) (a5 : Int32) (a6 : Int32) : Option (x_S) :=
x_let (g_sc S 724) (fun v1 =>
x_g (¬ (v1 < 0 ∨ 200 ≤ (v1).toNatClampNeg)) (x_let (s_ar S 725 (v1).toNatClampNeg a1) (fun S =>
x_let (g_sc S 724) (fun v2 =>
x_g (¬ (v2 < 0 ∨ 200 ≤ (v2).toNatClampNeg)) (x_let (s_ar S 726 (v2).toNatClampNeg a2) (fun S =>
x_let (g_sc S 724) (fun v3 =>
x_g (¬ (v3 < 0 ∨ 200 ≤ (v3).toNatClampNeg)) (x_let (s_ar S 727 (v3).toNatClampNeg a3) (fun S =>
x_let (g_sc S 724) (fun v4 =>
x_g (¬ (v4 < 0 ∨ 200 ≤ (v4).toNatClampNeg)) (x_let (s_ar S 728 (v4).toNatClampNeg a4) (fun S =>
x_let (g_sc S 724) (fun v5 =>
x_g (¬ (v5 < 0 ∨ 200 ≤ (v5).toNatClampNeg)) (x_let (s_ar S 729 (v5).toNatClampNeg a5) (fun S =>
x_let (g_sc S 724) (fun v6 =>
x_g (¬ (v6 < 0 ∨ 200 ≤ (v6).toNatClampNeg)) (x_let (s_ar S 730 (v6).toNatClampNeg a6) (fun S =>
x_let (g_sc S 724) (fun v7 =>
x_let (s_sc S 724 (v7 + (1 : Int32))) (fun S =>
some S))))))))))))))))))))
set_option maxHeartbeats 4000000 in
set_option maxRecDepth 100000 in
theorem w_X7_range {r : x_S} {a1 : Int32} {a2 : Int32} {a3 : Int32} {a4 : Int32} {a5 : Int32} {a6 : Int32} (hC : x_C p s m args meth c cX7_range 7 RX7 E A) (hR : x_Rv p l e { frames := 0, cells := 0, slots := 0, locals := 0 } s m args below meth c cX7_range E A Q (mw E ad r)) (hI : x_I E A s.heap (mw E ad S) H locs) (hl : lv_has ls 7 [(0, .ref (ad 799)), (1, .int a1), (2, .int a2), (3, .int a3), (4, .int a4), (5, .int a5), (6, .int a6)]) (hf : f_X7_range n S a1 a2 a3 a4 a5 a6 = some r) : W p l e { frames := 0, cells := 0, slots := 0, locals := 0 } s m args below meth c H locs 0 0 Q (F0 m 0 ls []) := by
  obtain ⟨hx, hb, hml, hown, hts, hK, hN, hA⟩ := id hC
  unfold f_X7_range at hf
  refine lv_aload_n hx hb dX7_range_0 rfl (lv_at hl 0 rfl) ?_
  refine gX7_25 hC hI lkf_X7_65 dX7_range_1 ?_
  refine lv_aload_n hx hb dX7_range_4 rfl (lv_at hl 0 rfl) ?_
  refine gX7_24 hC hI hf lkf_X7_157 dX7_range_5 (fun v1 hf => ?_)
  refine lv_iload_n hx hb dX7_range_8 rfl (lv_at hl 1 rfl) ?_
  refine tX7_25 hC hI hf dX7_range_9 (fun S H locs hI hf => ?_)
  refine lv_aload_n hx hb dX7_range_10 rfl (lv_at hl 0 rfl) ?_
  refine gX7_26 hC hI lkf_X7_68 dX7_range_11 ?_
  refine lv_aload_n hx hb dX7_range_14 rfl (lv_at hl 0 rfl) ?_
  refine gX7_24 hC hI hf lkf_X7_157 dX7_range_15 (fun v2 hf => ?_)
  refine lv_iload_n hx hb dX7_range_18 rfl (lv_at hl 2 rfl) ?_
  refine tX7_26 hC hI hf dX7_range_19 (fun S H locs hI hf => ?_)
  refine lv_aload_n hx hb dX7_range_20 rfl (lv_at hl 0 rfl) ?_
  refine gX7_27 hC hI lkf_X7_71 dX7_range_21 ?_
  refine lv_aload_n hx hb dX7_range_24 rfl (lv_at hl 0 rfl) ?_
  refine gX7_24 hC hI hf lkf_X7_157 dX7_range_25 (fun v3 hf => ?_)
  refine lv_iload_n hx hb dX7_range_28 rfl (lv_at hl 3 rfl) ?_
  refine tX7_27 hC hI hf dX7_range_29 (fun S H locs hI hf => ?_)
  refine lv_aload_n hx hb dX7_range_30 rfl (lv_at hl 0 rfl) ?_
  refine gX7_28 hC hI lkf_X7_74 dX7_range_31 ?_
  refine lv_aload_n hx hb dX7_range_34 rfl (lv_at hl 0 rfl) ?_
  refine gX7_24 hC hI hf lkf_X7_157 dX7_range_35 (fun v4 hf => ?_)
  refine lv_iload hx hb dX7_range_38 (lv_at hl 4 rfl) ?_
  refine tX7_28 hC hI hf dX7_range_40 (fun S H locs hI hf => ?_)
  refine lv_aload_n hx hb dX7_range_41 rfl (lv_at hl 0 rfl) ?_
  refine gX7_29 hC hI lkf_X7_77 dX7_range_42 ?_
  refine lv_aload_n hx hb dX7_range_45 rfl (lv_at hl 0 rfl) ?_
  refine gX7_24 hC hI hf lkf_X7_157 dX7_range_46 (fun v5 hf => ?_)
  refine lv_iload hx hb dX7_range_49 (lv_at hl 5 rfl) ?_
  refine tX7_29 hC hI hf dX7_range_51 (fun S H locs hI hf => ?_)
  refine lv_aload_n hx hb dX7_range_52 rfl (lv_at hl 0 rfl) ?_
  refine gX7_30 hC hI lkf_X7_80 dX7_range_53 ?_
  refine lv_aload_n hx hb dX7_range_56 rfl (lv_at hl 0 rfl) ?_
  refine gX7_24 hC hI hf lkf_X7_157 dX7_range_57 (fun v6 hf => ?_)
  refine lv_iload hx hb dX7_range_60 (lv_at hl 6 rfl) ?_
  refine tX7_30 hC hI hf dX7_range_62 (fun S H locs hI hf => ?_)
  refine lv_aload_n hx hb dX7_range_63 rfl (lv_at hl 0 rfl) ?_
  refine lv_dup hx hb dX7_range_64 rfl ?_
  refine gX7_24 hC hI hf lkf_X7_157 dX7_range_65 (fun v7 hf => ?_)
  refine lv_iconst (v := (1 : Int32)) hx hb dX7_range_68 (by decide) ?_
  refine lv_iadd hx hb dX7_range_69 ?_
  refine pX7_24 hC hI hf lkf_X7_157 dX7_range_70 (fun S H locs hI hf => ?_)
  obtain rfl := Option.some.inj hf
  exact hR _ _ _ _ hI dX7_range_73
theorem c_X7_range {a1 : Int32} {a2 : Int32} {a3 : Int32} {a4 : Int32} {a5 : Int32} {a6 : Int32} {S1 : x_S} (hf : f_X7_range n S a1 a2 a3 a4 a5 a6 = some S1) : x_M l yX7_range cX7_range 7 none 0 0 E [.ref (ad 799), .int a1, .int a2, .int a3, .int a4, .int a5, .int a6] (mw E ad S) (mw E ad S1) none :=
  x_entV (by decide) (Nat.le_of_ble_eq_true rfl) (fun p e s m args below meth c A Q ls hC hI hR hl => w_X7_range (r := S1) hC hR hI hl hf)
-- X7_state
def f_X7_state (n : Nat) (S : x_S) (a1 : Int32) (a2 : Int32) (a3 : Int32) (a4 : Int32) (a5 : Int32) (a6 : Int32) : Option (Int32 × x_S) :=
x_let (g_sc S 715) (fun v1 =>
x_g (¬ (v1 < 0 ∨ 200 ≤ (v1).toNatClampNeg)) (x_let (s_ar S 716 (v1).toNatClampNeg a1) (fun S =>
x_g (¬ (v1 < 0 ∨ 200 ≤ (v1).toNatClampNeg)) (x_let (s_ar S 717 (v1).toNatClampNeg a2) (fun S =>
x_g (¬ (v1 < 0 ∨ 200 ≤ (v1).toNatClampNeg)) (x_let (s_ar S 718 (v1).toNatClampNeg a3) (fun S =>
x_let (g_sc S 724) (fun v2 =>
x_g (¬ ((v2 - (1 : Int32)) < 0 ∨ 200 ≤ ((v2 - (1 : Int32))).toNatClampNeg)) (x_let (g_ar S 729 ((v2 - (1 : Int32))).toNatClampNeg) (fun v3 =>
x_g (¬ (v1 < 0 ∨ 200 ≤ (v1).toNatClampNeg)) (x_let (s_ar S 719 (v1).toNatClampNeg v3) (fun S =>
x_let (g_sc S 724) (fun v4 =>
x_g (¬ ((v4 - (1 : Int32)) < 0 ∨ 200 ≤ ((v4 - (1 : Int32))).toNatClampNeg)) (x_let (g_ar S 730 ((v4 - (1 : Int32))).toNatClampNeg) (fun v5 =>
x_g (¬ (v1 < 0 ∨ 200 ≤ (v1).toNatClampNeg)) (x_let (s_ar S 720 (v1).toNatClampNeg v5) (fun S =>
x_g (¬ (v1 < 0 ∨ 200 ≤ (v1).toNatClampNeg)) (x_let (s_ar S 721 (v1).toNatClampNeg a4) (fun S =>
x_g (¬ (v1 < 0 ∨ 200 ≤ (v1).toNatClampNeg)) (x_let (s_ar S 722 (v1).toNatClampNeg a5) (fun S =>
x_g (¬ (v1 < 0 ∨ 200 ≤ (v1).toNatClampNeg)) (x_let (s_ar S 723 (v1).toNatClampNeg a6) (fun S =>
x_let (g_sc S 715) (fun v6 =>
x_let (s_sc S 715 (v6 + (1 : Int32))) (fun S =>
some (v1, S))))))))))))))))))))))))))
set_option maxHeartbeats 4000000 in
set_option maxRecDepth 100000 in
theorem w_X7_state {r : Int32 × x_S} {a1 : Int32} {a2 : Int32} {a3 : Int32} {a4 : Int32} {a5 : Int32} {a6 : Int32} (hC : x_C p s m args meth c cX7_state 8 RX7 E A) (hR : x_Ri p l e { frames := 0, cells := 0, slots := 0, locals := 0 } s m args below meth c cX7_state E A Q (mw E ad r.2) r.1) (hI : x_I E A s.heap (mw E ad S) H locs) (hl : lv_has ls 8 [(0, .ref (ad 799)), (1, .int a1), (2, .int a2), (3, .int a3), (4, .int a4), (5, .int a5), (6, .int a6)]) (hf : f_X7_state n S a1 a2 a3 a4 a5 a6 = some r) : W p l e { frames := 0, cells := 0, slots := 0, locals := 0 } s m args below meth c H locs 0 0 Q (F0 m 0 ls []) := by
  obtain ⟨hx, hb, hml, hown, hts, hK, hN, hA⟩ := id hC
  unfold f_X7_state at hf
  refine lv_aload_n hx hb dX7_state_0 rfl (lv_at hl 0 rfl) ?_
  refine gX7_15 hC hI hf lkf_X7_160 dX7_state_1 (fun v1 hf => ?_)
  refine lv_istore (lv' := [(7, .int v1), (0, .ref (ad 799)), (1, .int a1), (2, .int a2), (3, .int a3), (4, .int a4), (5, .int a5), (6, .int a6)]) hx hb dX7_state_4 hl (by decide) rfl (fun ls hl => ?_)
  refine lv_aload_n hx hb dX7_state_6 rfl (lv_at hl 1 rfl) ?_
  refine gX7_16 hC hI lkf_X7_41 dX7_state_7 ?_
  refine lv_iload hx hb dX7_state_10 (lv_at hl 0 rfl) ?_
  refine lv_iload_n hx hb dX7_state_12 rfl (lv_at hl 2 rfl) ?_
  refine tX7_16 hC hI hf dX7_state_13 (fun S H locs hI hf => ?_)
  refine lv_aload_n hx hb dX7_state_14 rfl (lv_at hl 1 rfl) ?_
  refine gX7_17 hC hI lkf_X7_44 dX7_state_15 ?_
  refine lv_iload hx hb dX7_state_18 (lv_at hl 0 rfl) ?_
  refine lv_iload_n hx hb dX7_state_20 rfl (lv_at hl 3 rfl) ?_
  refine tX7_17 hC hI hf dX7_state_21 (fun S H locs hI hf => ?_)
  refine lv_aload_n hx hb dX7_state_22 rfl (lv_at hl 1 rfl) ?_
  refine gX7_18 hC hI lkf_X7_47 dX7_state_23 ?_
  refine lv_iload hx hb dX7_state_26 (lv_at hl 0 rfl) ?_
  refine lv_iload_n hx hb dX7_state_28 rfl (lv_at hl 4 rfl) ?_
  refine tX7_18 hC hI hf dX7_state_29 (fun S H locs hI hf => ?_)
  refine lv_aload_n hx hb dX7_state_30 rfl (lv_at hl 1 rfl) ?_
  refine gX7_19 hC hI lkf_X7_50 dX7_state_31 ?_
  refine lv_iload hx hb dX7_state_34 (lv_at hl 0 rfl) ?_
  refine lv_aload_n hx hb dX7_state_36 rfl (lv_at hl 1 rfl) ?_
  refine gX7_29 hC hI lkf_X7_77 dX7_state_37 ?_
  refine lv_aload_n hx hb dX7_state_40 rfl (lv_at hl 1 rfl) ?_
  refine gX7_24 hC hI hf lkf_X7_157 dX7_state_41 (fun v2 hf => ?_)
  refine lv_iconst (v := (1 : Int32)) hx hb dX7_state_44 (by decide) ?_
  refine lv_isub hx hb dX7_state_45 ?_
  refine aX7_29 hC hI hf dX7_state_46 (fun v3 hf => ?_)
  refine tX7_19 hC hI hf dX7_state_47 (fun S H locs hI hf => ?_)
  refine lv_aload_n hx hb dX7_state_48 rfl (lv_at hl 1 rfl) ?_
  refine gX7_20 hC hI lkf_X7_53 dX7_state_49 ?_
  refine lv_iload hx hb dX7_state_52 (lv_at hl 0 rfl) ?_
  refine lv_aload_n hx hb dX7_state_54 rfl (lv_at hl 1 rfl) ?_
  refine gX7_30 hC hI lkf_X7_80 dX7_state_55 ?_
  refine lv_aload_n hx hb dX7_state_58 rfl (lv_at hl 1 rfl) ?_
  refine gX7_24 hC hI hf lkf_X7_157 dX7_state_59 (fun v4 hf => ?_)
  refine lv_iconst (v := (1 : Int32)) hx hb dX7_state_62 (by decide) ?_
  refine lv_isub hx hb dX7_state_63 ?_
  refine aX7_30 hC hI hf dX7_state_64 (fun v5 hf => ?_)
  refine tX7_20 hC hI hf dX7_state_65 (fun S H locs hI hf => ?_)
  refine lv_aload_n hx hb dX7_state_66 rfl (lv_at hl 1 rfl) ?_
  refine gX7_21 hC hI lkf_X7_56 dX7_state_67 ?_
  refine lv_iload hx hb dX7_state_70 (lv_at hl 0 rfl) ?_
  refine lv_iload hx hb dX7_state_72 (lv_at hl 5 rfl) ?_
  refine tX7_21 hC hI hf dX7_state_74 (fun S H locs hI hf => ?_)
  refine lv_aload_n hx hb dX7_state_75 rfl (lv_at hl 1 rfl) ?_
  refine gX7_22 hC hI lkf_X7_59 dX7_state_76 ?_
  refine lv_iload hx hb dX7_state_79 (lv_at hl 0 rfl) ?_
  refine lv_iload hx hb dX7_state_81 (lv_at hl 6 rfl) ?_
  refine tX7_22 hC hI hf dX7_state_83 (fun S H locs hI hf => ?_)
  refine lv_aload_n hx hb dX7_state_84 rfl (lv_at hl 1 rfl) ?_
  refine gX7_23 hC hI lkf_X7_62 dX7_state_85 ?_
  refine lv_iload hx hb dX7_state_88 (lv_at hl 0 rfl) ?_
  refine lv_iload hx hb dX7_state_90 (lv_at hl 7 rfl) ?_
  refine tX7_23 hC hI hf dX7_state_92 (fun S H locs hI hf => ?_)
  refine lv_aload_n hx hb dX7_state_93 rfl (lv_at hl 1 rfl) ?_
  refine lv_dup hx hb dX7_state_94 rfl ?_
  refine gX7_15 hC hI hf lkf_X7_160 dX7_state_95 (fun v6 hf => ?_)
  refine lv_iconst (v := (1 : Int32)) hx hb dX7_state_98 (by decide) ?_
  refine lv_iadd hx hb dX7_state_99 ?_
  refine pX7_15 hC hI hf lkf_X7_160 dX7_state_100 (fun S H locs hI hf => ?_)
  refine lv_iload hx hb dX7_state_103 (lv_at hl 0 rfl) ?_
  obtain rfl := Option.some.inj hf
  exact hR _ _ _ _ hI dX7_state_105
theorem c_X7_state {a1 : Int32} {a2 : Int32} {a3 : Int32} {a4 : Int32} {a5 : Int32} {a6 : Int32} {v : Int32} {S1 : x_S} (hf : f_X7_state n S a1 a2 a3 a4 a5 a6 = some (v, S1)) : x_M l yX7_state cX7_state 8 (some .int) 0 0 E [.ref (ad 799), .int a1, .int a2, .int a3, .int a4, .int a5, .int a6] (mw E ad S) (mw E ad S1) (some (.int v)) :=
  x_entI (by decide) (Nat.le_of_ble_eq_true rfl) (fun p e s m args below meth c A Q ls hC hI hR hl => w_X7_state (r := (v, S1)) hC hR hI hl hf)
-- X7_readIf
def f_X7_readIf_167 (n : Nat) (S : x_S) (a2 : Int32) (a3 : Int32) (a6 : Int32) (a7 : Int32) (a8 : Int32) (a9 : Int32) (a10 : Int32) (t0 : Int32) (t1 : Int32) : Option (x_S) :=
x_g (¬ (t1 < 0 ∨ 200 ≤ (t1).toNatClampNeg)) (x_let (s_ar S 725 (t1).toNatClampNeg t0) (fun S =>
if a9 = 0 then
x_b (f_X7_range n S (a2 + (1 : Int32)) a3 a6 a7 a10 (0 : Int32)) (fun S =>
some S)
else
x_b (f_X7_range n S a3 a8 a6 a7 a10 (1 : Int32)) (fun S =>
x_b (f_X7_range n S (a2 + (1 : Int32)) (a3 - (1 : Int32)) a6 a7 a10 (0 : Int32)) (fun S =>
some S))))
set_option maxHeartbeats 4000000 in
set_option maxRecDepth 100000 in
theorem w_X7_readIf_167 {r : x_S} {a2 : Int32} {a3 : Int32} {a6 : Int32} {a7 : Int32} {a8 : Int32} {a9 : Int32} {a10 : Int32} {t0 : Int32} {t1 : Int32} (hC : x_C p s m args meth c cX7_readIf 11 RX7 E A) (hR : x_Rv p l e { frames := 1, cells := 0, slots := 0, locals := 27 } s m args below meth c cX7_readIf E A Q (mw E ad r)) (hI : x_I E A s.heap (mw E ad S) H locs) (hl : lv_has ls 11 [(0, .ref (ad 799)), (2, .int a2), (3, .int a3), (6, .int a6), (7, .int a7), (8, .int a8), (9, .int a9), (10, .int a10)]) (hf : f_X7_readIf_167 n S a2 a3 a6 a7 a8 a9 a10 t0 t1 = some r) : W p l e { frames := 1, cells := 0, slots := 0, locals := 27 } s m args below meth c H locs 0 0 Q (F0 m 167 ls [.int t0, .int t1, .ref (ad 725)]) := by
  obtain ⟨hx, hb, hml, hown, hts, hK, hN, hA⟩ := id hC
  unfold f_X7_readIf_167 at hf
  refine tX7_25 hC hI hf dX7_readIf_167 (fun S H locs hI hf => ?_)
  refine lv_iload hx hb dX7_readIf_168 (lv_at hl 6 rfl) ?_
  refine x_eq0 hC 207 hf dX7_readIf_170 (by decide) (fun hf => ?_) (fun hf => ?_)
  · refine lv_aload_n hx hb dX7_readIf_207 rfl (lv_at hl 0 rfl) ?_
    refine lv_iload_n hx hb dX7_readIf_208 rfl (lv_at hl 1 rfl) ?_
    refine lv_iconst (v := (1 : Int32)) hx hb dX7_readIf_209 (by decide) ?_
    refine lv_iadd hx hb dX7_readIf_210 ?_
    refine lv_iload_n hx hb dX7_readIf_211 rfl (lv_at hl 2 rfl) ?_
    refine lv_iload hx hb dX7_readIf_212 (lv_at hl 3 rfl) ?_
    refine lv_iload hx hb dX7_readIf_214 (lv_at hl 4 rfl) ?_
    refine lv_iload hx hb dX7_readIf_216 (lv_at hl 7 rfl) ?_
    refine lv_iconst (v := (0 : Int32)) hx hb dX7_readIf_218 (by decide) ?_
    obtain ⟨S, hc8, hf⟩ := x_b_eq hf
    refine x_callV hC hI (c_X7_range hc8) 0 7 rfl rfl kv_X7_163 rfl ⟨Nat.le_of_ble_eq_true rfl, Nat.le_of_ble_eq_true rfl⟩ ⟨Nat.le_refl _, Nat.le_refl _⟩ hl.1 rfl (Nat.le_of_ble_eq_true rfl) dX7_readIf_219 (fun H locs hI => ?_)
    obtain rfl := Option.some.inj hf
    exact hR _ _ _ _ hI dX7_readIf_222
  · refine lv_aload_n hx hb dX7_readIf_173 rfl (lv_at hl 0 rfl) ?_
    refine lv_iload_n hx hb dX7_readIf_174 rfl (lv_at hl 2 rfl) ?_
    refine lv_iload hx hb dX7_readIf_175 (lv_at hl 5 rfl) ?_
    refine lv_iload hx hb dX7_readIf_177 (lv_at hl 3 rfl) ?_
    refine lv_iload hx hb dX7_readIf_179 (lv_at hl 4 rfl) ?_
    refine lv_iload hx hb dX7_readIf_181 (lv_at hl 7 rfl) ?_
    refine lv_iconst (v := (1 : Int32)) hx hb dX7_readIf_183 (by decide) ?_
    obtain ⟨S, hc9, hf⟩ := x_b_eq hf
    refine x_callV hC hI (c_X7_range hc9) 0 7 rfl rfl kv_X7_163 rfl ⟨Nat.le_of_ble_eq_true rfl, Nat.le_of_ble_eq_true rfl⟩ ⟨Nat.le_refl _, Nat.le_refl _⟩ hl.1 rfl (Nat.le_of_ble_eq_true rfl) dX7_readIf_184 (fun H locs hI => ?_)
    refine lv_aload_n hx hb dX7_readIf_187 rfl (lv_at hl 0 rfl) ?_
    refine lv_iload_n hx hb dX7_readIf_188 rfl (lv_at hl 1 rfl) ?_
    refine lv_iconst (v := (1 : Int32)) hx hb dX7_readIf_189 (by decide) ?_
    refine lv_iadd hx hb dX7_readIf_190 ?_
    refine lv_iload_n hx hb dX7_readIf_191 rfl (lv_at hl 2 rfl) ?_
    refine lv_iconst (v := (1 : Int32)) hx hb dX7_readIf_192 (by decide) ?_
    refine lv_isub hx hb dX7_readIf_193 ?_
    refine lv_iload hx hb dX7_readIf_194 (lv_at hl 3 rfl) ?_
    refine lv_iload hx hb dX7_readIf_196 (lv_at hl 4 rfl) ?_
    refine lv_iload hx hb dX7_readIf_198 (lv_at hl 7 rfl) ?_
    refine lv_iconst (v := (0 : Int32)) hx hb dX7_readIf_200 (by decide) ?_
    obtain ⟨S, hc10, hf⟩ := x_b_eq hf
    refine x_callV hC hI (c_X7_range hc10) 0 7 rfl rfl kv_X7_163 rfl ⟨Nat.le_of_ble_eq_true rfl, Nat.le_of_ble_eq_true rfl⟩ ⟨Nat.le_refl _, Nat.le_refl _⟩ hl.1 rfl (Nat.le_of_ble_eq_true rfl) dX7_readIf_201 (fun H locs hI => ?_)
    refine lv_goto (tgt := 222) hx hb dX7_readIf_204 (by decide) ?_
    obtain rfl := Option.some.inj hf
    exact hR _ _ _ _ hI dX7_readIf_222
def f_X7_readIf_130 (n : Nat) (S : x_S) (a2 : Int32) (a3 : Int32) (a4 : Int32) (a5 : Int32) (a6 : Int32) (a7 : Int32) (a8 : Int32) (a9 : Int32) (t0 : Int32) (t1 : Int32) (t2 : Int32) : Option (x_S) :=
x_g (¬ (a5 < 0 ∨ 720 ≤ (a5).toNatClampNeg)) (x_let (g_ar S 703 (a5).toNatClampNeg) (fun v4 =>
x_g (¬ (a5 < 0 ∨ 720 ≤ (a5).toNatClampNeg)) (x_let (g_ar S 704 (a5).toNatClampNeg) (fun v5 =>
x_b2 (f_X7_state n S t2 t1 t0 v4 v5 a3) (fun v7 S =>
if a9 = 0 then
f_X7_readIf_167 n S a2 a3 a6 a7 a8 a9 v7 a3 a4
else
f_X7_readIf_167 n S a2 a3 a6 a7 a8 a9 v7 a8 a4)))))
set_option maxHeartbeats 4000000 in
set_option maxRecDepth 100000 in
theorem w_X7_readIf_130 {r : x_S} {a2 : Int32} {a3 : Int32} {a4 : Int32} {a5 : Int32} {a6 : Int32} {a7 : Int32} {a8 : Int32} {a9 : Int32} {t0 : Int32} {t1 : Int32} {t2 : Int32} (hC : x_C p s m args meth c cX7_readIf 11 RX7 E A) (hR : x_Rv p l e { frames := 1, cells := 0, slots := 0, locals := 27 } s m args below meth c cX7_readIf E A Q (mw E ad r)) (hI : x_I E A s.heap (mw E ad S) H locs) (hl : lv_has ls 11 [(0, .ref (ad 799)), (2, .int a2), (3, .int a3), (4, .int a4), (5, .int a5), (6, .int a6), (7, .int a7), (8, .int a8), (9, .int a9)]) (hf : f_X7_readIf_130 n S a2 a3 a4 a5 a6 a7 a8 a9 t0 t1 t2 = some r) : W p l e { frames := 1, cells := 0, slots := 0, locals := 27 } s m args below meth c H locs 0 0 Q (F0 m 130 ls [.int t0, .int t1, .int t2, .ref (ad 799)]) := by
  obtain ⟨hx, hb, hml, hown, hts, hK, hN, hA⟩ := id hC
  unfold f_X7_readIf_130 at hf
  refine lv_aload_n hx hb dX7_readIf_130 rfl (lv_at hl 0 rfl) ?_
  refine gX7_3 hC hI lkf_X7_16 dX7_readIf_131 ?_
  refine lv_iload hx hb dX7_readIf_134 (lv_at hl 4 rfl) ?_
  refine aX7_3 hC hI hf dX7_readIf_136 (fun v4 hf => ?_)
  refine lv_aload_n hx hb dX7_readIf_137 rfl (lv_at hl 0 rfl) ?_
  refine gX7_4 hC hI lkf_X7_19 dX7_readIf_138 ?_
  refine lv_iload hx hb dX7_readIf_141 (lv_at hl 4 rfl) ?_
  refine aX7_4 hC hI hf dX7_readIf_143 (fun v5 hf => ?_)
  refine lv_iload_n hx hb dX7_readIf_144 rfl (lv_at hl 2 rfl) ?_
  obtain ⟨v7, S, hc6, hf⟩ := x_b2_eq hf
  refine x_callV hC hI (c_X7_state hc6) 0 7 rfl rfl kv_X7_177 rfl ⟨Nat.le_of_ble_eq_true rfl, Nat.le_of_ble_eq_true rfl⟩ ⟨Nat.le_refl _, Nat.le_refl _⟩ hl.1 rfl (Nat.le_of_ble_eq_true rfl) dX7_readIf_145 (fun H locs hI => ?_)
  refine lv_istore (lv' := [(10, .int v7), (0, .ref (ad 799)), (2, .int a2), (3, .int a3), (4, .int a4), (5, .int a5), (6, .int a6), (7, .int a7), (8, .int a8), (9, .int a9)]) hx hb dX7_readIf_148 hl (by decide) rfl (fun ls hl => ?_)
  refine lv_aload_n hx hb dX7_readIf_150 rfl (lv_at hl 1 rfl) ?_
  refine gX7_25 hC hI lkf_X7_65 dX7_readIf_151 ?_
  refine lv_iload hx hb dX7_readIf_154 (lv_at hl 4 rfl) ?_
  refine lv_iload hx hb dX7_readIf_156 (lv_at hl 9 rfl) ?_
  refine x_eq0 hC 166 hf dX7_readIf_158 (by decide) (fun hf => ?_) (fun hf => ?_)
  · refine lv_iload_n hx hb dX7_readIf_166 rfl (lv_at hl 3 rfl) ?_
    exact w_X7_readIf_167 hC hR hI (lv_sub hl [1, 2, 3, 6, 7, 8, 9, 0] rfl) hf
  · refine lv_iload hx hb dX7_readIf_161 (lv_at hl 8 rfl) ?_
    refine lv_goto (tgt := 167) hx hb dX7_readIf_163 (by decide) ?_
    exact w_X7_readIf_167 hC hR hI (lv_sub hl [1, 2, 3, 6, 7, 8, 9, 0] rfl) hf
def f_X7_readIf_118 (n : Nat) (S : x_S) (a2 : Int32) (a3 : Int32) (a4 : Int32) (a5 : Int32) (a6 : Int32) (a7 : Int32) (a8 : Int32) (a9 : Int32) (t0 : Int32) : Option (x_S) :=
if a9 = 0 then
f_X7_readIf_130 n S a2 a3 a4 a5 a6 a7 a8 a9 a3 a2 t0
else
f_X7_readIf_130 n S a2 a3 a4 a5 a6 a7 a8 a9 a8 a2 t0
set_option maxHeartbeats 4000000 in
set_option maxRecDepth 100000 in
theorem w_X7_readIf_118 {r : x_S} {a2 : Int32} {a3 : Int32} {a4 : Int32} {a5 : Int32} {a6 : Int32} {a7 : Int32} {a8 : Int32} {a9 : Int32} {t0 : Int32} (hC : x_C p s m args meth c cX7_readIf 11 RX7 E A) (hR : x_Rv p l e { frames := 1, cells := 0, slots := 0, locals := 27 } s m args below meth c cX7_readIf E A Q (mw E ad r)) (hI : x_I E A s.heap (mw E ad S) H locs) (hl : lv_has ls 11 [(0, .ref (ad 799)), (2, .int a2), (3, .int a3), (4, .int a4), (5, .int a5), (6, .int a6), (7, .int a7), (8, .int a8), (9, .int a9)]) (hf : f_X7_readIf_118 n S a2 a3 a4 a5 a6 a7 a8 a9 t0 = some r) : W p l e { frames := 1, cells := 0, slots := 0, locals := 27 } s m args below meth c H locs 0 0 Q (F0 m 118 ls [.int t0, .ref (ad 799)]) := by
  obtain ⟨hx, hb, hml, hown, hts, hK, hN, hA⟩ := id hC
  unfold f_X7_readIf_118 at hf
  refine lv_iload_n hx hb dX7_readIf_118 rfl (lv_at hl 1 rfl) ?_
  refine lv_iload hx hb dX7_readIf_119 (lv_at hl 8 rfl) ?_
  refine x_eq0 hC 129 hf dX7_readIf_121 (by decide) (fun hf => ?_) (fun hf => ?_)
  · refine lv_iload_n hx hb dX7_readIf_129 rfl (lv_at hl 2 rfl) ?_
    exact w_X7_readIf_130 hC hR hI (lv_sub hl [0, 1, 2, 3, 4, 5, 6, 7, 8] rfl) hf
  · refine lv_iload hx hb dX7_readIf_124 (lv_at hl 7 rfl) ?_
    refine lv_goto (tgt := 130) hx hb dX7_readIf_126 (by decide) ?_
    exact w_X7_readIf_130 hC hR hI (lv_sub hl [0, 1, 2, 3, 4, 5, 6, 7, 8] rfl) hf
def f_X7_readIf_105 (n : Nat) (S : x_S) (a2 : Int32) (a3 : Int32) (a4 : Int32) (a5 : Int32) (a6 : Int32) (a7 : Int32) (a8 : Int32) (t0 : Int32) : Option (x_S) :=
if t0 = 0 then
f_X7_readIf_118 n S a2 a3 a4 a5 a6 a7 a8 t0 (1 : Int32)
else
f_X7_readIf_118 n S a2 a3 a4 a5 a6 a7 a8 t0 (2 : Int32)
set_option maxHeartbeats 4000000 in
set_option maxRecDepth 100000 in
theorem w_X7_readIf_105 {r : x_S} {a2 : Int32} {a3 : Int32} {a4 : Int32} {a5 : Int32} {a6 : Int32} {a7 : Int32} {a8 : Int32} {t0 : Int32} (hC : x_C p s m args meth c cX7_readIf 11 RX7 E A) (hR : x_Rv p l e { frames := 1, cells := 0, slots := 0, locals := 27 } s m args below meth c cX7_readIf E A Q (mw E ad r)) (hI : x_I E A s.heap (mw E ad S) H locs) (hl : lv_has ls 11 [(0, .ref (ad 799)), (2, .int a2), (3, .int a3), (4, .int a4), (5, .int a5), (6, .int a6), (7, .int a7), (8, .int a8)]) (hf : f_X7_readIf_105 n S a2 a3 a4 a5 a6 a7 a8 t0 = some r) : W p l e { frames := 1, cells := 0, slots := 0, locals := 27 } s m args below meth c H locs 0 0 Q (F0 m 105 ls [.int t0]) := by
  obtain ⟨hx, hb, hml, hown, hts, hK, hN, hA⟩ := id hC
  unfold f_X7_readIf_105 at hf
  refine lv_istore (lv' := [(9, .int t0), (0, .ref (ad 799)), (2, .int a2), (3, .int a3), (4, .int a4), (5, .int a5), (6, .int a6), (7, .int a7), (8, .int a8)]) hx hb dX7_readIf_105 hl (by decide) rfl (fun ls hl => ?_)
  refine lv_aload_n hx hb dX7_readIf_107 rfl (lv_at hl 1 rfl) ?_
  refine lv_iload hx hb dX7_readIf_108 (lv_at hl 0 rfl) ?_
  refine x_eq0 hC 117 hf dX7_readIf_110 (by decide) (fun hf => ?_) (fun hf => ?_)
  · refine lv_iconst (v := (1 : Int32)) hx hb dX7_readIf_117 (by decide) ?_
    exact w_X7_readIf_118 hC hR hI (lv_sub hl [1, 2, 3, 4, 5, 6, 7, 8, 0] rfl) hf
  · refine lv_iconst (v := (2 : Int32)) hx hb dX7_readIf_113 (by decide) ?_
    refine lv_goto (tgt := 118) hx hb dX7_readIf_114 (by decide) ?_
    exact w_X7_readIf_118 hC hR hI (lv_sub hl [1, 2, 3, 4, 5, 6, 7, 8, 0] rfl) hf
def f_X7_readIf_104 (n : Nat) (S : x_S) (a2 : Int32) (a3 : Int32) (a4 : Int32) (a5 : Int32) (a6 : Int32) (a7 : Int32) (a8 : Int32) : Option (x_S) :=
f_X7_readIf_105 n S a2 a3 a4 a5 a6 a7 a8 (0 : Int32)
set_option maxHeartbeats 4000000 in
set_option maxRecDepth 100000 in
theorem w_X7_readIf_104 {r : x_S} {a2 : Int32} {a3 : Int32} {a4 : Int32} {a5 : Int32} {a6 : Int32} {a7 : Int32} {a8 : Int32} (hC : x_C p s m args meth c cX7_readIf 11 RX7 E A) (hR : x_Rv p l e { frames := 1, cells := 0, slots := 0, locals := 27 } s m args below meth c cX7_readIf E A Q (mw E ad r)) (hI : x_I E A s.heap (mw E ad S) H locs) (hl : lv_has ls 11 [(0, .ref (ad 799)), (2, .int a2), (3, .int a3), (4, .int a4), (5, .int a5), (6, .int a6), (7, .int a7), (8, .int a8)]) (hf : f_X7_readIf_104 n S a2 a3 a4 a5 a6 a7 a8 = some r) : W p l e { frames := 1, cells := 0, slots := 0, locals := 27 } s m args below meth c H locs 0 0 Q (F0 m 104 ls []) := by
  obtain ⟨hx, hb, hml, hown, hts, hK, hN, hA⟩ := id hC
  unfold f_X7_readIf_104 at hf
  refine lv_iconst (v := (0 : Int32)) hx hb dX7_readIf_104 (by decide) ?_
  exact w_X7_readIf_105 hC hR hI (lv_sub hl [0, 1, 2, 3, 4, 5, 6, 7] rfl) hf
def f_X7_readIf_66 (n : Nat) (S : x_S) (a2 : Int32) (a3 : Int32) (a4 : Int32) (a5 : Int32) (a6 : Int32) (a7 : Int32) (t0 : Int32) : Option (x_S) :=
if t0 ≤ a3 then
f_X7_readIf_104 n S a2 a3 a4 a5 a6 a7 t0
else
x_g (¬ (a4 < 0 ∨ 200 ≤ (a4).toNatClampNeg)) (x_let (g_ar S 726 (a4).toNatClampNeg) (fun v11 =>
if v11 < t0 then
f_X7_readIf_104 n S a2 a3 a4 a5 a6 a7 t0
else
if t0 = a6 then
f_X7_readIf_104 n S a2 a3 a4 a5 a6 a7 t0
else
if t0 = a7 then
f_X7_readIf_104 n S a2 a3 a4 a5 a6 a7 t0
else
f_X7_readIf_105 n S a2 a3 a4 a5 a6 a7 t0 (1 : Int32)))
set_option maxHeartbeats 4000000 in
set_option maxRecDepth 100000 in
theorem w_X7_readIf_66 {r : x_S} {a2 : Int32} {a3 : Int32} {a4 : Int32} {a5 : Int32} {a6 : Int32} {a7 : Int32} {t0 : Int32} (hC : x_C p s m args meth c cX7_readIf 11 RX7 E A) (hR : x_Rv p l e { frames := 1, cells := 0, slots := 0, locals := 27 } s m args below meth c cX7_readIf E A Q (mw E ad r)) (hI : x_I E A s.heap (mw E ad S) H locs) (hl : lv_has ls 11 [(0, .ref (ad 799)), (2, .int a2), (3, .int a3), (4, .int a4), (5, .int a5), (6, .int a6), (7, .int a7)]) (hf : f_X7_readIf_66 n S a2 a3 a4 a5 a6 a7 t0 = some r) : W p l e { frames := 1, cells := 0, slots := 0, locals := 27 } s m args below meth c H locs 0 0 Q (F0 m 66 ls [.int t0]) := by
  obtain ⟨hx, hb, hml, hown, hts, hK, hN, hA⟩ := id hC
  unfold f_X7_readIf_66 at hf
  refine lv_istore (lv' := [(8, .int t0), (0, .ref (ad 799)), (2, .int a2), (3, .int a3), (4, .int a4), (5, .int a5), (6, .int a6), (7, .int a7)]) hx hb dX7_readIf_66 hl (by decide) rfl (fun ls hl => ?_)
  refine lv_iload hx hb dX7_readIf_68 (lv_at hl 0 rfl) ?_
  refine lv_iload_n hx hb dX7_readIf_70 rfl (lv_at hl 3 rfl) ?_
  refine x_ile hC 104 hf dX7_readIf_71 (by decide) (fun hf => ?_) (fun hf => ?_)
  · exact w_X7_readIf_104 hC hR hI (lv_sub hl [1, 2, 3, 4, 5, 6, 7, 0] rfl) hf
  · refine lv_iload hx hb dX7_readIf_74 (lv_at hl 0 rfl) ?_
    refine lv_aload_n hx hb dX7_readIf_76 rfl (lv_at hl 1 rfl) ?_
    refine gX7_26 hC hI lkf_X7_68 dX7_readIf_77 ?_
    refine lv_iload hx hb dX7_readIf_80 (lv_at hl 4 rfl) ?_
    refine aX7_26 hC hI hf dX7_readIf_82 (fun v11 hf => ?_)
    refine x_igt hC 104 hf dX7_readIf_83 (by decide) (fun hf => ?_) (fun hf => ?_)
    · exact w_X7_readIf_104 hC hR hI (lv_sub hl [1, 2, 3, 4, 5, 6, 7, 0] rfl) hf
    · refine lv_iload hx hb dX7_readIf_86 (lv_at hl 0 rfl) ?_
      refine lv_iload hx hb dX7_readIf_88 (lv_at hl 6 rfl) ?_
      refine x_ieq hC 104 hf dX7_readIf_90 (by decide) (fun hf => ?_) (fun hf => ?_)
      · exact w_X7_readIf_104 hC hR hI (lv_sub hl [1, 2, 3, 4, 5, 6, 7, 0] rfl) hf
      · refine lv_iload hx hb dX7_readIf_93 (lv_at hl 0 rfl) ?_
        refine lv_iload hx hb dX7_readIf_95 (lv_at hl 7 rfl) ?_
        refine x_ieq hC 104 hf dX7_readIf_97 (by decide) (fun hf => ?_) (fun hf => ?_)
        · exact w_X7_readIf_104 hC hR hI (lv_sub hl [1, 2, 3, 4, 5, 6, 7, 0] rfl) hf
        · refine lv_iconst (v := (1 : Int32)) hx hb dX7_readIf_100 (by decide) ?_
          refine lv_goto (tgt := 105) hx hb dX7_readIf_101 (by decide) ?_
          exact w_X7_readIf_105 hC hR hI (lv_sub hl [1, 2, 3, 4, 5, 6, 7, 0] rfl) hf
def f_X7_readIf_65 (n : Nat) (S : x_S) (a2 : Int32) (a3 : Int32) (a4 : Int32) (a5 : Int32) (a6 : Int32) (a7 : Int32) : Option (x_S) :=
f_X7_readIf_66 n S a2 a3 a4 a5 a6 a7 (-1 : Int32)
set_option maxHeartbeats 4000000 in
set_option maxRecDepth 100000 in
theorem w_X7_readIf_65 {r : x_S} {a2 : Int32} {a3 : Int32} {a4 : Int32} {a5 : Int32} {a6 : Int32} {a7 : Int32} (hC : x_C p s m args meth c cX7_readIf 11 RX7 E A) (hR : x_Rv p l e { frames := 1, cells := 0, slots := 0, locals := 27 } s m args below meth c cX7_readIf E A Q (mw E ad r)) (hI : x_I E A s.heap (mw E ad S) H locs) (hl : lv_has ls 11 [(0, .ref (ad 799)), (2, .int a2), (3, .int a3), (4, .int a4), (5, .int a5), (6, .int a6), (7, .int a7)]) (hf : f_X7_readIf_65 n S a2 a3 a4 a5 a6 a7 = some r) : W p l e { frames := 1, cells := 0, slots := 0, locals := 27 } s m args below meth c H locs 0 0 Q (F0 m 65 ls []) := by
  obtain ⟨hx, hb, hml, hown, hts, hK, hN, hA⟩ := id hC
  unfold f_X7_readIf_65 at hf
  refine lv_iconst (v := (-1 : Int32)) hx hb dX7_readIf_65 (by decide) ?_
  exact w_X7_readIf_66 hC hR hI (lv_sub hl [0, 1, 2, 3, 4, 5, 6] rfl) hf
def f_X7_readIf (n : Nat) (S : x_S) (a1 : Int32) (a2 : Int32) (a3 : Int32) : Option (x_S) :=
x_let (g_sc S 724) (fun v1 =>
x_g (¬ ((v1 - (1 : Int32)) < 0 ∨ 200 ≤ ((v1 - (1 : Int32))).toNatClampNeg)) (x_let (g_ar S 727 ((v1 - (1 : Int32))).toNatClampNeg) (fun v2 =>
x_g (¬ ((v1 - (1 : Int32)) < 0 ∨ 200 ≤ ((v1 - (1 : Int32))).toNatClampNeg)) (x_let (g_ar S 728 ((v1 - (1 : Int32))).toNatClampNeg) (fun v3 =>
if (a3 - (1 : Int32)) ≤ a2 then
f_X7_readIf_65 n S a2 a3 (v1 - (1 : Int32)) (a1 + a2) v2 v3
else
x_g (¬ (((a1 + a3) - (1 : Int32)) < 0 ∨ 720 ≤ (((a1 + a3) - (1 : Int32))).toNatClampNeg)) (x_let (g_ar S 702 (((a1 + a3) - (1 : Int32))).toNatClampNeg) (fun v12 =>
if v12 = (2 : Int32) then
x_g (¬ (((a1 + a3) - (1 : Int32)) < 0 ∨ 720 ≤ (((a1 + a3) - (1 : Int32))).toNatClampNeg)) (x_let (g_ar S 705 (((a1 + a3) - (1 : Int32))).toNatClampNeg) (fun v13 =>
f_X7_readIf_66 n S a2 a3 (v1 - (1 : Int32)) (a1 + a2) v2 v3 v13))
else
f_X7_readIf_65 n S a2 a3 (v1 - (1 : Int32)) (a1 + a2) v2 v3)))))))
set_option maxHeartbeats 4000000 in
set_option maxRecDepth 100000 in
theorem w_X7_readIf {r : x_S} {a1 : Int32} {a2 : Int32} {a3 : Int32} (hC : x_C p s m args meth c cX7_readIf 11 RX7 E A) (hR : x_Rv p l e { frames := 1, cells := 0, slots := 0, locals := 27 } s m args below meth c cX7_readIf E A Q (mw E ad r)) (hI : x_I E A s.heap (mw E ad S) H locs) (hl : lv_has ls 11 [(0, .ref (ad 799)), (1, .int a1), (2, .int a2), (3, .int a3)]) (hf : f_X7_readIf n S a1 a2 a3 = some r) : W p l e { frames := 1, cells := 0, slots := 0, locals := 27 } s m args below meth c H locs 0 0 Q (F0 m 0 ls []) := by
  obtain ⟨hx, hb, hml, hown, hts, hK, hN, hA⟩ := id hC
  unfold f_X7_readIf at hf
  refine lv_aload_n hx hb dX7_readIf_0 rfl (lv_at hl 0 rfl) ?_
  refine gX7_24 hC hI hf lkf_X7_157 dX7_readIf_1 (fun v1 hf => ?_)
  refine lv_iconst (v := (1 : Int32)) hx hb dX7_readIf_4 (by decide) ?_
  refine lv_isub hx hb dX7_readIf_5 ?_
  refine lv_istore (lv' := [(4, .int (v1 - (1 : Int32))), (0, .ref (ad 799)), (1, .int a1), (2, .int a2), (3, .int a3)]) hx hb dX7_readIf_6 hl (by decide) rfl (fun ls hl => ?_)
  refine lv_iload_n hx hb dX7_readIf_8 rfl (lv_at hl 2 rfl) ?_
  refine lv_iload_n hx hb dX7_readIf_9 rfl (lv_at hl 3 rfl) ?_
  refine lv_iadd hx hb dX7_readIf_10 ?_
  refine lv_istore (lv' := [(5, .int (a1 + a2)), (4, .int (v1 - (1 : Int32))), (0, .ref (ad 799)), (1, .int a1), (2, .int a2), (3, .int a3)]) hx hb dX7_readIf_11 hl (by decide) rfl (fun ls hl => ?_)
  refine lv_aload_n hx hb dX7_readIf_13 rfl (lv_at hl 2 rfl) ?_
  refine gX7_27 hC hI lkf_X7_71 dX7_readIf_14 ?_
  refine lv_iload hx hb dX7_readIf_17 (lv_at hl 1 rfl) ?_
  refine aX7_27 hC hI hf dX7_readIf_19 (fun v2 hf => ?_)
  refine lv_istore (lv' := [(6, .int v2), (5, .int (a1 + a2)), (4, .int (v1 - (1 : Int32))), (0, .ref (ad 799)), (1, .int a1), (2, .int a2), (3, .int a3)]) hx hb dX7_readIf_20 hl (by decide) rfl (fun ls hl => ?_)
  refine lv_aload_n hx hb dX7_readIf_22 rfl (lv_at hl 3 rfl) ?_
  refine gX7_28 hC hI lkf_X7_74 dX7_readIf_23 ?_
  refine lv_iload hx hb dX7_readIf_26 (lv_at hl 2 rfl) ?_
  refine aX7_28 hC hI hf dX7_readIf_28 (fun v3 hf => ?_)
  refine lv_istore (lv' := [(7, .int v3), (6, .int v2), (5, .int (a1 + a2)), (4, .int (v1 - (1 : Int32))), (0, .ref (ad 799)), (1, .int a1), (2, .int a2), (3, .int a3)]) hx hb dX7_readIf_29 hl (by decide) rfl (fun ls hl => ?_)
  refine lv_iload_n hx hb dX7_readIf_31 rfl (lv_at hl 7 rfl) ?_
  refine lv_iconst (v := (1 : Int32)) hx hb dX7_readIf_32 (by decide) ?_
  refine lv_isub hx hb dX7_readIf_33 ?_
  refine lv_iload_n hx hb dX7_readIf_34 rfl (lv_at hl 6 rfl) ?_
  refine x_ile hC 65 hf dX7_readIf_35 (by decide) (fun hf => ?_) (fun hf => ?_)
  · exact w_X7_readIf_65 hC hR hI (lv_sub hl [4, 6, 7, 3, 2, 1, 0] rfl) hf
  · refine lv_aload_n hx hb dX7_readIf_38 rfl (lv_at hl 4 rfl) ?_
    refine gX7_2 hC hI lkf_X7_13 dX7_readIf_39 ?_
    refine lv_iload_n hx hb dX7_readIf_42 rfl (lv_at hl 5 rfl) ?_
    refine lv_iload_n hx hb dX7_readIf_43 rfl (lv_at hl 7 rfl) ?_
    refine lv_iadd hx hb dX7_readIf_44 ?_
    refine lv_iconst (v := (1 : Int32)) hx hb dX7_readIf_45 (by decide) ?_
    refine lv_isub hx hb dX7_readIf_46 ?_
    refine aX7_2 hC hI hf dX7_readIf_47 (fun v12 hf => ?_)
    refine lv_iconst (v := (2 : Int32)) hx hb dX7_readIf_48 (by decide) ?_
    refine x_ine hC 65 hf dX7_readIf_49 (by decide) (fun hf => ?_) (fun hf => ?_)
    · exact w_X7_readIf_65 hC hR hI (lv_sub hl [4, 6, 7, 3, 2, 1, 0] rfl) hf
    · refine lv_aload_n hx hb dX7_readIf_52 rfl (lv_at hl 4 rfl) ?_
      refine gX7_5 hC hI lkf_X7_22 dX7_readIf_53 ?_
      refine lv_iload_n hx hb dX7_readIf_56 rfl (lv_at hl 5 rfl) ?_
      refine lv_iload_n hx hb dX7_readIf_57 rfl (lv_at hl 7 rfl) ?_
      refine lv_iadd hx hb dX7_readIf_58 ?_
      refine lv_iconst (v := (1 : Int32)) hx hb dX7_readIf_59 (by decide) ?_
      refine lv_isub hx hb dX7_readIf_60 ?_
      refine aX7_5 hC hI hf dX7_readIf_61 (fun v13 hf => ?_)
      refine lv_goto (tgt := 66) hx hb dX7_readIf_62 (by decide) ?_
      exact w_X7_readIf_66 hC hR hI (lv_sub hl [4, 6, 7, 3, 2, 1, 0] rfl) hf
theorem c_X7_readIf {a1 : Int32} {a2 : Int32} {a3 : Int32} {S1 : x_S} (hf : f_X7_readIf n S a1 a2 a3 = some S1) : x_M l yX7_readIf cX7_readIf 11 none 1 27 E [.ref (ad 799), .int a1, .int a2, .int a3] (mw E ad S) (mw E ad S1) none :=
  x_entV (by decide) (Nat.le_of_ble_eq_true rfl) (fun p e s m args below meth c A Q ls hC hI hR hl => w_X7_readIf (r := S1) hC hR hI hl hf)
-- X7_isBeingRead
def f_X7_isBeingRead_58 (n : Nat) (rec14 : x_S × Int32 × Int32 × Int32 → Option (Int32 × x_S)) (S : x_S) (a1 : Int32) (a3 : Int32) (t0 : Int32) : Option (Int32 × x_S) :=
x_g (¬ (a3 < 0 ∨ 200 ≤ (a3).toNatClampNeg)) (x_let (g_ar S 719 (a3).toNatClampNeg) (fun v3 =>
rec14 (S, a1, t0, v3)))
set_option maxHeartbeats 4000000 in
set_option maxRecDepth 100000 in
theorem w_X7_isBeingRead_58 {r : Int32 × x_S} {a1 : Int32} {a3 : Int32} {t0 : Int32} {rec14 : x_S × Int32 × Int32 × Int32 → Option (Int32 × x_S)} (hC : x_C p s m args meth c cX7_isBeingRead 4 RX7 E A) (hR : x_Rz p l e { frames := 0, cells := 0, slots := 0, locals := 0 } s m args below meth c cX7_isBeingRead E A Q (mw E ad r.2) r.1) (hrec14 : ∀ z : x_S × Int32 × Int32 × Int32, rec14 z = some r → ∀ (H : Heap) (locs : List Loc) (ls : Array Slot), x_I E A s.heap (mw E ad z.1) H locs → lv_has ls 4 [(0, .ref (ad 799)), (1, .int z.2.1), (2, .int z.2.2.1), (3, .int z.2.2.2)] → W p l e { frames := 0, cells := 0, slots := 0, locals := 0 } s m args below meth c H locs 0 0 Q (F0 m 14 ls [])) (hI : x_I E A s.heap (mw E ad S) H locs) (hl : lv_has ls 4 [(0, .ref (ad 799)), (1, .int a1), (3, .int a3)]) (hf : f_X7_isBeingRead_58 n rec14 S a1 a3 t0 = some r) : W p l e { frames := 0, cells := 0, slots := 0, locals := 0 } s m args below meth c H locs 0 0 Q (F0 m 58 ls [.int t0]) := by
  obtain ⟨hx, hb, hml, hown, hts, hK, hN, hA⟩ := id hC
  unfold f_X7_isBeingRead_58 at hf
  refine lv_istore_n (lv' := [(2, .int t0), (0, .ref (ad 799)), (1, .int a1), (3, .int a3)]) hx hb dX7_isBeingRead_58 rfl hl (by decide) rfl (fun ls hl => ?_)
  refine lv_aload_n hx hb dX7_isBeingRead_59 rfl (lv_at hl 1 rfl) ?_
  refine gX7_19 hC hI lkf_X7_50 dX7_isBeingRead_60 ?_
  refine lv_iload_n hx hb dX7_isBeingRead_63 rfl (lv_at hl 3 rfl) ?_
  refine aX7_19 hC hI hf dX7_isBeingRead_64 (fun v3 hf => ?_)
  refine lv_istore_n (lv' := [(3, .int v3), (2, .int t0), (0, .ref (ad 799)), (1, .int a1)]) hx hb dX7_isBeingRead_65 rfl hl (by decide) rfl (fun ls hl => ?_)
  refine lv_goto (tgt := 14) hx hb dX7_isBeingRead_66 (by decide) ?_
  exact hrec14 _ hf _ _ _ hI (lv_sub hl [2, 3, 1, 0] rfl)
def f_X7_isBeingRead_53 (n : Nat) (rec14 : x_S × Int32 × Int32 × Int32 → Option (Int32 × x_S)) (S : x_S) (a1 : Int32) (a3 : Int32) : Option (Int32 × x_S) :=
f_X7_isBeingRead_58 n rec14 S a1 a3 (1 : Int32)
set_option maxHeartbeats 4000000 in
set_option maxRecDepth 100000 in
theorem w_X7_isBeingRead_53 {r : Int32 × x_S} {a1 : Int32} {a3 : Int32} {rec14 : x_S × Int32 × Int32 × Int32 → Option (Int32 × x_S)} (hC : x_C p s m args meth c cX7_isBeingRead 4 RX7 E A) (hR : x_Rz p l e { frames := 0, cells := 0, slots := 0, locals := 0 } s m args below meth c cX7_isBeingRead E A Q (mw E ad r.2) r.1) (hrec14 : ∀ z : x_S × Int32 × Int32 × Int32, rec14 z = some r → ∀ (H : Heap) (locs : List Loc) (ls : Array Slot), x_I E A s.heap (mw E ad z.1) H locs → lv_has ls 4 [(0, .ref (ad 799)), (1, .int z.2.1), (2, .int z.2.2.1), (3, .int z.2.2.2)] → W p l e { frames := 0, cells := 0, slots := 0, locals := 0 } s m args below meth c H locs 0 0 Q (F0 m 14 ls [])) (hI : x_I E A s.heap (mw E ad S) H locs) (hl : lv_has ls 4 [(0, .ref (ad 799)), (1, .int a1), (3, .int a3)]) (hf : f_X7_isBeingRead_53 n rec14 S a1 a3 = some r) : W p l e { frames := 0, cells := 0, slots := 0, locals := 0 } s m args below meth c H locs 0 0 Q (F0 m 53 ls []) := by
  obtain ⟨hx, hb, hml, hown, hts, hK, hN, hA⟩ := id hC
  unfold f_X7_isBeingRead_53 at hf
  refine lv_iconst (v := (1 : Int32)) hx hb dX7_isBeingRead_53 (by decide) ?_
  refine lv_goto (tgt := 58) hx hb dX7_isBeingRead_54 (by decide) ?_
  exact w_X7_isBeingRead_58 hC hR hrec14 hI (lv_sub hl [0, 1, 2] rfl) hf
def f_X7_isBeingRead_57 (n : Nat) (rec14 : x_S × Int32 × Int32 × Int32 → Option (Int32 × x_S)) (S : x_S) (a1 : Int32) (a3 : Int32) : Option (Int32 × x_S) :=
f_X7_isBeingRead_58 n rec14 S a1 a3 (0 : Int32)
set_option maxHeartbeats 4000000 in
set_option maxRecDepth 100000 in
theorem w_X7_isBeingRead_57 {r : Int32 × x_S} {a1 : Int32} {a3 : Int32} {rec14 : x_S × Int32 × Int32 × Int32 → Option (Int32 × x_S)} (hC : x_C p s m args meth c cX7_isBeingRead 4 RX7 E A) (hR : x_Rz p l e { frames := 0, cells := 0, slots := 0, locals := 0 } s m args below meth c cX7_isBeingRead E A Q (mw E ad r.2) r.1) (hrec14 : ∀ z : x_S × Int32 × Int32 × Int32, rec14 z = some r → ∀ (H : Heap) (locs : List Loc) (ls : Array Slot), x_I E A s.heap (mw E ad z.1) H locs → lv_has ls 4 [(0, .ref (ad 799)), (1, .int z.2.1), (2, .int z.2.2.1), (3, .int z.2.2.2)] → W p l e { frames := 0, cells := 0, slots := 0, locals := 0 } s m args below meth c H locs 0 0 Q (F0 m 14 ls [])) (hI : x_I E A s.heap (mw E ad S) H locs) (hl : lv_has ls 4 [(0, .ref (ad 799)), (1, .int a1), (3, .int a3)]) (hf : f_X7_isBeingRead_57 n rec14 S a1 a3 = some r) : W p l e { frames := 0, cells := 0, slots := 0, locals := 0 } s m args below meth c H locs 0 0 Q (F0 m 57 ls []) := by
  obtain ⟨hx, hb, hml, hown, hts, hK, hN, hA⟩ := id hC
  unfold f_X7_isBeingRead_57 at hf
  refine lv_iconst (v := (0 : Int32)) hx hb dX7_isBeingRead_57 (by decide) ?_
  exact w_X7_isBeingRead_58 hC hR hrec14 hI (lv_sub hl [0, 1, 2] rfl) hf
def f_X7_isBeingRead_43 (n : Nat) (rec14 : x_S × Int32 × Int32 × Int32 → Option (Int32 × x_S)) (S : x_S) (a1 : Int32) (a3 : Int32) : Option (Int32 × x_S) :=
x_g (¬ (a3 < 0 ∨ 200 ≤ (a3).toNatClampNeg)) (x_let (g_ar S 717 (a3).toNatClampNeg) (fun v5 =>
if v5 = a1 then
f_X7_isBeingRead_53 n rec14 S a1 a3
else
f_X7_isBeingRead_57 n rec14 S a1 a3))
set_option maxHeartbeats 4000000 in
set_option maxRecDepth 100000 in
theorem w_X7_isBeingRead_43 {r : Int32 × x_S} {a1 : Int32} {a3 : Int32} {rec14 : x_S × Int32 × Int32 × Int32 → Option (Int32 × x_S)} (hC : x_C p s m args meth c cX7_isBeingRead 4 RX7 E A) (hR : x_Rz p l e { frames := 0, cells := 0, slots := 0, locals := 0 } s m args below meth c cX7_isBeingRead E A Q (mw E ad r.2) r.1) (hrec14 : ∀ z : x_S × Int32 × Int32 × Int32, rec14 z = some r → ∀ (H : Heap) (locs : List Loc) (ls : Array Slot), x_I E A s.heap (mw E ad z.1) H locs → lv_has ls 4 [(0, .ref (ad 799)), (1, .int z.2.1), (2, .int z.2.2.1), (3, .int z.2.2.2)] → W p l e { frames := 0, cells := 0, slots := 0, locals := 0 } s m args below meth c H locs 0 0 Q (F0 m 14 ls [])) (hI : x_I E A s.heap (mw E ad S) H locs) (hl : lv_has ls 4 [(0, .ref (ad 799)), (1, .int a1), (3, .int a3)]) (hf : f_X7_isBeingRead_43 n rec14 S a1 a3 = some r) : W p l e { frames := 0, cells := 0, slots := 0, locals := 0 } s m args below meth c H locs 0 0 Q (F0 m 43 ls []) := by
  obtain ⟨hx, hb, hml, hown, hts, hK, hN, hA⟩ := id hC
  unfold f_X7_isBeingRead_43 at hf
  refine lv_aload_n hx hb dX7_isBeingRead_43 rfl (lv_at hl 0 rfl) ?_
  refine gX7_17 hC hI lkf_X7_44 dX7_isBeingRead_44 ?_
  refine lv_iload_n hx hb dX7_isBeingRead_47 rfl (lv_at hl 2 rfl) ?_
  refine aX7_17 hC hI hf dX7_isBeingRead_48 (fun v5 hf => ?_)
  refine lv_iload_n hx hb dX7_isBeingRead_49 rfl (lv_at hl 1 rfl) ?_
  refine x_ine hC 57 hf dX7_isBeingRead_50 (by decide) (fun hf => ?_) (fun hf => ?_)
  · exact w_X7_isBeingRead_57 hC hR hrec14 hI (lv_sub hl [0, 1, 2] rfl) hf
  · exact w_X7_isBeingRead_53 hC hR hrec14 hI (lv_sub hl [0, 1, 2] rfl) hf
def f_X7_isBeingRead_14 (n : Nat) (rec14 : x_S × Int32 × Int32 × Int32 → Option (Int32 × x_S)) (S : x_S) (a1 : Int32) (a2 : Int32) (a3 : Int32) : Option (Int32 × x_S) :=
if a3 = (-1 : Int32) then
x_g (a2 = 0 ∨ a2 = 1) (some (a2, S))
else
if a2 = 0 then
x_g (¬ (a3 < 0 ∨ 200 ≤ (a3).toNatClampNeg)) (x_let (g_ar S 716 (a3).toNatClampNeg) (fun v4 =>
if v4 = (3 : Int32) then
f_X7_isBeingRead_43 n rec14 S a1 a3
else
x_g (¬ (a3 < 0 ∨ 200 ≤ (a3).toNatClampNeg)) (x_let (g_ar S 716 (a3).toNatClampNeg) (fun v6 =>
if v6 = (5 : Int32) then
f_X7_isBeingRead_43 n rec14 S a1 a3
else
f_X7_isBeingRead_57 n rec14 S a1 a3))))
else
f_X7_isBeingRead_53 n rec14 S a1 a3
set_option maxHeartbeats 4000000 in
set_option maxRecDepth 100000 in
theorem w_X7_isBeingRead_14 {r : Int32 × x_S} {a1 : Int32} {a2 : Int32} {a3 : Int32} {rec14 : x_S × Int32 × Int32 × Int32 → Option (Int32 × x_S)} (hC : x_C p s m args meth c cX7_isBeingRead 4 RX7 E A) (hR : x_Rz p l e { frames := 0, cells := 0, slots := 0, locals := 0 } s m args below meth c cX7_isBeingRead E A Q (mw E ad r.2) r.1) (hrec14 : ∀ z : x_S × Int32 × Int32 × Int32, rec14 z = some r → ∀ (H : Heap) (locs : List Loc) (ls : Array Slot), x_I E A s.heap (mw E ad z.1) H locs → lv_has ls 4 [(0, .ref (ad 799)), (1, .int z.2.1), (2, .int z.2.2.1), (3, .int z.2.2.2)] → W p l e { frames := 0, cells := 0, slots := 0, locals := 0 } s m args below meth c H locs 0 0 Q (F0 m 14 ls [])) (hI : x_I E A s.heap (mw E ad S) H locs) (hl : lv_has ls 4 [(0, .ref (ad 799)), (1, .int a1), (2, .int a2), (3, .int a3)]) (hf : f_X7_isBeingRead_14 n rec14 S a1 a2 a3 = some r) : W p l e { frames := 0, cells := 0, slots := 0, locals := 0 } s m args below meth c H locs 0 0 Q (F0 m 14 ls []) := by
  obtain ⟨hx, hb, hml, hown, hts, hK, hN, hA⟩ := id hC
  unfold f_X7_isBeingRead_14 at hf
  refine lv_iload_n hx hb dX7_isBeingRead_14 rfl (lv_at hl 3 rfl) ?_
  refine lv_iconst (v := (-1 : Int32)) hx hb dX7_isBeingRead_15 (by decide) ?_
  refine x_ieq hC 69 hf dX7_isBeingRead_16 (by decide) (fun hf => ?_) (fun hf => ?_)
  · refine lv_iload_n hx hb dX7_isBeingRead_69 rfl (lv_at hl 2 rfl) ?_
    obtain ⟨h9, hf⟩ := x_g_eq hf
    obtain rfl := Option.some.inj hf
    exact hR _ _ _ _ h9 hI dX7_isBeingRead_70
  · refine lv_iload_n hx hb dX7_isBeingRead_19 rfl (lv_at hl 2 rfl) ?_
    refine x_ne0 hC 53 hf dX7_isBeingRead_20 (by decide) (fun hf => ?_) (fun hf => ?_)
    · exact w_X7_isBeingRead_53 hC hR hrec14 hI (lv_sub hl [0, 1, 3] rfl) hf
    · refine lv_aload_n hx hb dX7_isBeingRead_23 rfl (lv_at hl 0 rfl) ?_
      refine gX7_16 hC hI lkf_X7_41 dX7_isBeingRead_24 ?_
      refine lv_iload_n hx hb dX7_isBeingRead_27 rfl (lv_at hl 3 rfl) ?_
      refine aX7_16 hC hI hf dX7_isBeingRead_28 (fun v4 hf => ?_)
      refine lv_iconst (v := (3 : Int32)) hx hb dX7_isBeingRead_29 (by decide) ?_
      refine x_ieq hC 43 hf dX7_isBeingRead_30 (by decide) (fun hf => ?_) (fun hf => ?_)
      · exact w_X7_isBeingRead_43 hC hR hrec14 hI (lv_sub hl [0, 1, 3] rfl) hf
      · refine lv_aload_n hx hb dX7_isBeingRead_33 rfl (lv_at hl 0 rfl) ?_
        refine gX7_16 hC hI lkf_X7_41 dX7_isBeingRead_34 ?_
        refine lv_iload_n hx hb dX7_isBeingRead_37 rfl (lv_at hl 3 rfl) ?_
        refine aX7_16 hC hI hf dX7_isBeingRead_38 (fun v6 hf => ?_)
        refine lv_iconst (v := (5 : Int32)) hx hb dX7_isBeingRead_39 (by decide) ?_
        refine x_ine hC 57 hf dX7_isBeingRead_40 (by decide) (fun hf => ?_) (fun hf => ?_)
        · exact w_X7_isBeingRead_57 hC hR hrec14 hI (lv_sub hl [0, 1, 3] rfl) hf
        · exact w_X7_isBeingRead_43 hC hR hrec14 hI (lv_sub hl [0, 1, 3] rfl) hf
theorem w_X7_isBeingRead_14_loop {r : Int32 × x_S} (hC : x_C p s m args meth c cX7_isBeingRead 4 RX7 E A) (hR : x_Rz p l e { frames := 0, cells := 0, slots := 0, locals := 0 } s m args below meth c cX7_isBeingRead E A Q (mw E ad r.2) r.1) : ∀ (k : Nat) (z : x_S × Int32 × Int32 × Int32), x_loop (fun rec z => f_X7_isBeingRead_14 n rec z.1 z.2.1 z.2.2.1 z.2.2.2) k z = some r → ∀ (H : Heap) (locs : List Loc) (ls : Array Slot), x_I E A s.heap (mw E ad z.1) H locs → lv_has ls 4 [(0, .ref (ad 799)), (1, .int z.2.1), (2, .int z.2.2.1), (3, .int z.2.2.2)] → W p l e { frames := 0, cells := 0, slots := 0, locals := 0 } s m args below meth c H locs 0 0 Q (F0 m 14 ls []) :=
  x_loop_ind (P := fun (z : x_S × Int32 × Int32 × Int32) => ∀ (H : Heap) (locs : List Loc) (ls : Array Slot), x_I E A s.heap (mw E ad z.1) H locs → lv_has ls 4 [(0, .ref (ad 799)), (1, .int z.2.1), (2, .int z.2.2.1), (3, .int z.2.2.2)] → W p l e { frames := 0, cells := 0, slots := 0, locals := 0 } s m args below meth c H locs 0 0 Q (F0 m 14 ls [])) (fun rec hrec z hf H locs ls hI hl => w_X7_isBeingRead_14 hC hR hrec hI hl hf)
def f_X7_isBeingRead (n : Nat) (S : x_S) (a1 : Int32) : Option (Int32 × x_S) :=
x_let (g_sc S 724) (fun v1 =>
x_g (¬ ((v1 - (1 : Int32)) < 0 ∨ 200 ≤ ((v1 - (1 : Int32))).toNatClampNeg)) (x_let (g_ar S 729 ((v1 - (1 : Int32))).toNatClampNeg) (fun v2 =>
x_loop (fun rec z => f_X7_isBeingRead_14 n rec z.1 z.2.1 z.2.2.1 z.2.2.2) n (S, a1, (0 : Int32), v2))))
set_option maxHeartbeats 4000000 in
set_option maxRecDepth 100000 in
theorem w_X7_isBeingRead {r : Int32 × x_S} {a1 : Int32} (hC : x_C p s m args meth c cX7_isBeingRead 4 RX7 E A) (hR : x_Rz p l e { frames := 0, cells := 0, slots := 0, locals := 0 } s m args below meth c cX7_isBeingRead E A Q (mw E ad r.2) r.1) (hI : x_I E A s.heap (mw E ad S) H locs) (hl : lv_has ls 4 [(0, .ref (ad 799)), (1, .int a1)]) (hf : f_X7_isBeingRead n S a1 = some r) : W p l e { frames := 0, cells := 0, slots := 0, locals := 0 } s m args below meth c H locs 0 0 Q (F0 m 0 ls []) := by
  obtain ⟨hx, hb, hml, hown, hts, hK, hN, hA⟩ := id hC
  unfold f_X7_isBeingRead at hf
  refine lv_iconst (v := (0 : Int32)) hx hb dX7_isBeingRead_0 (by decide) ?_
  refine lv_istore_n (lv' := [(2, .int (0 : Int32)), (0, .ref (ad 799)), (1, .int a1)]) hx hb dX7_isBeingRead_1 rfl hl (by decide) rfl (fun ls hl => ?_)
  refine lv_aload_n hx hb dX7_isBeingRead_2 rfl (lv_at hl 1 rfl) ?_
  refine gX7_29 hC hI lkf_X7_77 dX7_isBeingRead_3 ?_
  refine lv_aload_n hx hb dX7_isBeingRead_6 rfl (lv_at hl 1 rfl) ?_
  refine gX7_24 hC hI hf lkf_X7_157 dX7_isBeingRead_7 (fun v1 hf => ?_)
  refine lv_iconst (v := (1 : Int32)) hx hb dX7_isBeingRead_10 (by decide) ?_
  refine lv_isub hx hb dX7_isBeingRead_11 ?_
  refine aX7_29 hC hI hf dX7_isBeingRead_12 (fun v2 hf => ?_)
  refine lv_istore_n (lv' := [(3, .int v2), (2, .int (0 : Int32)), (0, .ref (ad 799)), (1, .int a1)]) hx hb dX7_isBeingRead_13 rfl hl (by decide) rfl (fun ls hl => ?_)
  exact w_X7_isBeingRead_14_loop hC hR _ _ hf _ _ _ hI (lv_sub hl [2, 3, 1, 0] rfl)
theorem c_X7_isBeingRead {a1 : Int32} {v : Int32} {S1 : x_S} (hf : f_X7_isBeingRead n S a1 = some (v, S1)) : x_M l yX7_isBeingRead cX7_isBeingRead 4 (some .boolean) 0 0 E [.ref (ad 799), .int a1] (mw E ad S) (mw E ad S1) (some (.int v)) :=
  x_entZ (by decide) (Nat.le_of_ble_eq_true rfl) (fun p e s m args below meth c A Q ls hC hI hR hl => w_X7_isBeingRead (r := (v, S1)) hC hR hI hl hf)
end
