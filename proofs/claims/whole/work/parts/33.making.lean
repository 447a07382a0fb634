theorem lkc_X6_addRoutine : Cond.code yX6_addRoutine cX6_addRoutine 3 (some .int) ∈ x_TB := x_in 321 (by decide +kernel) (by decide +kernel)
theorem kv_X6_64 : x_V RX6 64 RX6 yX6_addRoutine cX6_addRoutine 3 (some .int) 1 := ⟨lkc_X6_addRoutine, x_in 318 (by decide +kernel) (by decide +kernel), x_in 320 (by decide +kernel) (by decide +kernel), x_inp 0 (by decide +kernel) (by decide +kernel), x_in 1 (by decide +kernel) (by decide +kernel), rfl, by decide +kernel, by decide +kernel, by decide +kernel⟩
theorem lkc_X5_parse : Cond.code yX5_parse cX5_parse 4 (some .int) ∈ x_TB := x_in 527 (by decide +kernel) (by decide +kernel)
theorem kv_X6_153 : x_V RX6 153 RX5 yX5_parse cX5_parse 4 (some .int) 2 := ⟨lkc_X5_parse, x_in 524 (by decide +kernel) (by decide +kernel), x_in 525 (by decide +kernel) (by decide +kernel), x_in 526 (by decide +kernel) (by decide +kernel), x_in 5 (by decide +kernel) (by decide +kernel), rfl, by decide +kernel, by decide +kernel, by decide +kernel⟩
theorem lkf_X6_160 : Cond.fieldLink RX6 160 RX5 (TX5 0).2.1 (TX5 0).2.2.1 ∈ x_TB := x_in 192 (by decide +kernel) (by decide +kernel)
theorem lkc_X2_takeOver : Cond.code yX2_takeOver cX2_takeOver 3 none ∈ x_TB := x_in 599 (by decide +kernel) (by decide +kernel)
theorem kv_X6_164 : x_V RX6 164 RX2 yX2_takeOver cX2_takeOver 3 none 1 := ⟨lkc_X2_takeOver, x_in 596 (by decide +kernel) (by decide +kernel), x_in 597 (by decide +kernel) (by decide +kernel), x_in 598 (by decide +kernel) (by decide +kernel), x_in 6 (by decide +kernel) (by decide +kernel), rfl, by decide +kernel, by decide +kernel, by decide +kernel⟩
theorem lkf_X6_157 : Cond.fieldLink RX6 157 RX5 (TX5 1).2.1 (TX5 1).2.2.1 ∈ x_TB := x_in 194 (by decide +kernel) (by decide +kernel)
/-! routine() and write(): they make a Routine -/
def s_new (S : x_S) : x_S := (S.1, S.2.1, S.2.2.1 + 1, (fun k => upd (S.2.2.2.1 k) S.2.2.1 (if k = 5 then 1 else 0)), (fun k => va_up (S.2.2.2.2.1 k) S.2.2.1 (fun _ => 0)), S.2.2.2.2.2)
/-- no reference leads to a Routine that there is not -/
def x_cl (S : x_S) : Prop := 0 < g_np S ∧ (∀ k i, g_rf S k = some i → i < g_np S) ∧ (∀ k j i, g_ra S k j = some i → i < g_np S)
theorem x_cw_new (E : x_E) (ad : Nat → Nat) (ap : Nat → Nat → Nat) (S : x_S) (hcl : x_cl S) (q q1 q2 q3 q4 : Nat) : cw E ad ap S ++ [(q, .inr (2, [.ref q1, .ref q2, .ref q3, .ref q4, .int 0, .int 1])), (q1, .inl (E.2.1, 60, .inl (fun _ => 0))), (q2, .inl (E.2.1, 60, .inl (fun _ => 0))), (q3, .inl (E.2.1, 60, .inl (fun _ => 0))), (q4, .inl (E.2.1, 60, .inl (fun _ => 0)))] = cw E ad (va_up ap (g_np S) (fun j => if j = 0 then q else if j = 1 then q1 else if j = 2 then q2 else if j = 3 then q3 else q4)) (s_new S) := by
  obtain ⟨hp, hrf, hra⟩ := hcl
  generalize hap : va_up ap (g_np S) (fun j => if j = 0 then q else if j = 1 then q1 else if j = 2 then q2 else if j = 3 then q3 else q4) = ap2
  have hne : ∀ i, i < g_np S → ap2 i = ap i := by
    intro i hi
    rw [← hap]
    unfold va_up
    rw [if_neg (by omega)]
  have heq : ap2 (g_np S) = (fun j => if j = 0 then q else if j = 1 then q1 else if j = 2 then q2 else if j = 3 then q3 else q4) := by
    rw [← hap]
    unfold va_up
    rw [if_pos rfl]
  have h0 : ap2 0 0 = ap 0 0 := by rw [hne 0 hp]
  have hm : ∀ o : Option Nat, (∀ i, o = some i → i < g_np S) → o.map (fun i => ap2 i 0) = o.map (fun i => ap i 0) := by
    intro o ho
    cases o with
    | none => rfl
    | some i => show some (ap2 i 0) = some (ap i 0); rw [hne i (ho i rfl)]
  have hr : x_rr ap2 (g_rf S 101) = x_rr ap (g_rf S 101) := by
    unfold x_rr
    rw [hm _ (hrf 101)]
  have ha : ∀ k, (fun j => (g_ra S k j).map (fun i => ap2 i 0)) = (fun j => (g_ra S k j).map (fun i => ap i 0)) := fun k => funext (fun j => hm _ (hra k j))
  have e1 : x_fx E ad ap2 (s_new S) = x_fx E ad ap2 S := rfl
  have e2 : x_fx E ad ap2 S = x_fx E ad ap S := by
    unfold x_fx
    rw [h0, hr, ha 600, ha 306]
  have en : g_np (s_new S) = g_np S + 1 := rfl
  unfold cw
  rw [e1, e2, en, List.range_succ, List.flatMap_append, List.append_assoc]
  congr 1
  congr 1
  · refine x_fmc _ (fun i hi => ?_)
    have h3 : i < g_np S := List.mem_range.mp hi
    have h4 : i ≠ S.2.2.1 := Nat.ne_of_lt h3
    simp [x_rt, s_new, g_ps, va_up, upd, h4, hne i h3]
  · have h5 : S.2.2.1 = g_np S := rfl
    simp [x_rt, s_new, g_ps, va_up, upd, h5, heq]
def f_X6_routine (n : Nat) (S : x_S) : Option (Int32 × x_S) :=
x_let (g_sc S 601) (fun v1 =>
if v1 < (12 : Int32) then
x_let (g_np S) (fun j => x_let (s_new S) (fun S => f_X6_addRoutine n S j))
else some ((-4 : Int32), S))
def f_X6_write (n : Nat) (S : x_S) : Option (Int32 × x_S) :=
x_let (g_sc S 601) (fun v1 =>
if v1 < (12 : Int32) then
x_let (g_sc S 606) (fun v2 =>
x_g (v2 = g_sc S 606) (x_b2 (f_X5_parse n S v2) (fun v3 S =>
x_let (s_sc S 606 (0 : Int32)) (fun S =>
if v3 = 0 then
x_let (g_np S) (fun j => x_let (s_new S) (fun S => x_g (j < g_np S) (x_b (f_X2_takeOver n S j 0) (fun S => f_X6_addRoutine n S j))))
else
x_let (g_sc S 501) (fun v4 =>
x_let (s_sc S 608 v4) (fun S =>
some (((-10 : Int32) - v3), S)))))))
else some ((-4 : Int32), S))
section
variable {l : Launch} {E : x_E} {ad : Nat → Nat} {ap : Nat → Nat → Nat} {S S1 : x_S} {n : Nat} {v : Int32}
set_option maxHeartbeats 4000000 in
set_option maxRecDepth 100000 in
theorem c_X6_routine (hcl : x_cl S) (hf : f_X6_routine n S = some (v, S1)) : x_Ma l yX6_routine cX6_routine 1 (some .int) 2 40 5 246 E [.ref (ad 699)] (cw E ad ap S) (fun rv w1 => rv = some (.int v) ∧ ∃ ap2, w1 = cw E ad ap2 S1) := by
  refine x_entIM (by decide) (Nat.le_of_ble_eq_true rfl) (fun p e s m args below meth c A Q ls hC hI hR hl => ?_)
  obtain ⟨hx, hb, hml, hown, hts, hK, hN, hA⟩ := id hC
  unfold f_X6_routine at hf
  refine lv_aload_n hx hb dX6_routine_0 rfl (lv_at hl 0 rfl) ?_
  refine gX6_1 hC hI hf lkf_X6_15 dX6_routine_1 (fun v1 hf => ?_)
  refine lv_bipush (v := (12 : Int32)) hx hb dX6_routine_4 (by decide) ?_
  refine x_ilt hC 14 hf dX6_routine_6 (by decide) (fun hf => ?_) (fun hf => ?_)
  · refine lv_aload_n hx hb dX6_routine_14 rfl (lv_at hl 0 rfl) ?_
    refine x_new hC hI 2 [.null, .null, .null, .null, .int 0, .int 0] tyX2 tyX2_ok rfl inX2 (by decide +kernel) lkn_X6_9 lkn_inst_X2 lkn_ini_X2 ⟨Nat.le_of_ble_eq_true rfl, Nat.le_of_ble_eq_true rfl⟩ dX6_routine_15 (fun q H hI => ?_)
    refine lv_dup hx hb dX6_routine_18 rfl ?_
    refine x_callJ (X := cw E ad ap S) hC hI (c_X2_init l E q) kj_X6_63 ⟨Nat.le_of_ble_eq_true rfl, Nat.le_of_ble_eq_true rfl⟩ ⟨Nat.le_of_ble_eq_true rfl, Nat.le_of_ble_eq_true rfl⟩ hl.1 (Nat.le_of_ble_eq_true rfl) dX6_routine_19 (fun rv w1 H locs hpost hI => ?_)
    obtain ⟨rfl, q1, q2, q3, q4, rfl⟩ := hpost
    rw [x_cw_new E ad ap S hcl q q1 q2 q3 q4] at hI
    have hq : va_up ap (g_np S) (fun j => if j = 0 then q else if j = 1 then q1 else if j = 2 then q2 else if j = 3 then q3 else q4) (g_np S) 0 = q := by simp [va_up]
    generalize va_up ap (g_np S) (fun j => if j = 0 then q else if j = 1 then q1 else if j = 2 then q2 else if j = 3 then q3 else q4) = ap2 at hI hq
    refine W.eq (g2 := F0 m 22 ls [.ref (ap2 (g_np S) 0), .ref (ad 699)]) (by rw [hq]; rfl) ?_
    have hf2 : f_X6_addRoutine n (s_new S) (g_np S) = some (v, S1) := hf
    refine x_callV hC hI (c_X6_addRoutine hf2) 0 6 rfl rfl kv_X6_64 rfl ⟨Nat.le_of_ble_eq_true rfl, Nat.le_of_ble_eq_true rfl⟩ ⟨Nat.le_of_ble_eq_true rfl, Nat.le_of_ble_eq_true rfl⟩ hl.1 rfl (Nat.le_of_ble_eq_true rfl) dX6_routine_22 (fun H locs hI => ?_)
    exact hR _ _ _ _ _ _ ⟨rfl, ap2, rfl⟩ hI dX6_routine_25
  · refine lv_bipush (v := (-4 : Int32)) hx hb dX6_routine_9 (by decide) ?_
    refine lv_goto (tgt := 25) hx hb dX6_routine_11 (by decide) ?_
    have h9 := Option.some.inj hf
    obtain ⟨rfl, rfl⟩ := Prod.mk.inj h9
    refine W.widen (k := 5) (n := 246) (Nat.zero_le _) (Nat.zero_le _) ?_
    exact hR _ _ _ _ _ _ ⟨rfl, ap, rfl⟩ hI dX6_routine_25
set_option maxHeartbeats 4000000 in
set_option maxRecDepth 100000 in
theorem c_X6_write (hcl0 : ∀ (v3 : Int32) (S2 : x_S), f_X5_parse n S (g_sc S 606) = some (v3, S2) → x_cl S2) (hf : f_X6_write n S = some (v, S1)) : x_Ma l yX6_write cX6_write 3 (some .int) 6 139 5 246 E [.ref (ad 699)] (cw E ad ap S) (fun rv w1 => rv = some (.int v) ∧ ∃ ap2, w1 = cw E ad ap2 S1) := by
  refine x_entIM (by decide) (Nat.le_of_ble_eq_true rfl) (fun p e s m args below meth c A Q ls hC hI hR hl => ?_)
  obtain ⟨hx, hb, hml, hown, hts, hK, hN, hA⟩ := id hC
  unfold f_X6_write at hf
  refine lv_aload_n hx hb dX6_write_0 rfl (lv_at hl 0 rfl) ?_
  refine gX6_1 hC hI hf lkf_X6_15 dX6_write_1 (fun v1 hf => ?_)
  refine lv_bipush (v := (12 : Int32)) hx hb dX6_write_4 (by decide) ?_
  refine x_ilt hC 12 hf dX6_write_6 (by decide) (fun hf => ?_) (fun hf => ?_)
  · refine lv_aload_n hx hb dX6_write_12 rfl (lv_at hl 0 rfl) ?_
    refine gX6_7 hC hI lkf_X6_46 dX6_write_13 ?_
    refine lv_aload_n hx hb dX6_write_16 rfl (lv_at hl 0 rfl) ?_
    refine gX6_5 hC hI lkf_X6_36 dX6_write_17 ?_
    refine lv_aload_n hx hb dX6_write_20 rfl (lv_at hl 0 rfl) ?_
    refine gX6_6 hC hI hf lkf_X6_40 dX6_write_21 (fun v2 hf => ?_)
    obtain ⟨hv2, hf⟩ := x_g_eq hf
    obtain ⟨v3, S, hc1, hf⟩ := x_b2_eq hf
    have hcl1 := hcl0 _ _ (by rw [← hv2]; exact hc1)
    clear hv2
    refine x_callV hC hI (c_X5_parse hc1) 5 5 rfl rfl kv_X6_153 rfl ⟨Nat.le_of_ble_eq_true rfl, Nat.le_of_ble_eq_true rfl⟩ ⟨Nat.le_of_ble_eq_true rfl, Nat.le_of_ble_eq_true rfl⟩ hl.1 rfl (Nat.le_of_ble_eq_true rfl) dX6_write_24 (fun H locs hI => ?_)
    refine lv_istore_n (lv' := [(1, .int v3), (0, .ref (ad 699))]) hx hb dX6_write_27 rfl hl (by decide) rfl (fun ls hl => ?_)
    refine lv_aload_n hx hb dX6_write_28 rfl (lv_at hl 1 rfl) ?_
    refine lv_iconst (v := (0 : Int32)) hx hb dX6_write_29 (by decide) ?_
    have hcl2 : x_cl (s_sc S 606 (0 : Int32)) := hcl1
    clear hcl0 hcl1
    refine x_put hC hI 0 6 6 tyX6 tyX6_ok nmX6 rfl rfl inX6 (by decide) rfl rfl rfl rfl (Nat.le_of_ble_eq_true rfl) (x_cw_fx E ad ap S (s_sc S 606 (0 : Int32)) 0 _ (by decide) rfl rfl rfl) lkf_X6_40 dX6_write_30 (fun H locs hI => ?_)
    have hf : (if v3 = 0 then x_let (g_np (s_sc S 606 (0 : Int32))) (fun j => x_let (s_new (s_sc S 606 (0 : Int32))) (fun S => x_g (j < g_np S) (x_b (f_X2_takeOver n S j 0) (fun S => f_X6_addRoutine n S j)))) else x_let (g_sc (s_sc S 606 (0 : Int32)) 501) (fun v4 => x_let (s_sc (s_sc S 606 (0 : Int32)) 608 v4) (fun S => some (((-10 : Int32) - v3), S)))) = some (v, S1) := hf
    generalize s_sc S 606 (0 : Int32) = S at hI hf hcl2
    refine lv_iload_n hx hb dX6_write_33 rfl (lv_at hl 0 rfl) ?_
    refine x_eq0 hC 53 hf dX6_write_34 (by decide) (fun hf => ?_) (fun hf => ?_)
    · have hcl := hcl2
      refine x_new hC hI 2 [.null, .null, .null, .null, .int 0, .int 0] tyX2 tyX2_ok rfl inX2 (by decide +kernel) lkn_X6_9 lkn_inst_X2 lkn_ini_X2 ⟨Nat.le_of_ble_eq_true rfl, Nat.le_of_ble_eq_true rfl⟩ dX6_write_53 (fun q H hI => ?_)
      refine lv_dup hx hb dX6_write_56 rfl ?_
      refine x_callJ (X := cw E ad ap S) hC hI (c_X2_init l E q) kj_X6_63 ⟨Nat.le_of_ble_eq_true rfl, Nat.le_of_ble_eq_true rfl⟩ ⟨Nat.le_of_ble_eq_true rfl, Nat.le_of_ble_eq_true rfl⟩ hl.1 (Nat.le_of_ble_eq_true rfl) dX6_write_57 (fun rv w1 H locs hpost hI => ?_)
      obtain ⟨rfl, q1, q2, q3, q4, rfl⟩ := hpost
      rw [x_cw_new E ad ap S hcl q q1 q2 q3 q4] at hI
      have hq : va_up ap (g_np S) (fun j => if j = 0 then q else if j = 1 then q1 else if j = 2 then q2 else if j = 3 then q3 else q4) (g_np S) 0 = q := by simp [va_up]
      generalize va_up ap (g_np S) (fun j => if j = 0 then q else if j = 1 then q1 else if j = 2 then q2 else if j = 3 then q3 else q4) = ap2 at hI hq
      refine W.eq (g2 := F0 m 60 ls [.ref (ap2 (g_np S) 0)]) (by rw [hq]; rfl) ?_
      obtain ⟨h9, hf⟩ := x_g_eq (show x_g (g_np S < g_np (s_new S)) (x_b (f_X2_takeOver n (s_new S) (g_np S) 0) (fun Z => f_X6_addRoutine n Z (g_np S))) = some (v, S1) from hf)
      obtain ⟨S2, hc2, hf⟩ := x_b_eq hf
      refine lv_astore_n (lv' := [(2, .ref (ap2 (g_np S) 0)), (1, .int v3), (0, .ref (ad 699))]) hx hb dX6_write_60 rfl hl (by decide) rfl (fun ls hl => ?_)
      refine lv_aload_n hx hb dX6_write_61 rfl (lv_at hl 0 rfl) ?_
      refine lv_aload_n hx hb dX6_write_62 rfl (lv_at hl 2 rfl) ?_
      refine gX6_7 hC hI lkf_X6_46 dX6_write_63 ?_
      refine gX5_0 hC hI lkf_X6_160 dX6_write_66 ?_
      refine x_callV hC hI (c_X2_takeOver hc2) (36 + (5 * g_np S + 0)) 2 (x_cw_get E ad ap2 _ (g_np S) 0 (by decide) h9) rfl kv_X6_164 rfl ⟨Nat.le_of_ble_eq_true rfl, Nat.le_of_ble_eq_true rfl⟩ ⟨Nat.le_of_ble_eq_true rfl, Nat.le_of_ble_eq_true rfl⟩ hl.1 rfl (Nat.le_of_ble_eq_true rfl) dX6_write_69 (fun H locs hI => ?_)
      refine lv_aload_n hx hb dX6_write_72 rfl (lv_at hl 2 rfl) ?_
      refine lv_aload_n hx hb dX6_write_73 rfl (lv_at hl 0 rfl) ?_
      refine x_callV hC hI (c_X6_addRoutine hf) 0 6 rfl rfl kv_X6_64 rfl ⟨Nat.le_of_ble_eq_true rfl, Nat.le_of_ble_eq_true rfl⟩ ⟨Nat.le_of_ble_eq_true rfl, Nat.le_of_ble_eq_true rfl⟩ hl.1 rfl (Nat.le_of_ble_eq_true rfl) dX6_write_74 (fun H locs hI => ?_)
      exact hR _ _ _ _ _ _ ⟨rfl, ap2, rfl⟩ hI dX6_write_77
    · refine lv_aload_n hx hb dX6_write_37 rfl (lv_at hl 1 rfl) ?_
      refine lv_aload_n hx hb dX6_write_38 rfl (lv_at hl 1 rfl) ?_
      refine gX6_7 hC hI lkf_X6_46 dX6_write_39 ?_
      refine gX5_1 hC hI hf lkf_X6_157 dX6_write_42 (fun v4 hf => ?_)
      refine pX6_8 hC hI hf lkf_X6_50 dX6_write_45 (fun S H locs hI hf => ?_)
      refine lv_bipush (v := (-10 : Int32)) hx hb dX6_write_48 (by decide) ?_
      refine lv_iload_n hx hb dX6_write_50 rfl (lv_at hl 0 rfl) ?_
      refine lv_isub hx hb dX6_write_51 ?_
      have h9 := Option.some.inj hf
      obtain ⟨rfl, rfl⟩ := Prod.mk.inj h9
      refine W.widen (k := 5) (n := 246) (Nat.zero_le _) (Nat.zero_le _) ?_
      exact hR _ _ _ _ _ _ ⟨rfl, ap, rfl⟩ hI dX6_write_52
  · refine lv_bipush (v := (-4 : Int32)) hx hb dX6_write_9 (by decide) ?_
    have h9 := Option.some.inj hf
    obtain ⟨rfl, rfl⟩ := Prod.mk.inj h9
    refine W.widen (k := 5) (n := 246) (Nat.zero_le _) (Nat.zero_le _) ?_
    exact hR _ _ _ _ _ _ ⟨rfl, ap, rfl⟩ hI dX6_write_11
end
