section
variable {p : Program} {l : Launch} {e : Env} {s : State} {m : MethodId} {args : Array Value} {below : List Frame} {meth : Method} {c : Code} {H : Heap} {locs : List Loc} {Q : State → Prop}
variable {E : x_E} {A : Nat → Prop} {ls : Array Slot} {ad : Nat → Nat} {ap : Nat → Nat → Nat} {S : x_S} {w : va_W} {n : Nat}
-- X5_parse
def f_X5_parse_117 (n : Nat) (S : x_S) : Option (Int32 × x_S) :=
x_b (f_X5_judgeAll n S) (fun S =>
x_let (g_sc S 505) (fun v3 =>
x_let (if (60 : Int32) < v3 then (60 : Int32) else v3) (fun v4 =>
x_g (0 < g_np S) (x_let (s_ps S 4 0 v4) (fun S =>
x_let (g_sc S 504) (fun v5 =>
some (v5, S)))))))
set_option maxHeartbeats 4000000 in
set_option maxRecDepth 100000 in
theorem w_X5_parse_117 {r : Int32 × x_S} (hC : x_C p s m args meth c cX5_parse 4 RX5 E A) (hR : x_Ri p l e { frames := 5, cells := 0, slots := 0, locals := 116 } s m args below meth c cX5_parse E A Q (cw E ad ap r.2) r.1) (hI : x_I E A s.heap (cw E ad ap S) H locs) (hl : lv_has ls 4 [(0, .ref (ad 599))]) (hf : f_X5_parse_117 n S = some r) : W p l e { frames := 5, cells := 0, slots := 0, locals := 116 } s m args below meth c H locs 0 0 Q (F0 m 117 ls []) := by
  obtain ⟨hx, hb, hml, hown, hts, hK, hN, hA⟩ := id hC
  unfold f_X5_parse_117 at hf
  refine lv_aload_n hx hb dX5_parse_117 rfl (lv_at hl 0 rfl) ?_
  obtain ⟨S, hc2, hf⟩ := x_b_eq hf
  refine x_callV hC hI (c_X5_judgeAll hc2) 5 5 rfl rfl kv_X5_75 rfl ⟨Nat.le_of_ble_eq_true rfl, Nat.le_of_ble_eq_true rfl⟩ ⟨Nat.le_refl _, Nat.le_refl _⟩ hl.1 rfl (Nat.le_of_ble_eq_true rfl) dX5_parse_118 (fun H locs hI => ?_)
  refine lv_aload_n hx hb dX5_parse_121 rfl (lv_at hl 0 rfl) ?_
  refine gX5_0 hC hI lkf_X5_12 dX5_parse_122 ?_
  refine lv_aload_n hx hb dX5_parse_125 rfl (lv_at hl 0 rfl) ?_
  refine gX5_5 hC hI hf lkf_X5_32 dX5_parse_126 (fun v3 hf => ?_)
  refine lv_bipush (v := (60 : Int32)) hx hb dX5_parse_129 (by decide) ?_
  refine x_min hC hl.1 hf lkj_X5_78 lkj_min_st lkj_min_in lkj_min_co ⟨Nat.le_of_ble_eq_true rfl, Nat.le_of_ble_eq_true rfl⟩ ⟨Nat.le_refl _, Nat.le_refl _⟩ dX5_parse_131 (fun v4 hf => ?_)
  refine pX2_4 hC hI hf lkf_X5_84 dX5_parse_134 (fun S H locs hI hf => ?_)
  refine lv_aload_n hx hb dX5_parse_137 rfl (lv_at hl 0 rfl) ?_
  refine gX5_4 hC hI hf lkf_X5_29 dX5_parse_138 (fun v5 hf => ?_)
  obtain rfl := Option.some.inj hf
  exact hR _ _ _ _ hI dX5_parse_141
def f_X5_parse_111 (n : Nat) (rec50 : x_S × Int32 → Option (Int32 × x_S)) (S : x_S) (a3 : Int32) : Option (Int32 × x_S) :=
rec50 (S, (a3 + (1 : Int32)))
set_option maxHeartbeats 4000000 in
set_option maxRecDepth 100000 in
theorem w_X5_parse_111 {r : Int32 × x_S} {a3 : Int32} {rec50 : x_S × Int32 → Option (Int32 × x_S)} (hC : x_C p s m args meth c cX5_parse 4 RX5 E A) (hR : x_Ri p l e { frames := 5, cells := 0, slots := 0, locals := 116 } s m args below meth c cX5_parse E A Q (cw E ad ap r.2) r.1) (hrec50 : ∀ z : x_S × Int32, rec50 z = some r → ∀ (H : Heap) (locs : List Loc) (ls : Array Slot), x_I E A s.heap (cw E ad ap z.1) H locs → lv_has ls 4 [(0, .ref (ad 599)), (3, .int z.2)] → W p l e { frames := 5, cells := 0, slots := 0, locals := 116 } s m args below meth c H locs 0 0 Q (F0 m 50 ls [])) (hI : x_I E A s.heap (cw E ad ap S) H locs) (hl : lv_has ls 4 [(0, .ref (ad 599)), (3, .int a3)]) (hf : f_X5_parse_111 n rec50 S a3 = some r) : W p l e { frames := 5, cells := 0, slots := 0, locals := 116 } s m args below meth c H locs 0 0 Q (F0 m 111 ls []) := by
  obtain ⟨hx, hb, hml, hown, hts, hK, hN, hA⟩ := id hC
  unfold f_X5_parse_111 at hf
  refine lv_iinc (v := (a3 + (1 : Int32))) (lv' := [(3, .int (a3 + (1 : Int32))), (0, .ref (ad 599))]) hx hb dX5_parse_111 hl (k := 1) rfl rfl (by decide) rfl (fun ls hl => ?_)
  refine lv_goto (tgt := 50) hx hb dX5_parse_114 (by decide) ?_
  exact hrec50 _ hf _ _ _ hI (lv_sub hl [1, 0] rfl)
def f_X5_parse_50 (n : Nat) (rec50 : x_S × Int32 → Option (Int32 × x_S)) (S : x_S) (a3 : Int32) : Option (Int32 × x_S) :=
if (601 : Int32) ≤ a3 then
f_X5_parse_117 n S
else
x_let (g_sc S 504) (fun v6 =>
if v6 = 0 then
x_let (g_sc S 509) (fun v7 =>
if v7 ≤ 0 then
f_X5_parse_117 n S
else
x_let (g_sc S 509) (fun v8 =>
x_g (¬ ((v8 - (1 : Int32)) < 0 ∨ 61 ≤ ((v8 - (1 : Int32))).toNatClampNeg)) (x_let (g_ar S 510 ((v8 - (1 : Int32))).toNatClampNeg) (fun v9 =>
if v9 ≤ 0 then
x_b (f_X5_closeBody n S) (fun S =>
f_X5_parse_111 n rec50 S a3)
else
x_let (g_sc S 509) (fun v11 =>
x_g (¬ ((v11 - (1 : Int32)) < 0 ∨ 61 ≤ ((v11 - (1 : Int32))).toNatClampNeg)) (x_let (g_ar S 510 ((v11 - (1 : Int32))).toNatClampNeg) (fun v12 =>
x_g (¬ ((v11 - (1 : Int32)) < 0 ∨ 61 ≤ ((v11 - (1 : Int32))).toNatClampNeg)) (x_let (s_ar S 510 ((v11 - (1 : Int32))).toNatClampNeg (v12 - (1 : Int32))) (fun S =>
x_b (f_X5_takeStatement n S) (fun S =>
f_X5_parse_111 n rec50 S a3))))))))))
else
f_X5_parse_117 n S)
set_option maxHeartbeats 4000000 in
set_option maxRecDepth 100000 in
theorem w_X5_parse_50 {r : Int32 × x_S} {a3 : Int32} {rec50 : x_S × Int32 → Option (Int32 × x_S)} (hC : x_C p s m args meth c cX5_parse 4 RX5 E A) (hR : x_Ri p l e { frames := 5, cells := 0, slots := 0, locals := 116 } s m args below meth c cX5_parse E A Q (cw E ad ap r.2) r.1) (hrec50 : ∀ z : x_S × Int32, rec50 z = some r → ∀ (H : Heap) (locs : List Loc) (ls : Array Slot), x_I E A s.heap (cw E ad ap z.1) H locs → lv_has ls 4 [(0, .ref (ad 599)), (3, .int z.2)] → W p l e { frames := 5, cells := 0, slots := 0, locals := 116 } s m args below meth c H locs 0 0 Q (F0 m 50 ls [])) (hI : x_I E A s.heap (cw E ad ap S) H locs) (hl : lv_has ls 4 [(0, .ref (ad 599)), (3, .int a3)]) (hf : f_X5_parse_50 n rec50 S a3 = some r) : W p l e { frames := 5, cells := 0, slots := 0, locals := 116 } s m args below meth c H locs 0 0 Q (F0 m 50 ls []) := by
  obtain ⟨hx, hb, hml, hown, hts, hK, hN, hA⟩ := id hC
  unfold f_X5_parse_50 at hf
  refine lv_iload_n hx hb dX5_parse_50 rfl (lv_at hl 1 rfl) ?_
  refine lv_sipush (v := (601 : Int32)) hx hb dX5_parse_51 (by decide) ?_
  refine x_ige hC 117 hf dX5_parse_54 (by decide) (fun hf => ?_) (fun hf => ?_)
  · exact w_X5_parse_117 hC hR hI (lv_sub hl [0] rfl) hf
  · refine lv_aload_n hx hb dX5_parse_57 rfl (lv_at hl 0 rfl) ?_
    refine gX5_4 hC hI hf lkf_X5_29 dX5_parse_58 (fun v6 hf => ?_)
    refine x_ne0 hC 117 hf dX5_parse_61 (by decide) (fun hf => ?_) (fun hf => ?_)
    · exact w_X5_parse_117 hC hR hI (lv_sub hl [0] rfl) hf
    · refine lv_aload_n hx hb dX5_parse_64 rfl (lv_at hl 0 rfl) ?_
      refine gX5_9 hC hI hf lkf_X5_44 dX5_parse_65 (fun v7 hf => ?_)
      refine x_le0 hC 117 hf dX5_parse_68 (by decide) (fun hf => ?_) (fun hf => ?_)
      · exact w_X5_parse_117 hC hR hI (lv_sub hl [0] rfl) hf
      · refine lv_aload_n hx hb dX5_parse_71 rfl (lv_at hl 0 rfl) ?_
        refine gX5_10 hC hI lkf_X5_47 dX5_parse_72 ?_
        refine lv_aload_n hx hb dX5_parse_75 rfl (lv_at hl 0 rfl) ?_
        refine gX5_9 hC hI hf lkf_X5_44 dX5_parse_76 (fun v8 hf => ?_)
        refine lv_iconst (v := (1 : Int32)) hx hb dX5_parse_79 (by decide) ?_
        refine lv_isub hx hb dX5_parse_80 ?_
        refine aX5_10 hC hI hf dX5_parse_81 (fun v9 hf => ?_)
        refine x_le0 hC 107 hf dX5_parse_82 (by decide) (fun hf => ?_) (fun hf => ?_)
        · refine lv_aload_n hx hb dX5_parse_107 rfl (lv_at hl 0 rfl) ?_
          obtain ⟨S, hc10, hf⟩ := x_b_eq hf
          refine x_callV hC hI (c_X5_closeBody hc10) 5 5 rfl rfl kv_X5_72 rfl ⟨Nat.le_of_ble_eq_true rfl, Nat.le_of_ble_eq_true rfl⟩ ⟨Nat.le_refl _, Nat.le_refl _⟩ hl.1 rfl (Nat.le_of_ble_eq_true rfl) dX5_parse_108 (fun H locs hI => ?_)
          exact w_X5_parse_111 hC hR hrec50 hI (lv_sub hl [0, 1] rfl) hf
        · refine lv_aload_n hx hb dX5_parse_85 rfl (lv_at hl 0 rfl) ?_
          refine gX5_10 hC hI lkf_X5_47 dX5_parse_86 ?_
          refine lv_aload_n hx hb dX5_parse_89 rfl (lv_at hl 0 rfl) ?_
          refine gX5_9 hC hI hf lkf_X5_44 dX5_parse_90 (fun v11 hf => ?_)
          refine lv_iconst (v := (1 : Int32)) hx hb dX5_parse_93 (by decide) ?_
          refine lv_isub hx hb dX5_parse_94 ?_
          refine lv_dup2_11 hx hb dX5_parse_95 rfl rfl ?_
          refine aX5_10 hC hI hf dX5_parse_96 (fun v12 hf => ?_)
          refine lv_iconst (v := (1 : Int32)) hx hb dX5_parse_97 (by decide) ?_
          refine lv_isub hx hb dX5_parse_98 ?_
          refine tX5_10 hC hI hf dX5_parse_99 (fun S H locs hI hf => ?_)
          refine lv_aload_n hx hb dX5_parse_100 rfl (lv_at hl 0 rfl) ?_
          obtain ⟨S, hc13, hf⟩ := x_b_eq hf
          refine x_callV hC hI (c_X5_takeStatement hc13) 5 5 rfl rfl kv_X5_69 rfl ⟨Nat.le_of_ble_eq_true rfl, Nat.le_of_ble_eq_true rfl⟩ ⟨Nat.le_refl _, Nat.le_refl _⟩ hl.1 rfl (Nat.le_of_ble_eq_true rfl) dX5_parse_101 (fun H locs hI => ?_)
          refine lv_goto (tgt := 111) hx hb dX5_parse_104 (by decide) ?_
          exact w_X5_parse_111 hC hR hrec50 hI (lv_sub hl [0, 1] rfl) hf
theorem w_X5_parse_50_loop {r : Int32 × x_S} (hC : x_C p s m args meth c cX5_parse 4 RX5 E A) (hR : x_Ri p l e { frames := 5, cells := 0, slots := 0, locals := 116 } s m args below meth c cX5_parse E A Q (cw E ad ap r.2) r.1) : ∀ (k : Nat) (z : x_S × Int32), x_loop (fun rec z => f_X5_parse_50 n rec z.1 z.2) k z = some r → ∀ (H : Heap) (locs : List Loc) (ls : Array Slot), x_I E A s.heap (cw E ad ap z.1) H locs → lv_has ls 4 [(0, .ref (ad 599)), (3, .int z.2)] → W p l e { frames := 5, cells := 0, slots := 0, locals := 116 } s m args below meth c H locs 0 0 Q (F0 m 50 ls []) :=
  x_loop_ind (P := fun (z : x_S × Int32) => ∀ (H : Heap) (locs : List Loc) (ls : Array Slot), x_I E A s.heap (cw E ad ap z.1) H locs → lv_has ls 4 [(0, .ref (ad 599)), (3, .int z.2)] → W p l e { frames := 5, cells := 0, slots := 0, locals := 116 } s m args below meth c H locs 0 0 Q (F0 m 50 ls [])) (fun rec hrec z hf H locs ls hI hl => w_X5_parse_50 hC hR hrec hI hl hf)
def f_X5_parse (n : Nat) (S : x_S) (a2 : Int32) : Option (Int32 × x_S) :=
x_let (s_rf S 502 (some 0)) (fun S =>
x_let (s_sc S 503 a2) (fun S =>
x_let (s_sc S 501 (0 : Int32)) (fun S =>
x_let (s_sc S 504 (0 : Int32)) (fun S =>
x_let (s_sc S 505 (0 : Int32)) (fun S =>
x_let (s_sc S 506 (0 : Int32)) (fun S =>
x_let (s_sc S 507 (0 : Int32)) (fun S =>
x_let (s_sc S 509 (0 : Int32)) (fun S =>
x_b (f_X5_openBody n S (-1 : Int32) (-1 : Int32) (0 : Int32) (0 : Int32)) (fun S =>
x_loop (fun rec z => f_X5_parse_50 n rec z.1 z.2) n (S, (0 : Int32)))))))))))
set_option maxHeartbeats 4000000 in
set_option maxRecDepth 100000 in
theorem w_X5_parse {r : Int32 × x_S} {a2 : Int32} (hC : x_C p s m args meth c cX5_parse 4 RX5 E A) (hR : x_Ri p l e { frames := 5, cells := 0, slots := 0, locals := 116 } s m args below meth c cX5_parse E A Q (cw E ad ap r.2) r.1) (hI : x_I E A s.heap (cw E ad ap S) H locs) (hl : lv_has ls 4 [(0, .ref (ad 599)), (1, .ref (ad 605)), (2, .int a2)]) (hf : f_X5_parse n S a2 = some r) : W p l e { frames := 5, cells := 0, slots := 0, locals := 116 } s m args below meth c H locs 0 0 Q (F0 m 0 ls []) := by
  obtain ⟨hx, hb, hml, hown, hts, hK, hN, hA⟩ := id hC
  unfold f_X5_parse at hf
  refine lv_aload_n hx hb dX5_parse_0 rfl (lv_at hl 0 rfl) ?_
  refine lv_aload_n hx hb dX5_parse_1 rfl (lv_at hl 1 rfl) ?_
  refine pX5_2 hC hI hf lkf_X5_22 dX5_parse_2 (fun S H locs hI hf => ?_)
  refine lv_aload_n hx hb dX5_parse_5 rfl (lv_at hl 0 rfl) ?_
  refine lv_iload_n hx hb dX5_parse_6 rfl (lv_at hl 2 rfl) ?_
  refine pX5_3 hC hI hf lkf_X5_26 dX5_parse_7 (fun S H locs hI hf => ?_)
  refine lv_aload_n hx hb dX5_parse_10 rfl (lv_at hl 0 rfl) ?_
  refine lv_iconst (v := (0 : Int32)) hx hb dX5_parse_11 (by decide) ?_
  refine pX5_1 hC hI hf lkf_X5_18 dX5_parse_12 (fun S H locs hI hf => ?_)
  refine lv_aload_n hx hb dX5_parse_15 rfl (lv_at hl 0 rfl) ?_
  refine lv_iconst (v := (0 : Int32)) hx hb dX5_parse_16 (by decide) ?_
  refine pX5_4 hC hI hf lkf_X5_29 dX5_parse_17 (fun S H locs hI hf => ?_)
  refine lv_aload_n hx hb dX5_parse_20 rfl (lv_at hl 0 rfl) ?_
  refine lv_iconst (v := (0 : Int32)) hx hb dX5_parse_21 (by decide) ?_
  refine pX5_5 hC hI hf lkf_X5_32 dX5_parse_22 (fun S H locs hI hf => ?_)
  refine lv_aload_n hx hb dX5_parse_25 rfl (lv_at hl 0 rfl) ?_
  refine lv_iconst (v := (0 : Int32)) hx hb dX5_parse_26 (by decide) ?_
  refine pX5_6 hC hI hf lkf_X5_35 dX5_parse_27 (fun S H locs hI hf => ?_)
  refine lv_aload_n hx hb dX5_parse_30 rfl (lv_at hl 0 rfl) ?_
  refine lv_iconst (v := (0 : Int32)) hx hb dX5_parse_31 (by decide) ?_
  refine pX5_7 hC hI hf lkf_X5_38 dX5_parse_32 (fun S H locs hI hf => ?_)
  refine lv_aload_n hx hb dX5_parse_35 rfl (lv_at hl 0 rfl) ?_
  refine lv_iconst (v := (0 : Int32)) hx hb dX5_parse_36 (by decide) ?_
  refine pX5_9 hC hI hf lkf_X5_44 dX5_parse_37 (fun S H locs hI hf => ?_)
  refine lv_aload_n hx hb dX5_parse_40 rfl (lv_at hl 0 rfl) ?_
  refine lv_iconst (v := (-1 : Int32)) hx hb dX5_parse_41 (by decide) ?_
  refine lv_iconst (v := (-1 : Int32)) hx hb dX5_parse_42 (by decide) ?_
  refine lv_iconst (v := (0 : Int32)) hx hb dX5_parse_43 (by decide) ?_
  refine lv_iconst (v := (0 : Int32)) hx hb dX5_parse_44 (by decide) ?_
  obtain ⟨S, hc1, hf⟩ := x_b_eq hf
  refine x_callV hC hI (c_X5_openBody hc1) 5 5 rfl rfl kv_X5_65 rfl ⟨Nat.le_of_ble_eq_true rfl, Nat.le_of_ble_eq_true rfl⟩ ⟨Nat.le_refl _, Nat.le_refl _⟩ hl.1 rfl (Nat.le_of_ble_eq_true rfl) dX5_parse_45 (fun H locs hI => ?_)
  refine lv_iconst (v := (0 : Int32)) hx hb dX5_parse_48 (by decide) ?_
  refine lv_istore_n (lv' := [(3, .int (0 : Int32)), (0, .ref (ad 599)), (1, .ref (ad 605)), (2, .int a2)]) hx hb dX5_parse_49 rfl hl (by decide) rfl (fun ls hl => ?_)
  exact w_X5_parse_50_loop hC hR _ _ hf _ _ _ hI (lv_sub hl [1, 0] rfl)
theorem c_X5_parse {a2 : Int32} {v : Int32} {S1 : x_S} (hf : f_X5_parse n S a2 = some (v, S1)) : x_M l yX5_parse cX5_parse 4 (some .int) 5 116 E [.ref (ad 599), .ref (ad 605), .int a2] (cw E ad ap S) (cw E ad ap S1) (some (.int v)) :=
  x_entI (by decide) (Nat.le_of_ble_eq_true rfl) (fun p e s m args below meth c A Q ls hC hI hR hl => w_X5_parse (r := (v, S1)) hC hR hI hl hf)
-- X6_addRoutine
def f_X6_addRoutine (n : Nat) (S : x_S) (a1 : Nat) : Option (Int32 × x_S) :=
x_let (g_sc S 601) (fun v1 =>
if v1 < (12 : Int32) then
x_g (a1 < g_np S) (x_g (¬ (v1 < 0 ∨ 12 ≤ (v1).toNatClampNeg)) (x_let (s_ra S 600 (v1).toNatClampNeg (some a1)) (fun S =>
x_let (s_sc S 601 (v1 + (1 : Int32))) (fun S =>
some (v1, S)))))
else
some ((-4 : Int32), S))
set_option maxHeartbeats 4000000 in
set_option maxRecDepth 100000 in
theorem w_X6_addRoutine {r : Int32 × x_S} {a1 : Nat} (hC : x_C p s m args meth c cX6_addRoutine 3 RX6 E A) (hR : x_Ri p l e { frames := 0, cells := 0, slots := 0, locals := 0 } s m args below meth c cX6_addRoutine E A Q (cw E ad ap r.2) r.1) (hI : x_I E A s.heap (cw E ad ap S) H locs) (hl : lv_has ls 3 [(0, .ref (ad 699)), (1, .ref (ap a1 0))]) (hf : f_X6_addRoutine n S a1 = some r) : W p l e { frames := 0, cells := 0, slots := 0, locals := 0 } s m args below meth c H locs 0 0 Q (F0 m 0 ls []) := by
  obtain ⟨hx, hb, hml, hown, hts, hK, hN, hA⟩ := id hC
  unfold f_X6_addRoutine at hf
  refine lv_aload_n hx hb dX6_addRoutine_0 rfl (lv_at hl 0 rfl) ?_
  refine gX6_1 hC hI hf lkf_X6_15 dX6_addRoutine_1 (fun v1 hf => ?_)
  refine lv_istore_n (lv' := [(2, .int v1), (0, .ref (ad 699)), (1, .ref (ap a1 0))]) hx hb dX6_addRoutine_4 rfl hl (by decide) rfl (fun ls hl => ?_)
  refine lv_iload_n hx hb dX6_addRoutine_5 rfl (lv_at hl 0 rfl) ?_
  refine lv_bipush (v := (12 : Int32)) hx hb dX6_addRoutine_6 (by decide) ?_
  refine x_ilt hC 14 hf dX6_addRoutine_8 (by decide) (fun hf => ?_) (fun hf => ?_)
  · refine lv_aload_n hx hb dX6_addRoutine_14 rfl (lv_at hl 1 rfl) ?_
    refine gX6_0 hC hI lkf_X6_11 dX6_addRoutine_15 ?_
    refine lv_iload_n hx hb dX6_addRoutine_18 rfl (lv_at hl 0 rfl) ?_
    refine lv_aload_n hx hb dX6_addRoutine_19 rfl (lv_at hl 2 rfl) ?_
    refine tX6_0 hC hI hf dX6_addRoutine_20 (fun S H locs hI hf => ?_)
    refine lv_aload_n hx hb dX6_addRoutine_21 rfl (lv_at hl 1 rfl) ?_
    refine lv_iload_n hx hb dX6_addRoutine_22 rfl (lv_at hl 0 rfl) ?_
    refine lv_iconst (v := (1 : Int32)) hx hb dX6_addRoutine_23 (by decide) ?_
    refine lv_iadd hx hb dX6_addRoutine_24 ?_
    refine pX6_1 hC hI hf lkf_X6_15 dX6_addRoutine_25 (fun S H locs hI hf => ?_)
    refine lv_iload_n hx hb dX6_addRoutine_28 rfl (lv_at hl 0 rfl) ?_
    obtain rfl := Option.some.inj hf
    exact hR _ _ _ _ hI dX6_addRoutine_29
  · refine lv_bipush (v := (-4 : Int32)) hx hb dX6_addRoutine_11 (by decide) ?_
    obtain rfl := Option.some.inj hf
    exact hR _ _ _ _ hI dX6_addRoutine_13
theorem c_X6_addRoutine {a1 : Nat} {v : Int32} {S1 : x_S} (hf : f_X6_addRoutine n S a1 = some (v, S1)) : x_M l yX6_addRoutine cX6_addRoutine 3 (some .int) 0 0 E [.ref (ad 699), .ref (ap a1 0)] (cw E ad ap S) (cw E ad ap S1) (some (.int v)) :=
  x_entI (by decide) (Nat.le_of_ble_eq_true rfl) (fun p e s m args below meth c A Q ls hC hI hR hl => w_X6_addRoutine (r := (v, S1)) hC hR hI hl hf)
-- X2_takeOver
def f_X2_takeOver_10 (n : Nat) (rec10 : x_S × Nat × Nat × Int32 → Option (x_S)) (S : x_S) (a0 : Nat) (a1 : Nat) (a2 : Int32) : Option (x_S) :=
x_g (a0 < g_np S) (x_let (g_ps S 4 a0) (fun v2 =>
if v2 ≤ a2 then
x_g (a0 < g_np S) (x_b (f_X2_judgeWhole n S a0) (fun S =>
some S))
else
x_g (a1 < g_np S) (
x_g (a1 < g_np S) (x_g (¬ (a2 < 0 ∨ 60 ≤ (a2).toNatClampNeg)) (x_let (g_pa S 0 a1 (a2).toNatClampNeg) (fun v4 =>
x_g (a1 < g_np S) (
x_g (a1 < g_np S) (x_g (¬ (a2 < 0 ∨ 60 ≤ (a2).toNatClampNeg)) (x_let (g_pa S 1 a1 (a2).toNatClampNeg) (fun v5 =>
x_g (a1 < g_np S) (
x_g (a1 < g_np S) (x_g (¬ (a2 < 0 ∨ 60 ≤ (a2).toNatClampNeg)) (x_let (g_pa S 2 a1 (a2).toNatClampNeg) (fun v6 =>
x_g (a1 < g_np S) (
x_g (a1 < g_np S) (x_g (¬ (a2 < 0 ∨ 60 ≤ (a2).toNatClampNeg)) (x_let (g_pa S 3 a1 (a2).toNatClampNeg) (fun v7 =>
x_g (a0 < g_np S) (x_b (f_X2_put n S a0 a2 v4 v5 v6 v7) (fun S =>
rec10 (S, a0, a1, (a2 + (1 : Int32)))))))))))))))))))))))
set_option maxHeartbeats 4000000 in
set_option maxRecDepth 100000 in
theorem w_X2_takeOver_10 {r : x_S} {a0 : Nat} {a1 : Nat} {a2 : Int32} {rec10 : x_S × Nat × Nat × Int32 → Option (x_S)} (hC : x_C p s m args meth c cX2_takeOver 3 RX2 E A) (hR : x_Rv p l e { frames := 2, cells := 0, slots := 0, locals := 45 } s m args below meth c cX2_takeOver E A Q (cw E ad ap r)) (hrec10 : ∀ z : x_S × Nat × Nat × Int32, rec10 z = some r → ∀ (H : Heap) (locs : List Loc) (ls : Array Slot), x_I E A s.heap (cw E ad ap z.1) H locs → lv_has ls 3 [(0, .ref (ap z.2.1 0)), (1, .ref (ap z.2.2.1 0)), (2, .int z.2.2.2)] → W p l e { frames := 2, cells := 0, slots := 0, locals := 45 } s m args below meth c H locs 0 0 Q (F0 m 10 ls [])) (hI : x_I E A s.heap (cw E ad ap S) H locs) (hl : lv_has ls 3 [(0, .ref (ap a0 0)), (1, .ref (ap a1 0)), (2, .int a2)]) (hf : f_X2_takeOver_10 n rec10 S a0 a1 a2 = some r) : W p l e { frames := 2, cells := 0, slots := 0, locals := 45 } s m args below meth c H locs 0 0 Q (F0 m 10 ls []) := by
  obtain ⟨hx, hb, hml, hown, hts, hK, hN, hA⟩ := id hC
  unfold f_X2_takeOver_10 at hf
  refine lv_iload_n hx hb dX2_takeOver_10 rfl (lv_at hl 2 rfl) ?_
  refine lv_aload_n hx hb dX2_takeOver_11 rfl (lv_at hl 0 rfl) ?_
  refine gX2_4 hC hI hf lkf_X2_24 dX2_takeOver_12 (fun v2 hf => ?_)
  refine x_ige hC 53 hf dX2_takeOver_15 (by decide) (fun hf => ?_) (fun hf => ?_)
  · refine lv_aload_n hx hb dX2_takeOver_53 rfl (lv_at hl 0 rfl) ?_
    obtain ⟨h9, hf⟩ := x_g_eq hf
    obtain ⟨S, hc3, hf⟩ := x_b_eq hf
    refine x_callV hC hI (c_X2_judgeWhole hc3) (36 + (5 * a0 + 0)) 2 (x_cw_get E ad ap _ a0 0 (by decide) h9) rfl kv_X2_46 rfl ⟨Nat.le_of_ble_eq_true rfl, Nat.le_of_ble_eq_true rfl⟩ ⟨Nat.le_refl _, Nat.le_refl _⟩ hl.1 rfl (Nat.le_of_ble_eq_true rfl) dX2_takeOver_54 (fun H locs hI => ?_)
    obtain rfl := Option.some.inj hf
    exact hR _ _ _ _ hI dX2_takeOver_57
  · refine lv_aload_n hx hb dX2_takeOver_18 rfl (lv_at hl 0 rfl) ?_
    refine lv_iload_n hx hb dX2_takeOver_19 rfl (lv_at hl 2 rfl) ?_
    refine lv_aload_n hx hb dX2_takeOver_20 rfl (lv_at hl 1 rfl) ?_
    refine gX2_0 hC hI hf lkf_X2_9 dX2_takeOver_21 (fun hf => ?_)
    refine lv_iload_n hx hb dX2_takeOver_24 rfl (lv_at hl 2 rfl) ?_
    refine aX2_0 hC hI hf dX2_takeOver_25 (fun v4 hf => ?_)
    refine lv_aload_n hx hb dX2_takeOver_26 rfl (lv_at hl 1 rfl) ?_
    refine gX2_1 hC hI hf lkf_X2_15 dX2_takeOver_27 (fun hf => ?_)
    refine lv_iload_n hx hb dX2_takeOver_30 rfl (lv_at hl 2 rfl) ?_
    refine aX2_1 hC hI hf dX2_takeOver_31 (fun v5 hf => ?_)
    refine lv_aload_n hx hb dX2_takeOver_32 rfl (lv_at hl 1 rfl) ?_
    refine gX2_2 hC hI hf lkf_X2_18 dX2_takeOver_33 (fun hf => ?_)
    refine lv_iload_n hx hb dX2_takeOver_36 rfl (lv_at hl 2 rfl) ?_
    refine aX2_2 hC hI hf dX2_takeOver_37 (fun v6 hf => ?_)
    refine lv_aload_n hx hb dX2_takeOver_38 rfl (lv_at hl 1 rfl) ?_
    refine gX2_3 hC hI hf lkf_X2_21 dX2_takeOver_39 (fun hf => ?_)
    refine lv_iload_n hx hb dX2_takeOver_42 rfl (lv_at hl 2 rfl) ?_
    refine aX2_3 hC hI hf dX2_takeOver_43 (fun v7 hf => ?_)
    obtain ⟨h9, hf⟩ := x_g_eq hf
    obtain ⟨S, hc8, hf⟩ := x_b_eq hf
    refine x_callV hC hI (c_X2_put hc8) (36 + (5 * a0 + 0)) 2 (x_cw_get E ad ap _ a0 0 (by decide) h9) rfl kv_X2_42 rfl ⟨Nat.le_of_ble_eq_true rfl, Nat.le_of_ble_eq_true rfl⟩ ⟨Nat.le_refl _, Nat.le_refl _⟩ hl.1 rfl (Nat.le_of_ble_eq_true rfl) dX2_takeOver_44 (fun H locs hI => ?_)
    refine lv_iinc (v := (a2 + (1 : Int32))) (lv' := [(2, .int (a2 + (1 : Int32))), (0, .ref (ap a0 0)), (1, .ref (ap a1 0))]) hx hb dX2_takeOver_47 hl (k := 2) rfl rfl (by decide) rfl (fun ls hl => ?_)
    refine lv_goto (tgt := 10) hx hb dX2_takeOver_50 (by decide) ?_
    exact hrec10 _ hf _ _ _ hI (lv_sub hl [1, 2, 0] rfl)
theorem w_X2_takeOver_10_loop {r : x_S} (hC : x_C p s m args meth c cX2_takeOver 3 RX2 E A) (hR : x_Rv p l e { frames := 2, cells := 0, slots := 0, locals := 45 } s m args below meth c cX2_takeOver E A Q (cw E ad ap r)) : ∀ (k : Nat) (z : x_S × Nat × Nat × Int32), x_loop (fun rec z => f_X2_takeOver_10 n rec z.1 z.2.1 z.2.2.1 z.2.2.2) k z = some r → ∀ (H : Heap) (locs : List Loc) (ls : Array Slot), x_I E A s.heap (cw E ad ap z.1) H locs → lv_has ls 3 [(0, .ref (ap z.2.1 0)), (1, .ref (ap z.2.2.1 0)), (2, .int z.2.2.2)] → W p l e { frames := 2, cells := 0, slots := 0, locals := 45 } s m args below meth c H locs 0 0 Q (F0 m 10 ls []) :=
  x_loop_ind (P := fun (z : x_S × Nat × Nat × Int32) => ∀ (H : Heap) (locs : List Loc) (ls : Array Slot), x_I E A s.heap (cw E ad ap z.1) H locs → lv_has ls 3 [(0, .ref (ap z.2.1 0)), (1, .ref (ap z.2.2.1 0)), (2, .int z.2.2.2)] → W p l e { frames := 2, cells := 0, slots := 0, locals := 45 } s m args below meth c H locs 0 0 Q (F0 m 10 ls [])) (fun rec hrec z hf H locs ls hI hl => w_X2_takeOver_10 hC hR hrec hI hl hf)
def f_X2_takeOver (n : Nat) (S : x_S) (a0 : Nat) (a1 : Nat) : Option (x_S) :=
x_g (a1 < g_np S) (x_let (g_ps S 4 a1) (fun v1 =>
x_g (a0 < g_np S) (x_let (s_ps S 4 a0 v1) (fun S =>
x_loop (fun rec z => f_X2_takeOver_10 n rec z.1 z.2.1 z.2.2.1 z.2.2.2) n (S, a0, a1, (0 : Int32))))))
set_option maxHeartbeats 4000000 in
set_option maxRecDepth 100000 in
theorem w_X2_takeOver {r : x_S} {a0 : Nat} {a1 : Nat} (hC : x_C p s m args meth c cX2_takeOver 3 RX2 E A) (hR : x_Rv p l e { frames := 2, cells := 0, slots := 0, locals := 45 } s m args below meth c cX2_takeOver E A Q (cw E ad ap r)) (hI : x_I E A s.heap (cw E ad ap S) H locs) (hl : lv_has ls 3 [(0, .ref (ap a0 0)), (1, .ref (ap a1 0))]) (hf : f_X2_takeOver n S a0 a1 = some r) : W p l e { frames := 2, cells := 0, slots := 0, locals := 45 } s m args below meth c H locs 0 0 Q (F0 m 0 ls []) := by
  obtain ⟨hx, hb, hml, hown, hts, hK, hN, hA⟩ := id hC
  unfold f_X2_takeOver at hf
  refine lv_aload_n hx hb dX2_takeOver_0 rfl (lv_at hl 0 rfl) ?_
  refine lv_aload_n hx hb dX2_takeOver_1 rfl (lv_at hl 1 rfl) ?_
  refine gX2_4 hC hI hf lkf_X2_24 dX2_takeOver_2 (fun v1 hf => ?_)
  refine pX2_4 hC hI hf lkf_X2_24 dX2_takeOver_5 (fun S H locs hI hf => ?_)
  refine lv_iconst (v := (0 : Int32)) hx hb dX2_takeOver_8 (by decide) ?_
  refine lv_istore_n (lv' := [(2, .int (0 : Int32)), (0, .ref (ap a0 0)), (1, .ref (ap a1 0))]) hx hb dX2_takeOver_9 rfl hl (by decide) rfl (fun ls hl => ?_)
  exact w_X2_takeOver_10_loop hC hR _ _ hf _ _ _ hI (lv_sub hl [1, 2, 0] rfl)
theorem c_X2_takeOver {a0 : Nat} {a1 : Nat} {S1 : x_S} (hf : f_X2_takeOver n S a0 a1 = some S1) : x_M l yX2_takeOver cX2_takeOver 3 none 2 45 E [.ref (ap a0 0), .ref (ap a1 0)] (cw E ad ap S) (cw E ad ap S1) none :=
  x_entV (by decide) (Nat.le_of_ble_eq_true rfl) (fun p e s m args below meth c A Q ls hC hI hR hl => w_X2_takeOver (r := S1) hC hR hI hl hf)
end
