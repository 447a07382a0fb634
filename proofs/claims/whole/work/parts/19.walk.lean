section
variable {p : Program} {l : Launch} {e : Env} {s : State} {m : MethodId} {args : Array Value} {below : List Frame} {meth : Method} {c : Code} {H : Heap} {locs : List Loc} {Q : State → Prop}
variable {E : x_E} {A : Nat → Prop} {ls : Array Slot} {ad : Nat → Nat} {ap : Nat → Nat → Nat} {S : x_S} {w : va_W} {n : Nat}
-- X7_areLike
def f_X7_areLike_130 (n : Nat) (rec24 : x_S × Int32 × Int32 × Int32 × Int32 → Option (Int32 × x_S)) (S : x_S) (a1 : Int32) (a2 : Int32) (a4 : Int32) (t0 : Int32) : Option (Int32 × x_S) :=
rec24 (S, a1, a2, t0, (a4 + (1 : Int32)))
set_option maxHeartbeats 4000000 in
set_option maxRecDepth 100000 in
theorem w_X7_areLike_130 {r : Int32 × x_S} {a1 : Int32} {a2 : Int32} {a4 : Int32} {t0 : Int32} {rec24 : x_S × Int32 × Int32 × Int32 × Int32 → Option (Int32 × x_S)} (hC : x_C p s m args meth c cX7_areLike 7 RX7 E A) (hR : x_Rz p l e { frames := 0, cells := 0, slots := 0, locals := 0 } s m args below meth c cX7_areLike E A Q (mw E ad r.2) r.1) (hrec24 : ∀ z : x_S × Int32 × Int32 × Int32 × Int32, rec24 z = some r → ∀ (H : Heap) (locs : List Loc) (ls : Array Slot), x_I E A s.heap (mw E ad z.1) H locs → lv_has ls 7 [(0, .ref (ad 799)), (1, .int z.2.1), (2, .int z.2.2.1), (3, .int z.2.2.2.1), (4, .int z.2.2.2.2)] → W p l e { frames := 0, cells := 0, slots := 0, locals := 0 } s m args below meth c H locs 0 0 Q (F0 m 24 ls [])) (hI : x_I E A s.heap (mw E ad S) H locs) (hl : lv_has ls 7 [(0, .ref (ad 799)), (1, .int a1), (2, .int a2), (4, .int a4)]) (hf : f_X7_areLike_130 n rec24 S a1 a2 a4 t0 = some r) : W p l e { frames := 0, cells := 0, slots := 0, locals := 0 } s m args below meth c H locs 0 0 Q (F0 m 130 ls [.int t0]) := by
  obtain ⟨hx, hb, hml, hown, hts, hK, hN, hA⟩ := id hC
  unfold f_X7_areLike_130 at hf
  refine lv_istore_n (lv' := [(3, .int t0), (0, .ref (ad 799)), (1, .int a1), (2, .int a2), (4, .int a4)]) hx hb dX7_areLike_130 rfl hl (by decide) rfl (fun ls hl => ?_)
  refine lv_iinc (v := (a4 + (1 : Int32))) (lv' := [(4, .int (a4 + (1 : Int32))), (3, .int t0), (0, .ref (ad 799)), (1, .int a1), (2, .int a2)]) hx hb dX7_areLike_131 hl (k := 4) rfl rfl (by decide) rfl (fun ls hl => ?_)
  refine lv_goto (tgt := 24) hx hb dX7_areLike_134 (by decide) ?_
  exact hrec24 _ hf _ _ _ hI (lv_sub hl [2, 3, 4, 1, 0] rfl)
def f_X7_areLike_129 (n : Nat) (rec24 : x_S × Int32 × Int32 × Int32 × Int32 → Option (Int32 × x_S)) (S : x_S) (a1 : Int32) (a2 : Int32) (a4 : Int32) : Option (Int32 × x_S) :=
f_X7_areLike_130 n rec24 S a1 a2 a4 (0 : Int32)
set_option maxHeartbeats 4000000 in
set_option maxRecDepth 100000 in
theorem w_X7_areLike_129 {r : Int32 × x_S} {a1 : Int32} {a2 : Int32} {a4 : Int32} {rec24 : x_S × Int32 × Int32 × Int32 × Int32 → Option (Int32 × x_S)} (hC : x_C p s m args meth c cX7_areLike 7 RX7 E A) (hR : x_Rz p l e { frames := 0, cells := 0, slots := 0, locals := 0 } s m args below meth c cX7_areLike E A Q (mw E ad r.2) r.1) (hrec24 : ∀ z : x_S × Int32 × Int32 × Int32 × Int32, rec24 z = some r → ∀ (H : Heap) (locs : List Loc) (ls : Array Slot), x_I E A s.heap (mw E ad z.1) H locs → lv_has ls 7 [(0, .ref (ad 799)), (1, .int z.2.1), (2, .int z.2.2.1), (3, .int z.2.2.2.1), (4, .int z.2.2.2.2)] → W p l e { frames := 0, cells := 0, slots := 0, locals := 0 } s m args below meth c H locs 0 0 Q (F0 m 24 ls [])) (hI : x_I E A s.heap (mw E ad S) H locs) (hl : lv_has ls 7 [(0, .ref (ad 799)), (1, .int a1), (2, .int a2), (4, .int a4)]) (hf : f_X7_areLike_129 n rec24 S a1 a2 a4 = some r) : W p l e { frames := 0, cells := 0, slots := 0, locals := 0 } s m args below meth c H locs 0 0 Q (F0 m 129 ls []) := by
  obtain ⟨hx, hb, hml, hown, hts, hK, hN, hA⟩ := id hC
  unfold f_X7_areLike_129 at hf
  refine lv_iconst (v := (0 : Int32)) hx hb dX7_areLike_129 (by decide) ?_
  exact w_X7_areLike_130 hC hR hrec24 hI (lv_sub hl [0, 1, 2, 3] rfl) hf
def f_X7_areLike_24 (n : Nat) (rec24 : x_S × Int32 × Int32 × Int32 × Int32 → Option (Int32 × x_S)) (S : x_S) (a1 : Int32) (a2 : Int32) (a3 : Int32) (a4 : Int32) : Option (Int32 × x_S) :=
x_g (¬ (a1 < 0 ∨ 12 ≤ (a1).toNatClampNeg)) (x_let (g_ar S 701 (a1).toNatClampNeg) (fun v3 =>
if v3 ≤ a4 then
x_g (a3 = 0 ∨ a3 = 1) (some (a3, S))
else
if a3 = 0 then
x_g (a3 = 0 ∨ a3 = 1) (some (a3, S))
else
x_g (¬ ((((60 : Int32) * a1) + a4) < 0 ∨ 720 ≤ ((((60 : Int32) * a1) + a4)).toNatClampNeg)) (x_let (g_ar S 702 ((((60 : Int32) * a1) + a4)).toNatClampNeg) (fun v4 =>
x_g (¬ ((((60 : Int32) * a2) + a4) < 0 ∨ 720 ≤ ((((60 : Int32) * a2) + a4)).toNatClampNeg)) (x_let (g_ar S 702 ((((60 : Int32) * a2) + a4)).toNatClampNeg) (fun v5 =>
if v4 = v5 then
x_g (¬ ((((60 : Int32) * a1) + a4) < 0 ∨ 720 ≤ ((((60 : Int32) * a1) + a4)).toNatClampNeg)) (x_let (g_ar S 703 ((((60 : Int32) * a1) + a4)).toNatClampNeg) (fun v6 =>
x_g (¬ ((((60 : Int32) * a2) + a4) < 0 ∨ 720 ≤ ((((60 : Int32) * a2) + a4)).toNatClampNeg)) (x_let (g_ar S 703 ((((60 : Int32) * a2) + a4)).toNatClampNeg) (fun v7 =>
if v6 = v7 then
x_g (¬ ((((60 : Int32) * a1) + a4) < 0 ∨ 720 ≤ ((((60 : Int32) * a1) + a4)).toNatClampNeg)) (x_let (g_ar S 704 ((((60 : Int32) * a1) + a4)).toNatClampNeg) (fun v8 =>
x_g (¬ ((((60 : Int32) * a2) + a4) < 0 ∨ 720 ≤ ((((60 : Int32) * a2) + a4)).toNatClampNeg)) (x_let (g_ar S 704 ((((60 : Int32) * a2) + a4)).toNatClampNeg) (fun v9 =>
if v8 = v9 then
x_g (¬ ((((60 : Int32) * a1) + a4) < 0 ∨ 720 ≤ ((((60 : Int32) * a1) + a4)).toNatClampNeg)) (x_let (g_ar S 705 ((((60 : Int32) * a1) + a4)).toNatClampNeg) (fun v10 =>
x_g (¬ ((((60 : Int32) * a2) + a4) < 0 ∨ 720 ≤ ((((60 : Int32) * a2) + a4)).toNatClampNeg)) (x_let (g_ar S 705 ((((60 : Int32) * a2) + a4)).toNatClampNeg) (fun v11 =>
if v10 = v11 then
f_X7_areLike_130 n rec24 S a1 a2 a4 (1 : Int32)
else
f_X7_areLike_129 n rec24 S a1 a2 a4))))
else
f_X7_areLike_129 n rec24 S a1 a2 a4))))
else
f_X7_areLike_129 n rec24 S a1 a2 a4))))
else
f_X7_areLike_129 n rec24 S a1 a2 a4))))))
set_option maxHeartbeats 4000000 in
set_option maxRecDepth 100000 in
theorem w_X7_areLike_24 {r : Int32 × x_S} {a1 : Int32} {a2 : Int32} {a3 : Int32} {a4 : Int32} {rec24 : x_S × Int32 × Int32 × Int32 × Int32 → Option (Int32 × x_S)} (hC : x_C p s m args meth c cX7_areLike 7 RX7 E A) (hR : x_Rz p l e { frames := 0, cells := 0, slots := 0, locals := 0 } s m args below meth c cX7_areLike E A Q (mw E ad r.2) r.1) (hrec24 : ∀ z : x_S × Int32 × Int32 × Int32 × Int32, rec24 z = some r → ∀ (H : Heap) (locs : List Loc) (ls : Array Slot), x_I E A s.heap (mw E ad z.1) H locs → lv_has ls 7 [(0, .ref (ad 799)), (1, .int z.2.1), (2, .int z.2.2.1), (3, .int z.2.2.2.1), (4, .int z.2.2.2.2)] → W p l e { frames := 0, cells := 0, slots := 0, locals := 0 } s m args below meth c H locs 0 0 Q (F0 m 24 ls [])) (hI : x_I E A s.heap (mw E ad S) H locs) (hl : lv_has ls 7 [(0, .ref (ad 799)), (1, .int a1), (2, .int a2), (3, .int a3), (4, .int a4)]) (hf : f_X7_areLike_24 n rec24 S a1 a2 a3 a4 = some r) : W p l e { frames := 0, cells := 0, slots := 0, locals := 0 } s m args below meth c H locs 0 0 Q (F0 m 24 ls []) := by
  obtain ⟨hx, hb, hml, hown, hts, hK, hN, hA⟩ := id hC
  unfold f_X7_areLike_24 at hf
  refine lv_iload hx hb dX7_areLike_24 (lv_at hl 4 rfl) ?_
  refine lv_aload_n hx hb dX7_areLike_26 rfl (lv_at hl 0 rfl) ?_
  refine gX7_1 hC hI lkf_X7_7 dX7_areLike_27 ?_
  refine lv_iload_n hx hb dX7_areLike_30 rfl (lv_at hl 1 rfl) ?_
  refine aX7_1 hC hI hf dX7_areLike_31 (fun v3 hf => ?_)
  refine x_ige hC 137 hf dX7_areLike_32 (by decide) (fun hf => ?_) (fun hf => ?_)
  · refine lv_iload_n hx hb dX7_areLike_137 rfl (lv_at hl 3 rfl) ?_
    obtain ⟨h9, hf⟩ := x_g_eq hf
    obtain rfl := Option.some.inj hf
    exact hR _ _ _ _ h9 hI dX7_areLike_138
  · refine lv_iload_n hx hb dX7_areLike_35 rfl (lv_at hl 3 rfl) ?_
    refine x_eq0 hC 137 hf dX7_areLike_36 (by decide) (fun hf => ?_) (fun hf => ?_)
    · refine lv_iload_n hx hb dX7_areLike_137 rfl (lv_at hl 3 rfl) ?_
      obtain ⟨h9, hf⟩ := x_g_eq hf
      obtain rfl := Option.some.inj hf
      exact hR _ _ _ _ h9 hI dX7_areLike_138
    · refine lv_bipush (v := (60 : Int32)) hx hb dX7_areLike_39 (by decide) ?_
      refine lv_iload_n hx hb dX7_areLike_41 rfl (lv_at hl 1 rfl) ?_
      refine lv_imul hx hb dX7_areLike_42 ?_
      refine lv_iload hx hb dX7_areLike_43 (lv_at hl 4 rfl) ?_
      refine lv_iadd hx hb dX7_areLike_45 ?_
      refine lv_istore (lv' := [(5, .int (((60 : Int32) * a1) + a4)), (0, .ref (ad 799)), (1, .int a1), (2, .int a2), (3, .int a3), (4, .int a4)]) hx hb dX7_areLike_46 hl (by decide) rfl (fun ls hl => ?_)
      refine lv_bipush (v := (60 : Int32)) hx hb dX7_areLike_48 (by decide) ?_
      refine lv_iload_n hx hb dX7_areLike_50 rfl (lv_at hl 3 rfl) ?_
      refine lv_imul hx hb dX7_areLike_51 ?_
      refine lv_iload hx hb dX7_areLike_52 (lv_at hl 5 rfl) ?_
      refine lv_iadd hx hb dX7_areLike_54 ?_
      refine lv_istore (lv' := [(6, .int (((60 : Int32) * a2) + a4)), (5, .int (((60 : Int32) * a1) + a4)), (0, .ref (ad 799)), (1, .int a1), (2, .int a2), (3, .int a3), (4, .int a4)]) hx hb dX7_areLike_55 hl (by decide) rfl (fun ls hl => ?_)
      refine lv_aload_n hx hb dX7_areLike_57 rfl (lv_at hl 2 rfl) ?_
      refine gX7_2 hC hI lkf_X7_13 dX7_areLike_58 ?_
      refine lv_iload hx hb dX7_areLike_61 (lv_at hl 1 rfl) ?_
      refine aX7_2 hC hI hf dX7_areLike_63 (fun v4 hf => ?_)
      refine lv_aload_n hx hb dX7_areLike_64 rfl (lv_at hl 2 rfl) ?_
      refine gX7_2 hC hI lkf_X7_13 dX7_areLike_65 ?_
      refine lv_iload hx hb dX7_areLike_68 (lv_at hl 0 rfl) ?_
      refine aX7_2 hC hI hf dX7_areLike_70 (fun v5 hf => ?_)
      refine x_ine hC 129 hf dX7_areLike_71 (by decide) (fun hf => ?_) (fun hf => ?_)
      · exact w_X7_areLike_129 hC hR hrec24 hI (lv_sub hl [2, 3, 4, 6] rfl) hf
      · refine lv_aload_n hx hb dX7_areLike_74 rfl (lv_at hl 2 rfl) ?_
        refine gX7_3 hC hI lkf_X7_16 dX7_areLike_75 ?_
        refine lv_iload hx hb dX7_areLike_78 (lv_at hl 1 rfl) ?_
        refine aX7_3 hC hI hf dX7_areLike_80 (fun v6 hf => ?_)
        refine lv_aload_n hx hb dX7_areLike_81 rfl (lv_at hl 2 rfl) ?_
        refine gX7_3 hC hI lkf_X7_16 dX7_areLike_82 ?_
        refine lv_iload hx hb dX7_areLike_85 (lv_at hl 0 rfl) ?_
        refine aX7_3 hC hI hf dX7_areLike_87 (fun v7 hf => ?_)
        refine x_ine hC 129 hf dX7_areLike_88 (by decide) (fun hf => ?_) (fun hf => ?_)
        · exact w_X7_areLike_129 hC hR hrec24 hI (lv_sub hl [2, 3, 4, 6] rfl) hf
        · refine lv_aload_n hx hb dX7_areLike_91 rfl (lv_at hl 2 rfl) ?_
          refine gX7_4 hC hI lkf_X7_19 dX7_areLike_92 ?_
          refine lv_iload hx hb dX7_areLike_95 (lv_at hl 1 rfl) ?_
          refine aX7_4 hC hI hf dX7_areLike_97 (fun v8 hf => ?_)
          refine lv_aload_n hx hb dX7_areLike_98 rfl (lv_at hl 2 rfl) ?_
          refine gX7_4 hC hI lkf_X7_19 dX7_areLike_99 ?_
          refine lv_iload hx hb dX7_areLike_102 (lv_at hl 0 rfl) ?_
          refine aX7_4 hC hI hf dX7_areLike_104 (fun v9 hf => ?_)
          refine x_ine hC 129 hf dX7_areLike_105 (by decide) (fun hf => ?_) (fun hf => ?_)
          · exact w_X7_areLike_129 hC hR hrec24 hI (lv_sub hl [2, 3, 4, 6] rfl) hf
          · refine lv_aload_n hx hb dX7_areLike_108 rfl (lv_at hl 2 rfl) ?_
            refine gX7_5 hC hI lkf_X7_22 dX7_areLike_109 ?_
            refine lv_iload hx hb dX7_areLike_112 (lv_at hl 1 rfl) ?_
            refine aX7_5 hC hI hf dX7_areLike_114 (fun v10 hf => ?_)
            refine lv_aload_n hx hb dX7_areLike_115 rfl (lv_at hl 2 rfl) ?_
            refine gX7_5 hC hI lkf_X7_22 dX7_areLike_116 ?_
            refine lv_iload hx hb dX7_areLike_119 (lv_at hl 0 rfl) ?_
            refine aX7_5 hC hI hf dX7_areLike_121 (fun v11 hf => ?_)
            refine x_ine hC 129 hf dX7_areLike_122 (by decide) (fun hf => ?_) (fun hf => ?_)
            · exact w_X7_areLike_129 hC hR hrec24 hI (lv_sub hl [2, 3, 4, 6] rfl) hf
            · refine lv_iconst (v := (1 : Int32)) hx hb dX7_areLike_125 (by decide) ?_
              refine lv_goto (tgt := 130) hx hb dX7_areLike_126 (by decide) ?_
              exact w_X7_areLike_130 hC hR hrec24 hI (lv_sub hl [2, 3, 4, 6] rfl) hf
theorem w_X7_areLike_24_loop {r : Int32 × x_S} (hC : x_C p s m args meth c cX7_areLike 7 RX7 E A) (hR : x_Rz p l e { frames := 0, cells := 0, slots := 0, locals := 0 } s m args below meth c cX7_areLike E A Q (mw E ad r.2) r.1) : ∀ (k : Nat) (z : x_S × Int32 × Int32 × Int32 × Int32), x_loop (fun rec z => f_X7_areLike_24 n rec z.1 z.2.1 z.2.2.1 z.2.2.2.1 z.2.2.2.2) k z = some r → ∀ (H : Heap) (locs : List Loc) (ls : Array Slot), x_I E A s.heap (mw E ad z.1) H locs → lv_has ls 7 [(0, .ref (ad 799)), (1, .int z.2.1), (2, .int z.2.2.1), (3, .int z.2.2.2.1), (4, .int z.2.2.2.2)] → W p l e { frames := 0, cells := 0, slots := 0, locals := 0 } s m args below meth c H locs 0 0 Q (F0 m 24 ls []) :=
  x_loop_ind (P := fun (z : x_S × Int32 × Int32 × Int32 × Int32) => ∀ (H : Heap) (locs : List Loc) (ls : Array Slot), x_I E A s.heap (mw E ad z.1) H locs → lv_has ls 7 [(0, .ref (ad 799)), (1, .int z.2.1), (2, .int z.2.2.1), (3, .int z.2.2.2.1), (4, .int z.2.2.2.2)] → W p l e { frames := 0, cells := 0, slots := 0, locals := 0 } s m args below meth c H locs 0 0 Q (F0 m 24 ls [])) (fun rec hrec z hf H locs ls hI hl => w_X7_areLike_24 hC hR hrec hI hl hf)
def f_X7_areLike_20 (n : Nat) (S : x_S) (a1 : Int32) (a2 : Int32) (t0 : Int32) : Option (Int32 × x_S) :=
x_loop (fun rec z => f_X7_areLike_24 n rec z.1 z.2.1 z.2.2.1 z.2.2.2.1 z.2.2.2.2) n (S, a1, a2, t0, (0 : Int32))
set_option maxHeartbeats 4000000 in
set_option maxRecDepth 100000 in
theorem w_X7_areLike_20 {r : Int32 × x_S} {a1 : Int32} {a2 : Int32} {t0 : Int32} (hC : x_C p s m args meth c cX7_areLike 7 RX7 E A) (hR : x_Rz p l e { frames := 0, cells := 0, slots := 0, locals := 0 } s m args below meth c cX7_areLike E A Q (mw E ad r.2) r.1) (hI : x_I E A s.heap (mw E ad S) H locs) (hl : lv_has ls 7 [(0, .ref (ad 799)), (1, .int a1), (2, .int a2)]) (hf : f_X7_areLike_20 n S a1 a2 t0 = some r) : W p l e { frames := 0, cells := 0, slots := 0, locals := 0 } s m args below meth c H locs 0 0 Q (F0 m 20 ls [.int t0]) := by
  obtain ⟨hx, hb, hml, hown, hts, hK, hN, hA⟩ := id hC
  unfold f_X7_areLike_20 at hf
  refine lv_istore_n (lv' := [(3, .int t0), (0, .ref (ad 799)), (1, .int a1), (2, .int a2)]) hx hb dX7_areLike_20 rfl hl (by decide) rfl (fun ls hl => ?_)
  refine lv_iconst (v := (0 : Int32)) hx hb dX7_areLike_21 (by decide) ?_
  refine lv_istore (lv' := [(4, .int (0 : Int32)), (3, .int t0), (0, .ref (ad 799)), (1, .int a1), (2, .int a2)]) hx hb dX7_areLike_22 hl (by decide) rfl (fun ls hl => ?_)
  exact w_X7_areLike_24_loop hC hR _ _ hf _ _ _ hI (lv_sub hl [2, 3, 4, 1, 0] rfl)
def f_X7_areLike (n : Nat) (S : x_S) (a1 : Int32) (a2 : Int32) : Option (Int32 × x_S) :=
x_g (¬ (a1 < 0 ∨ 12 ≤ (a1).toNatClampNeg)) (x_let (g_ar S 701 (a1).toNatClampNeg) (fun v1 =>
x_g (¬ (a2 < 0 ∨ 12 ≤ (a2).toNatClampNeg)) (x_let (g_ar S 701 (a2).toNatClampNeg) (fun v2 =>
if v1 = v2 then
f_X7_areLike_20 n S a1 a2 (1 : Int32)
else
f_X7_areLike_20 n S a1 a2 (0 : Int32)))))
set_option maxHeartbeats 4000000 in
set_option maxRecDepth 100000 in
theorem w_X7_areLike {r : Int32 × x_S} {a1 : Int32} {a2 : Int32} (hC : x_C p s m args meth c cX7_areLike 7 RX7 E A) (hR : x_Rz p l e { frames := 0, cells := 0, slots := 0, locals := 0 } s m args below meth c cX7_areLike E A Q (mw E ad r.2) r.1) (hI : x_I E A s.heap (mw E ad S) H locs) (hl : lv_has ls 7 [(0, .ref (ad 799)), (1, .int a1), (2, .int a2)]) (hf : f_X7_areLike n S a1 a2 = some r) : W p l e { frames := 0, cells := 0, slots := 0, locals := 0 } s m args below meth c H locs 0 0 Q (F0 m 0 ls []) := by
  obtain ⟨hx, hb, hml, hown, hts, hK, hN, hA⟩ := id hC
  unfold f_X7_areLike at hf
  refine lv_aload_n hx hb dX7_areLike_0 rfl (lv_at hl 0 rfl) ?_
  refine gX7_1 hC hI lkf_X7_7 dX7_areLike_1 ?_
  refine lv_iload_n hx hb dX7_areLike_4 rfl (lv_at hl 1 rfl) ?_
  refine aX7_1 hC hI hf dX7_areLike_5 (fun v1 hf => ?_)
  refine lv_aload_n hx hb dX7_areLike_6 rfl (lv_at hl 0 rfl) ?_
  refine gX7_1 hC hI lkf_X7_7 dX7_areLike_7 ?_
  refine lv_iload_n hx hb dX7_areLike_10 rfl (lv_at hl 2 rfl) ?_
  refine aX7_1 hC hI hf dX7_areLike_11 (fun v2 hf => ?_)
  refine x_ine hC 19 hf dX7_areLike_12 (by decide) (fun hf => ?_) (fun hf => ?_)
  · refine lv_iconst (v := (0 : Int32)) hx hb dX7_areLike_19 (by decide) ?_
    exact w_X7_areLike_20 hC hR hI (lv_sub hl [0, 1, 2] rfl) hf
  · refine lv_iconst (v := (1 : Int32)) hx hb dX7_areLike_15 (by decide) ?_
    refine lv_goto (tgt := 20) hx hb dX7_areLike_16 (by decide) ?_
    exact w_X7_areLike_20 hC hR hI (lv_sub hl [0, 1, 2] rfl) hf
theorem c_X7_areLike {a1 : Int32} {a2 : Int32} {v : Int32} {S1 : x_S} (hf : f_X7_areLike n S a1 a2 = some (v, S1)) : x_M l yX7_areLike cX7_areLike 7 (some .boolean) 0 0 E [.ref (ad 799), .int a1, .int a2] (mw E ad S) (mw E ad S1) (some (.int v)) :=
  x_entZ (by decide) (Nat.le_of_ble_eq_true rfl) (fun p e s m args below meth c A Q ls hC hI hR hl => w_X7_areLike (r := (v, S1)) hC hR hI hl hf)
-- X7_of
def f_X7_of_307 (n : Nat) (rec282 : x_S × Int32 × Int32 × Int32 → Option (Int32 × x_S)) (S : x_S) (a1 : Int32) (a4 : Int32) (t0 : Int32) (t1 : Int32) : Option (Int32 × x_S) :=
rec282 (S, a1, (t1 + t0), (a4 + (1 : Int32)))
set_option maxHeartbeats 4000000 in
set_option maxRecDepth 100000 in
theorem w_X7_of_307 {r : Int32 × x_S} {a1 : Int32} {a4 : Int32} {t0 : Int32} {t1 : Int32} {rec282 : x_S × Int32 × Int32 × Int32 → Option (Int32 × x_S)} (hC : x_C p s m args meth c cX7_of 6 RX7 E A) (hR : x_Ri p l e { frames := 4, cells := 0, slots := 0, locals := 111 } s m args below meth c cX7_of E A Q (mw E ad r.2) r.1) (hrec282 : ∀ z : x_S × Int32 × Int32 × Int32, rec282 z = some r → ∀ (H : Heap) (locs : List Loc) (ls : Array Slot), x_I E A s.heap (mw E ad z.1) H locs → lv_has ls 6 [(0, .ref (ad 799)), (1, .int z.2.1), (3, .int z.2.2.1), (4, .int z.2.2.2)] → W p l e { frames := 4, cells := 0, slots := 0, locals := 111 } s m args below meth c H locs 0 0 Q (F0 m 282 ls [])) (hI : x_I E A s.heap (mw E ad S) H locs) (hl : lv_has ls 6 [(0, .ref (ad 799)), (1, .int a1), (4, .int a4)]) (hf : f_X7_of_307 n rec282 S a1 a4 t0 t1 = some r) : W p l e { frames := 4, cells := 0, slots := 0, locals := 111 } s m args below meth c H locs 0 0 Q (F0 m 307 ls [.int t0, .int t1]) := by
  obtain ⟨hx, hb, hml, hown, hts, hK, hN, hA⟩ := id hC
  unfold f_X7_of_307 at hf
  refine lv_iadd hx hb dX7_of_307 ?_
  refine lv_istore_n (lv' := [(3, .int (t1 + t0)), (0, .ref (ad 799)), (1, .int a1), (4, .int a4)]) hx hb dX7_of_308 rfl hl (by decide) rfl (fun ls hl => ?_)
  refine lv_iinc (v := (a4 + (1 : Int32))) (lv' := [(4, .int (a4 + (1 : Int32))), (3, .int (t1 + t0)), (0, .ref (ad 799)), (1, .int a1)]) hx hb dX7_of_309 hl (k := 3) rfl rfl (by decide) rfl (fun ls hl => ?_)
  refine lv_goto (tgt := 282) hx hb dX7_of_312 (by decide) ?_
  exact hrec282 _ hf _ _ _ hI (lv_sub hl [2, 3, 1, 0] rfl)
def f_X7_of_282 (n : Nat) (rec282 : x_S × Int32 × Int32 × Int32 → Option (Int32 × x_S)) (S : x_S) (a1 : Int32) (a3 : Int32) (a4 : Int32) : Option (Int32 × x_S) :=
x_let (g_sc S 700) (fun v8 =>
if v8 ≤ a4 then
some (a3, S)
else
x_b2 (f_X7_doesCall n S a4 a1) (fun v10 S =>
if v10 = 0 then
f_X7_of_307 n rec282 S a1 a4 (0 : Int32) a3
else
f_X7_of_307 n rec282 S a1 a4 (1 : Int32) a3))
set_option maxHeartbeats 4000000 in
set_option maxRecDepth 100000 in
theorem w_X7_of_282 {r : Int32 × x_S} {a1 : Int32} {a3 : Int32} {a4 : Int32} {rec282 : x_S × Int32 × Int32 × Int32 → Option (Int32 × x_S)} (hC : x_C p s m args meth c cX7_of 6 RX7 E A) (hR : x_Ri p l e { frames := 4, cells := 0, slots := 0, locals := 111 } s m args below meth c cX7_of E A Q (mw E ad r.2) r.1) (hrec282 : ∀ z : x_S × Int32 × Int32 × Int32, rec282 z = some r → ∀ (H : Heap) (locs : List Loc) (ls : Array Slot), x_I E A s.heap (mw E ad z.1) H locs → lv_has ls 6 [(0, .ref (ad 799)), (1, .int z.2.1), (3, .int z.2.2.1), (4, .int z.2.2.2)] → W p l e { frames := 4, cells := 0, slots := 0, locals := 111 } s m args below meth c H locs 0 0 Q (F0 m 282 ls [])) (hI : x_I E A s.heap (mw E ad S) H locs) (hl : lv_has ls 6 [(0, .ref (ad 799)), (1, .int a1), (3, .int a3), (4, .int a4)]) (hf : f_X7_of_282 n rec282 S a1 a3 a4 = some r) : W p l e { frames := 4, cells := 0, slots := 0, locals := 111 } s m args below meth c H locs 0 0 Q (F0 m 282 ls []) := by
  obtain ⟨hx, hb, hml, hown, hts, hK, hN, hA⟩ := id hC
  unfold f_X7_of_282 at hf
  refine lv_iload hx hb dX7_of_282 (lv_at hl 3 rfl) ?_
  refine lv_aload_n hx hb dX7_of_284 rfl (lv_at hl 0 rfl) ?_
  refine gX7_0 hC hI hf lkf_X7_135 dX7_of_285 (fun v8 hf => ?_)
  refine x_ige hC 315 hf dX7_of_288 (by decide) (fun hf => ?_) (fun hf => ?_)
  · refine lv_iload_n hx hb dX7_of_315 rfl (lv_at hl 2 rfl) ?_
    obtain rfl := Option.some.inj hf
    exact hR _ _ _ _ hI dX7_of_316
  · refine lv_iload_n hx hb dX7_of_291 rfl (lv_at hl 2 rfl) ?_
    refine lv_aload_n hx hb dX7_of_292 rfl (lv_at hl 0 rfl) ?_
    refine lv_iload hx hb dX7_of_293 (lv_at hl 3 rfl) ?_
    refine lv_iload_n hx hb dX7_of_295 rfl (lv_at hl 1 rfl) ?_
    obtain ⟨v10, S, hc9, hf⟩ := x_b2_eq hf
    refine x_callV hC hI (c_X7_doesCall hc9) 0 7 rfl rfl kv_X7_202 rfl ⟨Nat.le_of_ble_eq_true rfl, Nat.le_of_ble_eq_true rfl⟩ ⟨Nat.le_refl _, Nat.le_refl _⟩ hl.1 rfl (Nat.le_of_ble_eq_true rfl) dX7_of_296 (fun H locs hI => ?_)
    refine x_eq0 hC 306 hf dX7_of_299 (by decide) (fun hf => ?_) (fun hf => ?_)
    · refine lv_iconst (v := (0 : Int32)) hx hb dX7_of_306 (by decide) ?_
      exact w_X7_of_307 hC hR hrec282 hI (lv_sub hl [0, 1, 3] rfl) hf
    · refine lv_iconst (v := (1 : Int32)) hx hb dX7_of_302 (by decide) ?_
      refine lv_goto (tgt := 307) hx hb dX7_of_303 (by decide) ?_
      exact w_X7_of_307 hC hR hrec282 hI (lv_sub hl [0, 1, 3] rfl) hf
theorem w_X7_of_282_loop {r : Int32 × x_S} (hC : x_C p s m args meth c cX7_of 6 RX7 E A) (hR : x_Ri p l e { frames := 4, cells := 0, slots := 0, locals := 111 } s m args below meth c cX7_of E A Q (mw E ad r.2) r.1) : ∀ (k : Nat) (z : x_S × Int32 × Int32 × Int32), x_loop (fun rec z => f_X7_of_282 n rec z.1 z.2.1 z.2.2.1 z.2.2.2) k z = some r → ∀ (H : Heap) (locs : List Loc) (ls : Array Slot), x_I E A s.heap (mw E ad z.1) H locs → lv_has ls 6 [(0, .ref (ad 799)), (1, .int z.2.1), (3, .int z.2.2.1), (4, .int z.2.2.2)] → W p l e { frames := 4, cells := 0, slots := 0, locals := 111 } s m args below meth c H locs 0 0 Q (F0 m 282 ls []) :=
  x_loop_ind (P := fun (z : x_S × Int32 × Int32 × Int32) => ∀ (H : Heap) (locs : List Loc) (ls : Array Slot), x_I E A s.heap (mw E ad z.1) H locs → lv_has ls 6 [(0, .ref (ad 799)), (1, .int z.2.1), (3, .int z.2.2.1), (4, .int z.2.2.2)] → W p l e { frames := 4, cells := 0, slots := 0, locals := 111 } s m args below meth c H locs 0 0 Q (F0 m 282 ls [])) (fun rec hrec z hf H locs ls hI hl => w_X7_of_282 hC hR hrec hI hl hf)
def f_X7_of_270 (n : Nat) (rec220 : x_S × Int32 × Int32 → Option (Int32 × x_S)) (S : x_S) (a4 : Int32) (t0 : Int32) : Option (Int32 × x_S) :=
rec220 (S, t0, (a4 + (1 : Int32)))
set_option maxHeartbeats 4000000 in
set_option maxRecDepth 100000 in
theorem w_X7_of_270 {r : Int32 × x_S} {a4 : Int32} {t0 : Int32} {rec220 : x_S × Int32 × Int32 → Option (Int32 × x_S)} (hC : x_C p s m args meth c cX7_of 6 RX7 E A) (hR : x_Ri p l e { frames := 4, cells := 0, slots := 0, locals := 111 } s m args below meth c cX7_of E A Q (mw E ad r.2) r.1) (hrec220 : ∀ z : x_S × Int32 × Int32, rec220 z = some r → ∀ (H : Heap) (locs : List Loc) (ls : Array Slot), x_I E A s.heap (mw E ad z.1) H locs → lv_has ls 6 [(0, .ref (ad 799)), (3, .int z.2.1), (4, .int z.2.2)] → W p l e { frames := 4, cells := 0, slots := 0, locals := 111 } s m args below meth c H locs 0 0 Q (F0 m 220 ls [])) (hI : x_I E A s.heap (mw E ad S) H locs) (hl : lv_has ls 6 [(0, .ref (ad 799)), (4, .int a4)]) (hf : f_X7_of_270 n rec220 S a4 t0 = some r) : W p l e { frames := 4, cells := 0, slots := 0, locals := 111 } s m args below meth c H locs 0 0 Q (F0 m 270 ls [.int t0]) := by
  obtain ⟨hx, hb, hml, hown, hts, hK, hN, hA⟩ := id hC
  unfold f_X7_of_270 at hf
  refine lv_istore_n (lv' := [(3, .int t0), (0, .ref (ad 799)), (4, .int a4)]) hx hb dX7_of_270 rfl hl (by decide) rfl (fun ls hl => ?_)
  refine lv_iinc (v := (a4 + (1 : Int32))) (lv' := [(4, .int (a4 + (1 : Int32))), (3, .int t0), (0, .ref (ad 799))]) hx hb dX7_of_271 hl (k := 2) rfl rfl (by decide) rfl (fun ls hl => ?_)
  refine lv_goto (tgt := 220) hx hb dX7_of_274 (by decide) ?_
  exact hrec220 _ hf _ _ _ hI (lv_sub hl [2, 1, 0] rfl)
def f_X7_of_255 (n : Nat) (rec220 : x_S × Int32 × Int32 → Option (Int32 × x_S)) (S : x_S) (a3 : Int32) (a4 : Int32) (t0 : Int32) (t1 : Int32) : Option (Int32 × x_S) :=
if (t1 + t0) ≤ a3 then
f_X7_of_270 n rec220 S a4 a3
else
f_X7_of_270 n rec220 S a4 (t1 + t0)
set_option maxHeartbeats 4000000 in
set_option maxRecDepth 100000 in
theorem w_X7_of_255 {r : Int32 × x_S} {a3 : Int32} {a4 : Int32} {t0 : Int32} {t1 : Int32} {rec220 : x_S × Int32 × Int32 → Option (Int32 × x_S)} (hC : x_C p s m args meth c cX7_of 6 RX7 E A) (hR : x_Ri p l e { frames := 4, cells := 0, slots := 0, locals := 111 } s m args below meth c cX7_of E A Q (mw E ad r.2) r.1) (hrec220 : ∀ z : x_S × Int32 × Int32, rec220 z = some r → ∀ (H : Heap) (locs : List Loc) (ls : Array Slot), x_I E A s.heap (mw E ad z.1) H locs → lv_has ls 6 [(0, .ref (ad 799)), (3, .int z.2.1), (4, .int z.2.2)] → W p l e { frames := 4, cells := 0, slots := 0, locals := 111 } s m args below meth c H locs 0 0 Q (F0 m 220 ls [])) (hI : x_I E A s.heap (mw E ad S) H locs) (hl : lv_has ls 6 [(0, .ref (ad 799)), (3, .int a3), (4, .int a4)]) (hf : f_X7_of_255 n rec220 S a3 a4 t0 t1 = some r) : W p l e { frames := 4, cells := 0, slots := 0, locals := 111 } s m args below meth c H locs 0 0 Q (F0 m 255 ls [.int t0, .int t1]) := by
  obtain ⟨hx, hb, hml, hown, hts, hK, hN, hA⟩ := id hC
  unfold f_X7_of_255 at hf
  refine lv_iadd hx hb dX7_of_255 ?_
  refine lv_istore (lv' := [(5, .int (t1 + t0)), (0, .ref (ad 799)), (3, .int a3), (4, .int a4)]) hx hb dX7_of_256 hl (by decide) rfl (fun ls hl => ?_)
  refine lv_iload hx hb dX7_of_258 (lv_at hl 0 rfl) ?_
  refine lv_iload_n hx hb dX7_of_260 rfl (lv_at hl 2 rfl) ?_
  refine x_ile hC 269 hf dX7_of_261 (by decide) (fun hf => ?_) (fun hf => ?_)
  · refine lv_iload_n hx hb dX7_of_269 rfl (lv_at hl 2 rfl) ?_
    exact w_X7_of_270 hC hR hrec220 hI (lv_sub hl [1, 3] rfl) hf
  · refine lv_iload hx hb dX7_of_264 (lv_at hl 0 rfl) ?_
    refine lv_goto (tgt := 270) hx hb dX7_of_266 (by decide) ?_
    exact w_X7_of_270 hC hR hrec220 hI (lv_sub hl [1, 3] rfl) hf
def f_X7_of_220 (n : Nat) (rec220 : x_S × Int32 × Int32 → Option (Int32 × x_S)) (S : x_S) (a3 : Int32) (a4 : Int32) : Option (Int32 × x_S) :=
x_let (g_sc S 715) (fun v11 =>
if v11 ≤ a4 then
some (a3, S)
else
x_b2 (f_X7_depthOf n S a4) (fun v13 S =>
x_g (¬ (a4 < 0 ∨ 200 ≤ (a4).toNatClampNeg)) (x_let (g_ar S 716 (a4).toNatClampNeg) (fun v14 =>
x_b (f_X7_in n v14 (1 : Int32) (5 : Int32)) (fun v16 =>
if v16 = 0 then
f_X7_of_255 n rec220 S a3 a4 (0 : Int32) v13
else
f_X7_of_255 n rec220 S a3 a4 (1 : Int32) v13)))))
set_option maxHeartbeats 4000000 in
set_option maxRecDepth 100000 in
theorem w_X7_of_220 {r : Int32 × x_S} {a3 : Int32} {a4 : Int32} {rec220 : x_S × Int32 × Int32 → Option (Int32 × x_S)} (hC : x_C p s m args meth c cX7_of 6 RX7 E A) (hR : x_Ri p l e { frames := 4, cells := 0, slots := 0, locals := 111 } s m args below meth c cX7_of E A Q (mw E ad r.2) r.1) (hrec220 : ∀ z : x_S × Int32 × Int32, rec220 z = some r → ∀ (H : Heap) (locs : List Loc) (ls : Array Slot), x_I E A s.heap (mw E ad z.1) H locs → lv_has ls 6 [(0, .ref (ad 799)), (3, .int z.2.1), (4, .int z.2.2)] → W p l e { frames := 4, cells := 0, slots := 0, locals := 111 } s m args below meth c H locs 0 0 Q (F0 m 220 ls [])) (hI : x_I E A s.heap (mw E ad S) H locs) (hl : lv_has ls 6 [(0, .ref (ad 799)), (3, .int a3), (4, .int a4)]) (hf : f_X7_of_220 n rec220 S a3 a4 = some r) : W p l e { frames := 4, cells := 0, slots := 0, locals := 111 } s m args below meth c H locs 0 0 Q (F0 m 220 ls []) := by
  obtain ⟨hx, hb, hml, hown, hts, hK, hN, hA⟩ := id hC
  unfold f_X7_of_220 at hf
  refine lv_iload hx hb dX7_of_220 (lv_at hl 2 rfl) ?_
  refine lv_aload_n hx hb dX7_of_222 rfl (lv_at hl 0 rfl) ?_
  refine gX7_15 hC hI hf lkf_X7_160 dX7_of_223 (fun v11 hf => ?_)
  refine x_ige hC 277 hf dX7_of_226 (by decide) (fun hf => ?_) (fun hf => ?_)
  · refine lv_iload_n hx hb dX7_of_277 rfl (lv_at hl 1 rfl) ?_
    obtain rfl := Option.some.inj hf
    exact hR _ _ _ _ hI dX7_of_278
  · refine lv_aload_n hx hb dX7_of_229 rfl (lv_at hl 0 rfl) ?_
    refine lv_iload hx hb dX7_of_230 (lv_at hl 2 rfl) ?_
    obtain ⟨v13, S, hc12, hf⟩ := x_b2_eq hf
    refine x_callV hC hI (c_X7_depthOf hc12) 0 7 rfl rfl kv_X7_198 rfl ⟨Nat.le_of_ble_eq_true rfl, Nat.le_of_ble_eq_true rfl⟩ ⟨Nat.le_refl _, Nat.le_refl _⟩ hl.1 rfl (Nat.le_of_ble_eq_true rfl) dX7_of_232 (fun H locs hI => ?_)
    refine lv_aload_n hx hb dX7_of_235 rfl (lv_at hl 0 rfl) ?_
    refine gX7_16 hC hI lkf_X7_41 dX7_of_236 ?_
    refine lv_iload hx hb dX7_of_239 (lv_at hl 2 rfl) ?_
    refine aX7_16 hC hI hf dX7_of_241 (fun v14 hf => ?_)
    refine lv_iconst (v := (1 : Int32)) hx hb dX7_of_242 (by decide) ?_
    refine lv_iconst (v := (5 : Int32)) hx hb dX7_of_243 (by decide) ?_
    obtain ⟨v16, hc15, hf⟩ := x_b_eq hf
    refine x_callS hC hI (c_X7_in hc15) ks_X7_138 rfl ⟨Nat.le_of_ble_eq_true rfl, Nat.le_of_ble_eq_true rfl⟩ ⟨Nat.le_refl _, Nat.le_refl _⟩ hl.1 rfl (Nat.le_of_ble_eq_true rfl) dX7_of_244 (fun H locs hI => ?_)
    refine x_eq0 hC 254 hf dX7_of_247 (by decide) (fun hf => ?_) (fun hf => ?_)
    · refine lv_iconst (v := (0 : Int32)) hx hb dX7_of_254 (by decide) ?_
      exact w_X7_of_255 hC hR hrec220 hI (lv_sub hl [0, 1, 2] rfl) hf
    · refine lv_iconst (v := (1 : Int32)) hx hb dX7_of_250 (by decide) ?_
      refine lv_goto (tgt := 255) hx hb dX7_of_251 (by decide) ?_
      exact w_X7_of_255 hC hR hrec220 hI (lv_sub hl [0, 1, 2] rfl) hf
theorem w_X7_of_220_loop {r : Int32 × x_S} (hC : x_C p s m args meth c cX7_of 6 RX7 E A) (hR : x_Ri p l e { frames := 4, cells := 0, slots := 0, locals := 111 } s m args below meth c cX7_of E A Q (mw E ad r.2) r.1) : ∀ (k : Nat) (z : x_S × Int32 × Int32), x_loop (fun rec z => f_X7_of_220 n rec z.1 z.2.1 z.2.2) k z = some r → ∀ (H : Heap) (locs : List Loc) (ls : Array Slot), x_I E A s.heap (mw E ad z.1) H locs → lv_has ls 6 [(0, .ref (ad 799)), (3, .int z.2.1), (4, .int z.2.2)] → W p l e { frames := 4, cells := 0, slots := 0, locals := 111 } s m args below meth c H locs 0 0 Q (F0 m 220 ls []) :=
  x_loop_ind (P := fun (z : x_S × Int32 × Int32) => ∀ (H : Heap) (locs : List Loc) (ls : Array Slot), x_I E A s.heap (mw E ad z.1) H locs → lv_has ls 6 [(0, .ref (ad 799)), (3, .int z.2.1), (4, .int z.2.2)] → W p l e { frames := 4, cells := 0, slots := 0, locals := 111 } s m args below meth c H locs 0 0 Q (F0 m 220 ls [])) (fun rec hrec z hf H locs ls hI hl => w_X7_of_220 hC hR hrec hI hl hf)
def f_X7_of_199 (n : Nat) (rec172 : x_S × Int32 × Int32 × Int32 → Option (Int32 × x_S)) (S : x_S) (a1 : Int32) (a4 : Int32) (t0 : Int32) (t1 : Int32) : Option (Int32 × x_S) :=
rec172 (S, a1, (t1 + t0), (a4 + (1 : Int32)))
set_option maxHeartbeats 4000000 in
set_option maxRecDepth 100000 in
theorem w_X7_of_199 {r : Int32 × x_S} {a1 : Int32} {a4 : Int32} {t0 : Int32} {t1 : Int32} {rec172 : x_S × Int32 × Int32 × Int32 → Option (Int32 × x_S)} (hC : x_C p s m args meth c cX7_of 6 RX7 E A) (hR : x_Ri p l e { frames := 4, cells := 0, slots := 0, locals := 111 } s m args below meth c cX7_of E A Q (mw E ad r.2) r.1) (hrec172 : ∀ z : x_S × Int32 × Int32 × Int32, rec172 z = some r → ∀ (H : Heap) (locs : List Loc) (ls : Array Slot), x_I E A s.heap (mw E ad z.1) H locs → lv_has ls 6 [(0, .ref (ad 799)), (1, .int z.2.1), (3, .int z.2.2.1), (4, .int z.2.2.2)] → W p l e { frames := 4, cells := 0, slots := 0, locals := 111 } s m args below meth c H locs 0 0 Q (F0 m 172 ls [])) (hI : x_I E A s.heap (mw E ad S) H locs) (hl : lv_has ls 6 [(0, .ref (ad 799)), (1, .int a1), (4, .int a4)]) (hf : f_X7_of_199 n rec172 S a1 a4 t0 t1 = some r) : W p l e { frames := 4, cells := 0, slots := 0, locals := 111 } s m args below meth c H locs 0 0 Q (F0 m 199 ls [.int t0, .int t1]) := by
  obtain ⟨hx, hb, hml, hown, hts, hK, hN, hA⟩ := id hC
  unfold f_X7_of_199 at hf
  refine lv_iadd hx hb dX7_of_199 ?_
  refine lv_istore_n (lv' := [(3, .int (t1 + t0)), (0, .ref (ad 799)), (1, .int a1), (4, .int a4)]) hx hb dX7_of_200 rfl hl (by decide) rfl (fun ls hl => ?_)
  refine lv_iinc (v := (a4 + (1 : Int32))) (lv' := [(4, .int (a4 + (1 : Int32))), (3, .int (t1 + t0)), (0, .ref (ad 799)), (1, .int a1)]) hx hb dX7_of_201 hl (k := 3) rfl rfl (by decide) rfl (fun ls hl => ?_)
  refine lv_goto (tgt := 172) hx hb dX7_of_204 (by decide) ?_
  exact hrec172 _ hf _ _ _ hI (lv_sub hl [2, 3, 1, 0] rfl)
def f_X7_of_172 (n : Nat) (rec172 : x_S × Int32 × Int32 × Int32 → Option (Int32 × x_S)) (S : x_S) (a1 : Int32) (a3 : Int32) (a4 : Int32) : Option (Int32 × x_S) :=
x_g (¬ (a1 < 0 ∨ 12 ≤ (a1).toNatClampNeg)) (x_let (g_ar S 701 (a1).toNatClampNeg) (fun v18 =>
if v18 ≤ a4 then
some (a3, S)
else
x_g (¬ (a4 < 0 ∨ 61 ≤ (a4).toNatClampNeg)) (x_let (g_ar S 733 (a4).toNatClampNeg) (fun v19 =>
if v19 = 0 then
f_X7_of_199 n rec172 S a1 a4 (1 : Int32) a3
else
f_X7_of_199 n rec172 S a1 a4 (0 : Int32) a3))))
set_option maxHeartbeats 4000000 in
set_option maxRecDepth 100000 in
theorem w_X7_of_172 {r : Int32 × x_S} {a1 : Int32} {a3 : Int32} {a4 : Int32} {rec172 : x_S × Int32 × Int32 × Int32 → Option (Int32 × x_S)} (hC : x_C p s m args meth c cX7_of 6 RX7 E A) (hR : x_Ri p l e { frames := 4, cells := 0, slots := 0, locals := 111 } s m args below meth c cX7_of E A Q (mw E ad r.2) r.1) (hrec172 : ∀ z : x_S × Int32 × Int32 × Int32, rec172 z = some r → ∀ (H : Heap) (locs : List Loc) (ls : Array Slot), x_I E A s.heap (mw E ad z.1) H locs → lv_has ls 6 [(0, .ref (ad 799)), (1, .int z.2.1), (3, .int z.2.2.1), (4, .int z.2.2.2)] → W p l e { frames := 4, cells := 0, slots := 0, locals := 111 } s m args below meth c H locs 0 0 Q (F0 m 172 ls [])) (hI : x_I E A s.heap (mw E ad S) H locs) (hl : lv_has ls 6 [(0, .ref (ad 799)), (1, .int a1), (3, .int a3), (4, .int a4)]) (hf : f_X7_of_172 n rec172 S a1 a3 a4 = some r) : W p l e { frames := 4, cells := 0, slots := 0, locals := 111 } s m args below meth c H locs 0 0 Q (F0 m 172 ls []) := by
  obtain ⟨hx, hb, hml, hown, hts, hK, hN, hA⟩ := id hC
  unfold f_X7_of_172 at hf
  refine lv_iload hx hb dX7_of_172 (lv_at hl 3 rfl) ?_
  refine lv_aload_n hx hb dX7_of_174 rfl (lv_at hl 0 rfl) ?_
  refine gX7_1 hC hI lkf_X7_7 dX7_of_175 ?_
  refine lv_iload_n hx hb dX7_of_178 rfl (lv_at hl 1 rfl) ?_
  refine aX7_1 hC hI hf dX7_of_179 (fun v18 hf => ?_)
  refine x_ige hC 207 hf dX7_of_180 (by decide) (fun hf => ?_) (fun hf => ?_)
  · refine lv_iload_n hx hb dX7_of_207 rfl (lv_at hl 2 rfl) ?_
    obtain rfl := Option.some.inj hf
    exact hR _ _ _ _ hI dX7_of_208
  · refine lv_iload_n hx hb dX7_of_183 rfl (lv_at hl 2 rfl) ?_
    refine lv_aload_n hx hb dX7_of_184 rfl (lv_at hl 0 rfl) ?_
    refine gX7_33 hC hI lkf_X7_86 dX7_of_185 ?_
    refine lv_iload hx hb dX7_of_188 (lv_at hl 3 rfl) ?_
    refine aX7_33 hC hI hf dX7_of_190 (fun v19 hf => ?_)
    refine x_eq0 hC 198 hf dX7_of_191 (by decide) (fun hf => ?_) (fun hf => ?_)
    · refine lv_iconst (v := (1 : Int32)) hx hb dX7_of_198 (by decide) ?_
      exact w_X7_of_199 hC hR hrec172 hI (lv_sub hl [0, 1, 3] rfl) hf
    · refine lv_iconst (v := (0 : Int32)) hx hb dX7_of_194 (by decide) ?_
      refine lv_goto (tgt := 199) hx hb dX7_of_195 (by decide) ?_
      exact w_X7_of_199 hC hR hrec172 hI (lv_sub hl [0, 1, 3] rfl) hf
theorem w_X7_of_172_loop {r : Int32 × x_S} (hC : x_C p s m args meth c cX7_of 6 RX7 E A) (hR : x_Ri p l e { frames := 4, cells := 0, slots := 0, locals := 111 } s m args below meth c cX7_of E A Q (mw E ad r.2) r.1) : ∀ (k : Nat) (z : x_S × Int32 × Int32 × Int32), x_loop (fun rec z => f_X7_of_172 n rec z.1 z.2.1 z.2.2.1 z.2.2.2) k z = some r → ∀ (H : Heap) (locs : List Loc) (ls : Array Slot), x_I E A s.heap (mw E ad z.1) H locs → lv_has ls 6 [(0, .ref (ad 799)), (1, .int z.2.1), (3, .int z.2.2.1), (4, .int z.2.2.2)] → W p l e { frames := 4, cells := 0, slots := 0, locals := 111 } s m args below meth c H locs 0 0 Q (F0 m 172 ls []) :=
  x_loop_ind (P := fun (z : x_S × Int32 × Int32 × Int32) => ∀ (H : Heap) (locs : List Loc) (ls : Array Slot), x_I E A s.heap (mw E ad z.1) H locs → lv_has ls 6 [(0, .ref (ad 799)), (1, .int z.2.1), (3, .int z.2.2.1), (4, .int z.2.2.2)] → W p l e { frames := 4, cells := 0, slots := 0, locals := 111 } s m args below meth c H locs 0 0 Q (F0 m 172 ls [])) (fun rec hrec z hf H locs ls hI hl => w_X7_of_172 hC hR hrec hI hl hf)
def f_X7_of_149 (n : Nat) (rec110 : x_S × Int32 × Int32 → Option (Int32 × x_S)) (S : x_S) (a4 : Int32) (t0 : Int32) (t1 : Int32) : Option (Int32 × x_S) :=
rec110 (S, (t1 + t0), (a4 + (1 : Int32)))
set_option maxHeartbeats 4000000 in
set_option maxRecDepth 100000 in
theorem w_X7_of_149 {r : Int32 × x_S} {a4 : Int32} {t0 : Int32} {t1 : Int32} {rec110 : x_S × Int32 × Int32 → Option (Int32 × x_S)} (hC : x_C p s m args meth c cX7_of 6 RX7 E A) (hR : x_Ri p l e { frames := 4, cells := 0, slots := 0, locals := 111 } s m args below meth c cX7_of E A Q (mw E ad r.2) r.1) (hrec110 : ∀ z : x_S × Int32 × Int32, rec110 z = some r → ∀ (H : Heap) (locs : List Loc) (ls : Array Slot), x_I E A s.heap (mw E ad z.1) H locs → lv_has ls 6 [(0, .ref (ad 799)), (3, .int z.2.1), (4, .int z.2.2)] → W p l e { frames := 4, cells := 0, slots := 0, locals := 111 } s m args below meth c H locs 0 0 Q (F0 m 110 ls [])) (hI : x_I E A s.heap (mw E ad S) H locs) (hl : lv_has ls 6 [(0, .ref (ad 799)), (4, .int a4)]) (hf : f_X7_of_149 n rec110 S a4 t0 t1 = some r) : W p l e { frames := 4, cells := 0, slots := 0, locals := 111 } s m args below meth c H locs 0 0 Q (F0 m 149 ls [.int t0, .int t1]) := by
  obtain ⟨hx, hb, hml, hown, hts, hK, hN, hA⟩ := id hC
  unfold f_X7_of_149 at hf
  refine lv_iadd hx hb dX7_of_149 ?_
  refine lv_istore_n (lv' := [(3, .int (t1 + t0)), (0, .ref (ad 799)), (4, .int a4)]) hx hb dX7_of_150 rfl hl (by decide) rfl (fun ls hl => ?_)
  refine lv_iinc (v := (a4 + (1 : Int32))) (lv' := [(4, .int (a4 + (1 : Int32))), (3, .int (t1 + t0)), (0, .ref (ad 799))]) hx hb dX7_of_151 hl (k := 2) rfl rfl (by decide) rfl (fun ls hl => ?_)
  refine lv_goto (tgt := 110) hx hb dX7_of_154 (by decide) ?_
  exact hrec110 _ hf _ _ _ hI (lv_sub hl [2, 1, 0] rfl)
def f_X7_of_144 (n : Nat) (rec110 : x_S × Int32 × Int32 → Option (Int32 × x_S)) (S : x_S) (a4 : Int32) (t0 : Int32) : Option (Int32 × x_S) :=
f_X7_of_149 n rec110 S a4 (1 : Int32) t0
set_option maxHeartbeats 4000000 in
set_option maxRecDepth 100000 in
theorem w_X7_of_144 {r : Int32 × x_S} {a4 : Int32} {t0 : Int32} {rec110 : x_S × Int32 × Int32 → Option (Int32 × x_S)} (hC : x_C p s m args meth c cX7_of 6 RX7 E A) (hR : x_Ri p l e { frames := 4, cells := 0, slots := 0, locals := 111 } s m args below meth c cX7_of E A Q (mw E ad r.2) r.1) (hrec110 : ∀ z : x_S × Int32 × Int32, rec110 z = some r → ∀ (H : Heap) (locs : List Loc) (ls : Array Slot), x_I E A s.heap (mw E ad z.1) H locs → lv_has ls 6 [(0, .ref (ad 799)), (3, .int z.2.1), (4, .int z.2.2)] → W p l e { frames := 4, cells := 0, slots := 0, locals := 111 } s m args below meth c H locs 0 0 Q (F0 m 110 ls [])) (hI : x_I E A s.heap (mw E ad S) H locs) (hl : lv_has ls 6 [(0, .ref (ad 799)), (4, .int a4)]) (hf : f_X7_of_144 n rec110 S a4 t0 = some r) : W p l e { frames := 4, cells := 0, slots := 0, locals := 111 } s m args below meth c H locs 0 0 Q (F0 m 144 ls [.int t0]) := by
  obtain ⟨hx, hb, hml, hown, hts, hK, hN, hA⟩ := id hC
  unfold f_X7_of_144 at hf
  refine lv_iconst (v := (1 : Int32)) hx hb dX7_of_144 (by decide) ?_
  refine lv_goto (tgt := 149) hx hb dX7_of_145 (by decide) ?_
  exact w_X7_of_149 hC hR hrec110 hI (lv_sub hl [0, 1] rfl) hf
def f_X7_of_110 (n : Nat) (rec110 : x_S × Int32 × Int32 → Option (Int32 × x_S)) (S : x_S) (a3 : Int32) (a4 : Int32) : Option (Int32 × x_S) :=
x_let (g_sc S 715) (fun v20 =>
if v20 ≤ a4 then
some (a3, S)
else
x_g (¬ (a4 < 0 ∨ 200 ≤ (a4).toNatClampNeg)) (x_let (g_ar S 716 (a4).toNatClampNeg) (fun v21 =>
if v21 = (8 : Int32) then
f_X7_of_144 n rec110 S a4 a3
else
x_g (¬ (a4 < 0 ∨ 200 ≤ (a4).toNatClampNeg)) (x_let (g_ar S 716 (a4).toNatClampNeg) (fun v22 =>
if v22 = (11 : Int32) then
f_X7_of_144 n rec110 S a4 a3
else
f_X7_of_149 n rec110 S a4 (0 : Int32) a3)))))
set_option maxHeartbeats 4000000 in
set_option maxRecDepth 100000 in
theorem w_X7_of_110 {r : Int32 × x_S} {a3 : Int32} {a4 : Int32} {rec110 : x_S × Int32 × Int32 → Option (Int32 × x_S)} (hC : x_C p s m args meth c cX7_of 6 RX7 E A) (hR : x_Ri p l e { frames := 4, cells := 0, slots := 0, locals := 111 } s m args below meth c cX7_of E A Q (mw E ad r.2) r.1) (hrec110 : ∀ z : x_S × Int32 × Int32, rec110 z = some r → ∀ (H : Heap) (locs : List Loc) (ls : Array Slot), x_I E A s.heap (mw E ad z.1) H locs → lv_has ls 6 [(0, .ref (ad 799)), (3, .int z.2.1), (4, .int z.2.2)] → W p l e { frames := 4, cells := 0, slots := 0, locals := 111 } s m args below meth c H locs 0 0 Q (F0 m 110 ls [])) (hI : x_I E A s.heap (mw E ad S) H locs) (hl : lv_has ls 6 [(0, .ref (ad 799)), (3, .int a3), (4, .int a4)]) (hf : f_X7_of_110 n rec110 S a3 a4 = some r) : W p l e { frames := 4, cells := 0, slots := 0, locals := 111 } s m args below meth c H locs 0 0 Q (F0 m 110 ls []) := by
  obtain ⟨hx, hb, hml, hown, hts, hK, hN, hA⟩ := id hC
  unfold f_X7_of_110 at hf
  refine lv_iload hx hb dX7_of_110 (lv_at hl 2 rfl) ?_
  refine lv_aload_n hx hb dX7_of_112 rfl (lv_at hl 0 rfl) ?_
  refine gX7_15 hC hI hf lkf_X7_160 dX7_of_113 (fun v20 hf => ?_)
  refine x_ige hC 157 hf dX7_of_116 (by decide) (fun hf => ?_) (fun hf => ?_)
  · refine lv_iload_n hx hb dX7_of_157 rfl (lv_at hl 1 rfl) ?_
    obtain rfl := Option.some.inj hf
    exact hR _ _ _ _ hI dX7_of_158
  · refine lv_iload_n hx hb dX7_of_119 rfl (lv_at hl 1 rfl) ?_
    refine lv_aload_n hx hb dX7_of_120 rfl (lv_at hl 0 rfl) ?_
    refine gX7_16 hC hI lkf_X7_41 dX7_of_121 ?_
    refine lv_iload hx hb dX7_of_124 (lv_at hl 2 rfl) ?_
    refine aX7_16 hC hI hf dX7_of_126 (fun v21 hf => ?_)
    refine lv_bipush (v := (8 : Int32)) hx hb dX7_of_127 (by decide) ?_
    refine x_ieq hC 144 hf dX7_of_129 (by decide) (fun hf => ?_) (fun hf => ?_)
    · exact w_X7_of_144 hC hR hrec110 hI (lv_sub hl [0, 2] rfl) hf
    · refine lv_aload_n hx hb dX7_of_132 rfl (lv_at hl 0 rfl) ?_
      refine gX7_16 hC hI lkf_X7_41 dX7_of_133 ?_
      refine lv_iload hx hb dX7_of_136 (lv_at hl 2 rfl) ?_
      refine aX7_16 hC hI hf dX7_of_138 (fun v22 hf => ?_)
      refine lv_bipush (v := (11 : Int32)) hx hb dX7_of_139 (by decide) ?_
      refine x_ine hC 148 hf dX7_of_141 (by decide) (fun hf => ?_) (fun hf => ?_)
      · refine lv_iconst (v := (0 : Int32)) hx hb dX7_of_148 (by decide) ?_
        exact w_X7_of_149 hC hR hrec110 hI (lv_sub hl [0, 2] rfl) hf
      · exact w_X7_of_144 hC hR hrec110 hI (lv_sub hl [0, 2] rfl) hf
theorem w_X7_of_110_loop {r : Int32 × x_S} (hC : x_C p s m args meth c cX7_of 6 RX7 E A) (hR : x_Ri p l e { frames := 4, cells := 0, slots := 0, locals := 111 } s m args below meth c cX7_of E A Q (mw E ad r.2) r.1) : ∀ (k : Nat) (z : x_S × Int32 × Int32), x_loop (fun rec z => f_X7_of_110 n rec z.1 z.2.1 z.2.2) k z = some r → ∀ (H : Heap) (locs : List Loc) (ls : Array Slot), x_I E A s.heap (mw E ad z.1) H locs → lv_has ls 6 [(0, .ref (ad 799)), (3, .int z.2.1), (4, .int z.2.2)] → W p l e { frames := 4, cells := 0, slots := 0, locals := 111 } s m args below meth c H locs 0 0 Q (F0 m 110 ls []) :=
  x_loop_ind (P := fun (z : x_S × Int32 × Int32) => ∀ (H : Heap) (locs : List Loc) (ls : Array Slot), x_I E A s.heap (mw E ad z.1) H locs → lv_has ls 6 [(0, .ref (ad 799)), (3, .int z.2.1), (4, .int z.2.2)] → W p l e { frames := 4, cells := 0, slots := 0, locals := 111 } s m args below meth c H locs 0 0 Q (F0 m 110 ls [])) (fun rec hrec z hf H locs ls hI hl => w_X7_of_110 hC hR hrec hI hl hf)
def f_X7_of_58 (n : Nat) (rec58 : x_S × Int32 × Int32 → Option (Int32 × x_S)) (S : x_S) (a1 : Int32) (a3 : Int32) : Option (Int32 × x_S) :=
x_b2 (f_X7_areLike n S a3 a1) (fun v25 S =>
if v25 = 0 then
rec58 (S, a1, (a3 + (1 : Int32)))
else
some (a3, S))
set_option maxHeartbeats 4000000 in
set_option maxRecDepth 100000 in
theorem w_X7_of_58 {r : Int32 × x_S} {a1 : Int32} {a3 : Int32} {rec58 : x_S × Int32 × Int32 → Option (Int32 × x_S)} (hC : x_C p s m args meth c cX7_of 6 RX7 E A) (hR : x_Ri p l e { frames := 4, cells := 0, slots := 0, locals := 111 } s m args below meth c cX7_of E A Q (mw E ad r.2) r.1) (hrec58 : ∀ z : x_S × Int32 × Int32, rec58 z = some r → ∀ (H : Heap) (locs : List Loc) (ls : Array Slot), x_I E A s.heap (mw E ad z.1) H locs → lv_has ls 6 [(0, .ref (ad 799)), (1, .int z.2.1), (3, .int z.2.2)] → W p l e { frames := 4, cells := 0, slots := 0, locals := 111 } s m args below meth c H locs 0 0 Q (F0 m 58 ls [])) (hI : x_I E A s.heap (mw E ad S) H locs) (hl : lv_has ls 6 [(0, .ref (ad 799)), (1, .int a1), (3, .int a3)]) (hf : f_X7_of_58 n rec58 S a1 a3 = some r) : W p l e { frames := 4, cells := 0, slots := 0, locals := 111 } s m args below meth c H locs 0 0 Q (F0 m 58 ls []) := by
  obtain ⟨hx, hb, hml, hown, hts, hK, hN, hA⟩ := id hC
  unfold f_X7_of_58 at hf
  refine lv_aload_n hx hb dX7_of_58 rfl (lv_at hl 0 rfl) ?_
  refine lv_iload_n hx hb dX7_of_59 rfl (lv_at hl 2 rfl) ?_
  refine lv_iload_n hx hb dX7_of_60 rfl (lv_at hl 1 rfl) ?_
  obtain ⟨v25, S, hc24, hf⟩ := x_b2_eq hf
  refine x_callV hC hI (c_X7_areLike hc24) 0 7 rfl rfl kv_X7_194 rfl ⟨Nat.le_of_ble_eq_true rfl, Nat.le_of_ble_eq_true rfl⟩ ⟨Nat.le_refl _, Nat.le_refl _⟩ hl.1 rfl (Nat.le_of_ble_eq_true rfl) dX7_of_61 (fun H locs hI => ?_)
  refine x_ne0 hC 73 hf dX7_of_64 (by decide) (fun hf => ?_) (fun hf => ?_)
  · refine lv_iload_n hx hb dX7_of_73 rfl (lv_at hl 2 rfl) ?_
    obtain rfl := Option.some.inj hf
    exact hR _ _ _ _ hI dX7_of_74
  · refine lv_iinc (v := (a3 + (1 : Int32))) (lv' := [(3, .int (a3 + (1 : Int32))), (0, .ref (ad 799)), (1, .int a1)]) hx hb dX7_of_67 hl (k := 2) rfl rfl (by decide) rfl (fun ls hl => ?_)
    refine lv_goto (tgt := 58) hx hb dX7_of_70 (by decide) ?_
    exact hrec58 _ hf _ _ _ hI (lv_sub hl [1, 2, 0] rfl)
theorem w_X7_of_58_loop {r : Int32 × x_S} (hC : x_C p s m args meth c cX7_of 6 RX7 E A) (hR : x_Ri p l e { frames := 4, cells := 0, slots := 0, locals := 111 } s m args below meth c cX7_of E A Q (mw E ad r.2) r.1) : ∀ (k : Nat) (z : x_S × Int32 × Int32), x_loop (fun rec z => f_X7_of_58 n rec z.1 z.2.1 z.2.2) k z = some r → ∀ (H : Heap) (locs : List Loc) (ls : Array Slot), x_I E A s.heap (mw E ad z.1) H locs → lv_has ls 6 [(0, .ref (ad 799)), (1, .int z.2.1), (3, .int z.2.2)] → W p l e { frames := 4, cells := 0, slots := 0, locals := 111 } s m args below meth c H locs 0 0 Q (F0 m 58 ls []) :=
  x_loop_ind (P := fun (z : x_S × Int32 × Int32) => ∀ (H : Heap) (locs : List Loc) (ls : Array Slot), x_I E A s.heap (mw E ad z.1) H locs → lv_has ls 6 [(0, .ref (ad 799)), (1, .int z.2.1), (3, .int z.2.2)] → W p l e { frames := 4, cells := 0, slots := 0, locals := 111 } s m args below meth c H locs 0 0 Q (F0 m 58 ls [])) (fun rec hrec z hf H locs ls hI hl => w_X7_of_58 hC hR hrec hI hl hf)
def f_X7_of (n : Nat) (S : x_S) (a1 : Int32) (a2 : Int32) : Option (Int32 × x_S) :=
x_b2 (f_X7_isRoutine n S a1) (fun v2 S =>
if v2 = 0 then
some ((-2 : Int32), S)
else
x_b (f_X7_in n a2 (0 : Int32) (7 : Int32)) (fun v4 =>
if v4 = 0 then
some ((-2 : Int32), S)
else
if a2 = 0 then
x_g (¬ (a1 < 0 ∨ 12 ≤ (a1).toNatClampNeg)) (x_let (g_ar S 701 (a1).toNatClampNeg) (fun v28 =>
some (v28, S)))
else
if a2 = (1 : Int32) then
x_b2 (f_X7_isWhole n S a1) (fun v27 S =>
if v27 = 0 then
some ((0 : Int32), S)
else
some ((1 : Int32), S))
else
if a2 = (2 : Int32) then
x_loop (fun rec z => f_X7_of_58 n rec z.1 z.2.1 z.2.2) n (S, a1, (0 : Int32))
else
x_b2 (f_X7_isWhole n S a1) (fun v6 S =>
if v6 = 0 then
some ((-1 : Int32), S)
else
x_b (f_X7_read n S a1) (fun S =>
if a2 = (3 : Int32) then
x_let (g_sc S 715) (fun v23 =>
some (v23, S))
else
if a2 = (4 : Int32) then
x_loop (fun rec z => f_X7_of_110 n rec z.1 z.2.1 z.2.2) n (S, (0 : Int32), (0 : Int32))
else
if a2 = (5 : Int32) then
x_b (f_X7_come n S a1) (fun S =>
x_loop (fun rec z => f_X7_of_172 n rec z.1 z.2.1 z.2.2.1 z.2.2.2) n (S, a1, (0 : Int32), (0 : Int32)))
else
if a2 = (6 : Int32) then
x_loop (fun rec z => f_X7_of_220 n rec z.1 z.2.1 z.2.2) n (S, (1 : Int32), (0 : Int32))
else
x_loop (fun rec z => f_X7_of_282 n rec z.1 z.2.1 z.2.2.1 z.2.2.2) n (S, a1, (0 : Int32), (0 : Int32))))))
set_option maxHeartbeats 4000000 in
set_option maxRecDepth 100000 in
theorem w_X7_of {r : Int32 × x_S} {a1 : Int32} {a2 : Int32} (hC : x_C p s m args meth c cX7_of 6 RX7 E A) (hR : x_Ri p l e { frames := 4, cells := 0, slots := 0, locals := 111 } s m args below meth c cX7_of E A Q (mw E ad r.2) r.1) (hI : x_I E A s.heap (mw E ad S) H locs) (hl : lv_has ls 6 [(0, .ref (ad 799)), (1, .int a1), (2, .int a2)]) (hf : f_X7_of n S a1 a2 = some r) : W p l e { frames := 4, cells := 0, slots := 0, locals := 111 } s m args below meth c H locs 0 0 Q (F0 m 0 ls []) := by
  obtain ⟨hx, hb, hml, hown, hts, hK, hN, hA⟩ := id hC
  unfold f_X7_of at hf
  refine lv_aload_n hx hb dX7_of_0 rfl (lv_at hl 0 rfl) ?_
  refine lv_iload_n hx hb dX7_of_1 rfl (lv_at hl 1 rfl) ?_
  obtain ⟨v2, S, hc1, hf⟩ := x_b2_eq hf
  refine x_callV hC hI (c_X7_isRoutine hc1) 0 7 rfl rfl kv_X7_142 rfl ⟨Nat.le_of_ble_eq_true rfl, Nat.le_of_ble_eq_true rfl⟩ ⟨Nat.le_refl _, Nat.le_refl _⟩ hl.1 rfl (Nat.le_of_ble_eq_true rfl) dX7_of_2 (fun H locs hI => ?_)
  refine x_eq0 hC 18 hf dX7_of_5 (by decide) (fun hf => ?_) (fun hf => ?_)
  · refine lv_bipush (v := (-2 : Int32)) hx hb dX7_of_18 (by decide) ?_
    obtain rfl := Option.some.inj hf
    exact hR _ _ _ _ hI dX7_of_20
  · refine lv_iload_n hx hb dX7_of_8 rfl (lv_at hl 2 rfl) ?_
    refine lv_iconst (v := (0 : Int32)) hx hb dX7_of_9 (by decide) ?_
    refine lv_bipush (v := (7 : Int32)) hx hb dX7_of_10 (by decide) ?_
    obtain ⟨v4, hc3, hf⟩ := x_b_eq hf
    refine x_callS hC hI (c_X7_in hc3) ks_X7_138 rfl ⟨Nat.le_of_ble_eq_true rfl, Nat.le_of_ble_eq_true rfl⟩ ⟨Nat.le_refl _, Nat.le_refl _⟩ hl.1 rfl (Nat.le_of_ble_eq_true rfl) dX7_of_12 (fun H locs hI => ?_)
    refine x_ne0 hC 21 hf dX7_of_15 (by decide) (fun hf => ?_) (fun hf => ?_)
    · refine lv_iload_n hx hb dX7_of_21 rfl (lv_at hl 2 rfl) ?_
      refine x_ne0 hC 32 hf dX7_of_22 (by decide) (fun hf => ?_) (fun hf => ?_)
      · refine lv_iload_n hx hb dX7_of_32 rfl (lv_at hl 2 rfl) ?_
        refine lv_iconst (v := (1 : Int32)) hx hb dX7_of_33 (by decide) ?_
        refine x_ine hC 51 hf dX7_of_34 (by decide) (fun hf => ?_) (fun hf => ?_)
        · refine lv_iload_n hx hb dX7_of_51 rfl (lv_at hl 2 rfl) ?_
          refine lv_iconst (v := (2 : Int32)) hx hb dX7_of_52 (by decide) ?_
          refine x_ine hC 75 hf dX7_of_53 (by decide) (fun hf => ?_) (fun hf => ?_)
          · refine lv_aload_n hx hb dX7_of_75 rfl (lv_at hl 0 rfl) ?_
            refine lv_iload_n hx hb dX7_of_76 rfl (lv_at hl 1 rfl) ?_
            obtain ⟨v6, S, hc5, hf⟩ := x_b2_eq hf
            refine x_callV hC hI (c_X7_isWhole hc5) 0 7 rfl rfl kv_X7_184 rfl ⟨Nat.le_of_ble_eq_true rfl, Nat.le_of_ble_eq_true rfl⟩ ⟨Nat.le_refl _, Nat.le_refl _⟩ hl.1 rfl (Nat.le_of_ble_eq_true rfl) dX7_of_77 (fun H locs hI => ?_)
            refine x_ne0 hC 85 hf dX7_of_80 (by decide) (fun hf => ?_) (fun hf => ?_)
            · refine lv_aload_n hx hb dX7_of_85 rfl (lv_at hl 0 rfl) ?_
              refine lv_iload_n hx hb dX7_of_86 rfl (lv_at hl 1 rfl) ?_
              obtain ⟨S, hc7, hf⟩ := x_b_eq hf
              refine x_callV hC hI (c_X7_read hc7) 0 7 rfl rfl kv_X7_191 rfl ⟨Nat.le_of_ble_eq_true rfl, Nat.le_of_ble_eq_true rfl⟩ ⟨Nat.le_refl _, Nat.le_refl _⟩ hl.1 rfl (Nat.le_of_ble_eq_true rfl) dX7_of_87 (fun H locs hI => ?_)
              refine lv_iconst (v := (0 : Int32)) hx hb dX7_of_90 (by decide) ?_
              refine lv_istore_n (lv' := [(3, .int (0 : Int32)), (0, .ref (ad 799)), (1, .int a1), (2, .int a2)]) hx hb dX7_of_91 rfl hl (by decide) rfl (fun ls hl => ?_)
              refine lv_iload_n hx hb dX7_of_92 rfl (lv_at hl 3 rfl) ?_
              refine lv_iconst (v := (3 : Int32)) hx hb dX7_of_93 (by decide) ?_
              refine x_ine hC 102 hf dX7_of_94 (by decide) (fun hf => ?_) (fun hf => ?_)
              · refine lv_iload_n hx hb dX7_of_102 rfl (lv_at hl 3 rfl) ?_
                refine lv_iconst (v := (4 : Int32)) hx hb dX7_of_103 (by decide) ?_
                refine x_ine hC 159 hf dX7_of_104 (by decide) (fun hf => ?_) (fun hf => ?_)
                · refine lv_iload_n hx hb dX7_of_159 rfl (lv_at hl 3 rfl) ?_
                  refine lv_iconst (v := (5 : Int32)) hx hb dX7_of_160 (by decide) ?_
                  refine x_ine hC 209 hf dX7_of_161 (by decide) (fun hf => ?_) (fun hf => ?_)
                  · refine lv_iload_n hx hb dX7_of_209 rfl (lv_at hl 3 rfl) ?_
                    refine lv_bipush (v := (6 : Int32)) hx hb dX7_of_210 (by decide) ?_
                    refine x_ine hC 279 hf dX7_of_212 (by decide) (fun hf => ?_) (fun hf => ?_)
                    · refine lv_iconst (v := (0 : Int32)) hx hb dX7_of_279 (by decide) ?_
                      refine lv_istore (lv' := [(4, .int (0 : Int32)), (3, .int (0 : Int32)), (0, .ref (ad 799)), (1, .int a1), (2, .int a2)]) hx hb dX7_of_280 hl (by decide) rfl (fun ls hl => ?_)
                      exact w_X7_of_282_loop hC hR _ _ hf _ _ _ hI (lv_sub hl [2, 3, 1, 0] rfl)
                    · refine lv_iconst (v := (1 : Int32)) hx hb dX7_of_215 (by decide) ?_
                      refine lv_istore_n (lv' := [(3, .int (1 : Int32)), (0, .ref (ad 799)), (1, .int a1), (2, .int a2)]) hx hb dX7_of_216 rfl hl (by decide) rfl (fun ls hl => ?_)
                      refine lv_iconst (v := (0 : Int32)) hx hb dX7_of_217 (by decide) ?_
                      refine lv_istore (lv' := [(4, .int (0 : Int32)), (3, .int (1 : Int32)), (0, .ref (ad 799)), (1, .int a1), (2, .int a2)]) hx hb dX7_of_218 hl (by decide) rfl (fun ls hl => ?_)
                      exact w_X7_of_220_loop hC hR _ _ hf _ _ _ hI (lv_sub hl [2, 1, 0] rfl)
                  · refine lv_aload_n hx hb dX7_of_164 rfl (lv_at hl 1 rfl) ?_
                    refine lv_iload_n hx hb dX7_of_165 rfl (lv_at hl 2 rfl) ?_
                    obtain ⟨S, hc17, hf⟩ := x_b_eq hf
                    refine x_callV hC hI (c_X7_come hc17) 0 7 rfl rfl kv_X7_187 rfl ⟨Nat.le_of_ble_eq_true rfl, Nat.le_of_ble_eq_true rfl⟩ ⟨Nat.le_refl _, Nat.le_refl _⟩ hl.1 rfl (Nat.le_of_ble_eq_true rfl) dX7_of_166 (fun H locs hI => ?_)
                    refine lv_iconst (v := (0 : Int32)) hx hb dX7_of_169 (by decide) ?_
                    refine lv_istore (lv' := [(4, .int (0 : Int32)), (3, .int (0 : Int32)), (0, .ref (ad 799)), (1, .int a1), (2, .int a2)]) hx hb dX7_of_170 hl (by decide) rfl (fun ls hl => ?_)
                    exact w_X7_of_172_loop hC hR _ _ hf _ _ _ hI (lv_sub hl [2, 3, 1, 0] rfl)
                · refine lv_iconst (v := (0 : Int32)) hx hb dX7_of_107 (by decide) ?_
                  refine lv_istore (lv' := [(4, .int (0 : Int32)), (3, .int (0 : Int32)), (0, .ref (ad 799)), (1, .int a1), (2, .int a2)]) hx hb dX7_of_108 hl (by decide) rfl (fun ls hl => ?_)
                  exact w_X7_of_110_loop hC hR _ _ hf _ _ _ hI (lv_sub hl [2, 1, 0] rfl)
              · refine lv_aload_n hx hb dX7_of_97 rfl (lv_at hl 1 rfl) ?_
                refine gX7_15 hC hI hf lkf_X7_160 dX7_of_98 (fun v23 hf => ?_)
                obtain rfl := Option.some.inj hf
                exact hR _ _ _ _ hI dX7_of_101
            · refine lv_iconst (v := (-1 : Int32)) hx hb dX7_of_83 (by decide) ?_
              obtain rfl := Option.some.inj hf
              exact hR _ _ _ _ hI dX7_of_84
          · refine lv_iconst (v := (0 : Int32)) hx hb dX7_of_56 (by decide) ?_
            refine lv_istore_n (lv' := [(3, .int (0 : Int32)), (0, .ref (ad 799)), (1, .int a1), (2, .int a2)]) hx hb dX7_of_57 rfl hl (by decide) rfl (fun ls hl => ?_)
            exact w_X7_of_58_loop hC hR _ _ hf _ _ _ hI (lv_sub hl [1, 2, 0] rfl)
        · refine lv_aload_n hx hb dX7_of_37 rfl (lv_at hl 0 rfl) ?_
          refine lv_iload_n hx hb dX7_of_38 rfl (lv_at hl 1 rfl) ?_
          obtain ⟨v27, S, hc26, hf⟩ := x_b2_eq hf
          refine x_callV hC hI (c_X7_isWhole hc26) 0 7 rfl rfl kv_X7_184 rfl ⟨Nat.le_of_ble_eq_true rfl, Nat.le_of_ble_eq_true rfl⟩ ⟨Nat.le_refl _, Nat.le_refl _⟩ hl.1 rfl (Nat.le_of_ble_eq_true rfl) dX7_of_39 (fun H locs hI => ?_)
          refine x_eq0 hC 49 hf dX7_of_42 (by decide) (fun hf => ?_) (fun hf => ?_)
          · refine lv_iconst (v := (0 : Int32)) hx hb dX7_of_49 (by decide) ?_
            obtain rfl := Option.some.inj hf
            exact hR _ _ _ _ hI dX7_of_50
          · refine lv_iconst (v := (1 : Int32)) hx hb dX7_of_45 (by decide) ?_
            refine lv_goto (tgt := 50) hx hb dX7_of_46 (by decide) ?_
            obtain rfl := Option.some.inj hf
            exact hR _ _ _ _ hI dX7_of_50
      · refine lv_aload_n hx hb dX7_of_25 rfl (lv_at hl 0 rfl) ?_
        refine gX7_1 hC hI lkf_X7_7 dX7_of_26 ?_
        refine lv_iload_n hx hb dX7_of_29 rfl (lv_at hl 1 rfl) ?_
        refine aX7_1 hC hI hf dX7_of_30 (fun v28 hf => ?_)
        obtain rfl := Option.some.inj hf
        exact hR _ _ _ _ hI dX7_of_31
    · refine lv_bipush (v := (-2 : Int32)) hx hb dX7_of_18 (by decide) ?_
      obtain rfl := Option.some.inj hf
      exact hR _ _ _ _ hI dX7_of_20
theorem c_X7_of {a1 : Int32} {a2 : Int32} {v : Int32} {S1 : x_S} (hf : f_X7_of n S a1 a2 = some (v, S1)) : x_M l yX7_of cX7_of 6 (some .int) 4 111 E [.ref (ad 799), .int a1, .int a2] (mw E ad S) (mw E ad S1) (some (.int v)) :=
  x_entI (by decide) (Nat.le_of_ble_eq_true rfl) (fun p e s m args below meth c A Q ls hC hI hR hl => w_X7_of (r := (v, S1)) hC hR hI hl hf)
-- X7_isWithin
def f_X7_isWithin_31 (n : Nat) (rec10 : x_S × Int32 × Int32 × Int32 → Option (Int32 × x_S)) (S : x_S) (a2 : Int32) (a4 : Int32) (t0 : Int32) : Option (Int32 × x_S) :=
x_g (¬ (a4 < 0 ∨ 200 ≤ (a4).toNatClampNeg)) (x_let (g_ar S 719 (a4).toNatClampNeg) (fun v2 =>
rec10 (S, a2, t0, v2)))
set_option maxHeartbeats 4000000 in
set_option maxRecDepth 100000 in
theorem w_X7_isWithin_31 {r : Int32 × x_S} {a2 : Int32} {a4 : Int32} {t0 : Int32} {rec10 : x_S × Int32 × Int32 × Int32 → Option (Int32 × x_S)} (hC : x_C p s m args meth c cX7_isWithin 5 RX7 E A) (hR : x_Rz p l e { frames := 0, cells := 0, slots := 0, locals := 0 } s m args below meth c cX7_isWithin E A Q (mw E ad r.2) r.1) (hrec10 : ∀ z : x_S × Int32 × Int32 × Int32, rec10 z = some r → ∀ (H : Heap) (locs : List Loc) (ls : Array Slot), x_I E A s.heap (mw E ad z.1) H locs → lv_has ls 5 [(0, .ref (ad 799)), (2, .int z.2.1), (3, .int z.2.2.1), (4, .int z.2.2.2)] → W p l e { frames := 0, cells := 0, slots := 0, locals := 0 } s m args below meth c H locs 0 0 Q (F0 m 10 ls [])) (hI : x_I E A s.heap (mw E ad S) H locs) (hl : lv_has ls 5 [(0, .ref (ad 799)), (2, .int a2), (4, .int a4)]) (hf : f_X7_isWithin_31 n rec10 S a2 a4 t0 = some r) : W p l e { frames := 0, cells := 0, slots := 0, locals := 0 } s m args below meth c H locs 0 0 Q (F0 m 31 ls [.int t0]) := by
  obtain ⟨hx, hb, hml, hown, hts, hK, hN, hA⟩ := id hC
  unfold f_X7_isWithin_31 at hf
  refine lv_istore_n (lv' := [(3, .int t0), (0, .ref (ad 799)), (2, .int a2), (4, .int a4)]) hx hb dX7_isWithin_31 rfl hl (by decide) rfl (fun ls hl => ?_)
  refine lv_aload_n hx hb dX7_isWithin_32 rfl (lv_at hl 1 rfl) ?_
  refine gX7_19 hC hI lkf_X7_50 dX7_isWithin_33 ?_
  refine lv_iload hx hb dX7_isWithin_36 (lv_at hl 3 rfl) ?_
  refine aX7_19 hC hI hf dX7_isWithin_38 (fun v2 hf => ?_)
  refine lv_istore (lv' := [(4, .int v2), (3, .int t0), (0, .ref (ad 799)), (2, .int a2)]) hx hb dX7_isWithin_39 hl (by decide) rfl (fun ls hl => ?_)
  refine lv_goto (tgt := 10) hx hb dX7_isWithin_41 (by decide) ?_
  exact hrec10 _ hf _ _ _ hI (lv_sub hl [2, 3, 1, 0] rfl)
def f_X7_isWithin_26 (n : Nat) (rec10 : x_S × Int32 × Int32 × Int32 → Option (Int32 × x_S)) (S : x_S) (a2 : Int32) (a4 : Int32) : Option (Int32 × x_S) :=
f_X7_isWithin_31 n rec10 S a2 a4 (1 : Int32)
set_option maxHeartbeats 4000000 in
set_option maxRecDepth 100000 in
theorem w_X7_isWithin_26 {r : Int32 × x_S} {a2 : Int32} {a4 : Int32} {rec10 : x_S × Int32 × Int32 × Int32 → Option (Int32 × x_S)} (hC : x_C p s m args meth c cX7_isWithin 5 RX7 E A) (hR : x_Rz p l e { frames := 0, cells := 0, slots := 0, locals := 0 } s m args below meth c cX7_isWithin E A Q (mw E ad r.2) r.1) (hrec10 : ∀ z : x_S × Int32 × Int32 × Int32, rec10 z = some r → ∀ (H : Heap) (locs : List Loc) (ls : Array Slot), x_I E A s.heap (mw E ad z.1) H locs → lv_has ls 5 [(0, .ref (ad 799)), (2, .int z.2.1), (3, .int z.2.2.1), (4, .int z.2.2.2)] → W p l e { frames := 0, cells := 0, slots := 0, locals := 0 } s m args below meth c H locs 0 0 Q (F0 m 10 ls [])) (hI : x_I E A s.heap (mw E ad S) H locs) (hl : lv_has ls 5 [(0, .ref (ad 799)), (2, .int a2), (4, .int a4)]) (hf : f_X7_isWithin_26 n rec10 S a2 a4 = some r) : W p l e { frames := 0, cells := 0, slots := 0, locals := 0 } s m args below meth c H locs 0 0 Q (F0 m 26 ls []) := by
  obtain ⟨hx, hb, hml, hown, hts, hK, hN, hA⟩ := id hC
  unfold f_X7_isWithin_26 at hf
  refine lv_iconst (v := (1 : Int32)) hx hb dX7_isWithin_26 (by decide) ?_
  refine lv_goto (tgt := 31) hx hb dX7_isWithin_27 (by decide) ?_
  exact w_X7_isWithin_31 hC hR hrec10 hI (lv_sub hl [0, 1, 2] rfl) hf
def f_X7_isWithin_10 (n : Nat) (rec10 : x_S × Int32 × Int32 × Int32 → Option (Int32 × x_S)) (S : x_S) (a2 : Int32) (a3 : Int32) (a4 : Int32) : Option (Int32 × x_S) :=
if a4 = (-1 : Int32) then
x_g (a3 = 0 ∨ a3 = 1) (some (a3, S))
else
if a3 = 0 then
if a4 = a2 then
f_X7_isWithin_26 n rec10 S a2 a4
else
f_X7_isWithin_31 n rec10 S a2 a4 (0 : Int32)
else
f_X7_isWithin_26 n rec10 S a2 a4
set_option maxHeartbeats 4000000 in
set_option maxRecDepth 100000 in
theorem w_X7_isWithin_10 {r : Int32 × x_S} {a2 : Int32} {a3 : Int32} {a4 : Int32} {rec10 : x_S × Int32 × Int32 × Int32 → Option (Int32 × x_S)} (hC : x_C p s m args meth c cX7_isWithin 5 RX7 E A) (hR : x_Rz p l e { frames := 0, cells := 0, slots := 0, locals := 0 } s m args below meth c cX7_isWithin E A Q (mw E ad r.2) r.1) (hrec10 : ∀ z : x_S × Int32 × Int32 × Int32, rec10 z = some r → ∀ (H : Heap) (locs : List Loc) (ls : Array Slot), x_I E A s.heap (mw E ad z.1) H locs → lv_has ls 5 [(0, .ref (ad 799)), (2, .int z.2.1), (3, .int z.2.2.1), (4, .int z.2.2.2)] → W p l e { frames := 0, cells := 0, slots := 0, locals := 0 } s m args below meth c H locs 0 0 Q (F0 m 10 ls [])) (hI : x_I E A s.heap (mw E ad S) H locs) (hl : lv_has ls 5 [(0, .ref (ad 799)), (2, .int a2), (3, .int a3), (4, .int a4)]) (hf : f_X7_isWithin_10 n rec10 S a2 a3 a4 = some r) : W p l e { frames := 0, cells := 0, slots := 0, locals := 0 } s m args below meth c H locs 0 0 Q (F0 m 10 ls []) := by
  obtain ⟨hx, hb, hml, hown, hts, hK, hN, hA⟩ := id hC
  unfold f_X7_isWithin_10 at hf
  refine lv_iload hx hb dX7_isWithin_10 (lv_at hl 3 rfl) ?_
  refine lv_iconst (v := (-1 : Int32)) hx hb dX7_isWithin_12 (by decide) ?_
  refine x_ieq hC 44 hf dX7_isWithin_13 (by decide) (fun hf => ?_) (fun hf => ?_)
  · refine lv_iload_n hx hb dX7_isWithin_44 rfl (lv_at hl 2 rfl) ?_
    obtain ⟨h9, hf⟩ := x_g_eq hf
    obtain rfl := Option.some.inj hf
    exact hR _ _ _ _ h9 hI dX7_isWithin_45
  · refine lv_iload_n hx hb dX7_isWithin_16 rfl (lv_at hl 2 rfl) ?_
    refine x_ne0 hC 26 hf dX7_isWithin_17 (by decide) (fun hf => ?_) (fun hf => ?_)
    · exact w_X7_isWithin_26 hC hR hrec10 hI (lv_sub hl [0, 1, 3] rfl) hf
    · refine lv_iload hx hb dX7_isWithin_20 (lv_at hl 3 rfl) ?_
      refine lv_iload_n hx hb dX7_isWithin_22 rfl (lv_at hl 1 rfl) ?_
      refine x_ine hC 30 hf dX7_isWithin_23 (by decide) (fun hf => ?_) (fun hf => ?_)
      · refine lv_iconst (v := (0 : Int32)) hx hb dX7_isWithin_30 (by decide) ?_
        exact w_X7_isWithin_31 hC hR hrec10 hI (lv_sub hl [0, 1, 3] rfl) hf
      · exact w_X7_isWithin_26 hC hR hrec10 hI (lv_sub hl [0, 1, 3] rfl) hf
theorem w_X7_isWithin_10_loop {r : Int32 × x_S} (hC : x_C p s m args meth c cX7_isWithin 5 RX7 E A) (hR : x_Rz p l e { frames := 0, cells := 0, slots := 0, locals := 0 } s m args below meth c cX7_isWithin E A Q (mw E ad r.2) r.1) : ∀ (k : Nat) (z : x_S × Int32 × Int32 × Int32), x_loop (fun rec z => f_X7_isWithin_10 n rec z.1 z.2.1 z.2.2.1 z.2.2.2) k z = some r → ∀ (H : Heap) (locs : List Loc) (ls : Array Slot), x_I E A s.heap (mw E ad z.1) H locs → lv_has ls 5 [(0, .ref (ad 799)), (2, .int z.2.1), (3, .int z.2.2.1), (4, .int z.2.2.2)] → W p l e { frames := 0, cells := 0, slots := 0, locals := 0 } s m args below meth c H locs 0 0 Q (F0 m 10 ls []) :=
  x_loop_ind (P := fun (z : x_S × Int32 × Int32 × Int32) => ∀ (H : Heap) (locs : List Loc) (ls : Array Slot), x_I E A s.heap (mw E ad z.1) H locs → lv_has ls 5 [(0, .ref (ad 799)), (2, .int z.2.1), (3, .int z.2.2.1), (4, .int z.2.2.2)] → W p l e { frames := 0, cells := 0, slots := 0, locals := 0 } s m args below meth c H locs 0 0 Q (F0 m 10 ls [])) (fun rec hrec z hf H locs ls hI hl => w_X7_isWithin_10 hC hR hrec hI hl hf)
def f_X7_isWithin (n : Nat) (S : x_S) (a1 : Int32) (a2 : Int32) : Option (Int32 × x_S) :=
x_g (¬ (a1 < 0 ∨ 200 ≤ (a1).toNatClampNeg)) (x_let (g_ar S 719 (a1).toNatClampNeg) (fun v1 =>
x_loop (fun rec z => f_X7_isWithin_10 n rec z.1 z.2.1 z.2.2.1 z.2.2.2) n (S, a2, (0 : Int32), v1)))
set_option maxHeartbeats 4000000 in
set_option maxRecDepth 100000 in
theorem w_X7_isWithin {r : Int32 × x_S} {a1 : Int32} {a2 : Int32} (hC : x_C p s m args meth c cX7_isWithin 5 RX7 E A) (hR : x_Rz p l e { frames := 0, cells := 0, slots := 0, locals := 0 } s m args below meth c cX7_isWithin E A Q (mw E ad r.2) r.1) (hI : x_I E A s.heap (mw E ad S) H locs) (hl : lv_has ls 5 [(0, .ref (ad 799)), (1, .int a1), (2, .int a2)]) (hf : f_X7_isWithin n S a1 a2 = some r) : W p l e { frames := 0, cells := 0, slots := 0, locals := 0 } s m args below meth c H locs 0 0 Q (F0 m 0 ls []) := by
  obtain ⟨hx, hb, hml, hown, hts, hK, hN, hA⟩ := id hC
  unfold f_X7_isWithin at hf
  refine lv_iconst (v := (0 : Int32)) hx hb dX7_isWithin_0 (by decide) ?_
  refine lv_istore_n (lv' := [(3, .int (0 : Int32)), (0, .ref (ad 799)), (1, .int a1), (2, .int a2)]) hx hb dX7_isWithin_1 rfl hl (by decide) rfl (fun ls hl => ?_)
  refine lv_aload_n hx hb dX7_isWithin_2 rfl (lv_at hl 1 rfl) ?_
  refine gX7_19 hC hI lkf_X7_50 dX7_isWithin_3 ?_
  refine lv_iload_n hx hb dX7_isWithin_6 rfl (lv_at hl 2 rfl) ?_
  refine aX7_19 hC hI hf dX7_isWithin_7 (fun v1 hf => ?_)
  refine lv_istore (lv' := [(4, .int v1), (3, .int (0 : Int32)), (0, .ref (ad 799)), (1, .int a1), (2, .int a2)]) hx hb dX7_isWithin_8 hl (by decide) rfl (fun ls hl => ?_)
  exact w_X7_isWithin_10_loop hC hR _ _ hf _ _ _ hI (lv_sub hl [2, 4, 1, 0] rfl)
theorem c_X7_isWithin {a1 : Int32} {a2 : Int32} {v : Int32} {S1 : x_S} (hf : f_X7_isWithin n S a1 a2 = some (v, S1)) : x_M l yX7_isWithin cX7_isWithin 5 (some .boolean) 0 0 E [.ref (ad 799), .int a1, .int a2] (mw E ad S) (mw E ad S1) (some (.int v)) :=
  x_entZ (by decide) (Nat.le_of_ble_eq_true rfl) (fun p e s m args below meth c A Q ls hC hI hR hl => w_X7_isWithin (r := (v, S1)) hC hR hI hl hf)
-- X7_statement
def f_X7_statement_152 (n : Nat) (rec126 : x_S × Int32 × Int32 × Int32 → Option (Int32 × x_S)) (S : x_S) (a2 : Int32) (a5 : Int32) (t0 : Int32) (t1 : Int32) : Option (Int32 × x_S) :=
rec126 (S, a2, (t1 + t0), (a5 + (1 : Int32)))
set_option maxHeartbeats 4000000 in
set_option maxRecDepth 100000 in
theorem w_X7_statement_152 {r : Int32 × x_S} {a2 : Int32} {a5 : Int32} {t0 : Int32} {t1 : Int32} {rec126 : x_S × Int32 × Int32 × Int32 → Option (Int32 × x_S)} (hC : x_C p s m args meth c cX7_statement 6 RX7 E A) (hR : x_Ri p l e { frames := 4, cells := 0, slots := 0, locals := 111 } s m args below meth c cX7_statement E A Q (mw E ad r.2) r.1) (hrec126 : ∀ z : x_S × Int32 × Int32 × Int32, rec126 z = some r → ∀ (H : Heap) (locs : List Loc) (ls : Array Slot), x_I E A s.heap (mw E ad z.1) H locs → lv_has ls 6 [(0, .ref (ad 799)), (2, .int z.2.1), (4, .int z.2.2.1), (5, .int z.2.2.2)] → W p l e { frames := 4, cells := 0, slots := 0, locals := 111 } s m args below meth c H locs 0 0 Q (F0 m 126 ls [])) (hI : x_I E A s.heap (mw E ad S) H locs) (hl : lv_has ls 6 [(0, .ref (ad 799)), (2, .int a2), (5, .int a5)]) (hf : f_X7_statement_152 n rec126 S a2 a5 t0 t1 = some r) : W p l e { frames := 4, cells := 0, slots := 0, locals := 111 } s m args below meth c H locs 0 0 Q (F0 m 152 ls [.int t0, .int t1]) := by
  obtain ⟨hx, hb, hml, hown, hts, hK, hN, hA⟩ := id hC
  unfold f_X7_statement_152 at hf
  refine lv_iadd hx hb dX7_statement_152 ?_
  refine lv_istore (lv' := [(4, .int (t1 + t0)), (0, .ref (ad 799)), (2, .int a2), (5, .int a5)]) hx hb dX7_statement_153 hl (by decide) rfl (fun ls hl => ?_)
  refine lv_iinc (v := (a5 + (1 : Int32))) (lv' := [(5, .int (a5 + (1 : Int32))), (4, .int (t1 + t0)), (0, .ref (ad 799)), (2, .int a2)]) hx hb dX7_statement_155 hl (k := 3) rfl rfl (by decide) rfl (fun ls hl => ?_)
  refine lv_goto (tgt := 126) hx hb dX7_statement_158 (by decide) ?_
  exact hrec126 _ hf _ _ _ hI (lv_sub hl [2, 3, 1, 0] rfl)
def f_X7_statement_126 (n : Nat) (rec126 : x_S × Int32 × Int32 × Int32 → Option (Int32 × x_S)) (S : x_S) (a2 : Int32) (a4 : Int32) (a5 : Int32) : Option (Int32 × x_S) :=
x_let (g_sc S 715) (fun v11 =>
if v11 ≤ a5 then
some (a4, S)
else
x_b2 (f_X7_isWithin n S a5 a2) (fun v13 S =>
if v13 = 0 then
f_X7_statement_152 n rec126 S a2 a5 (0 : Int32) a4
else
f_X7_statement_152 n rec126 S a2 a5 (1 : Int32) a4))
set_option maxHeartbeats 4000000 in
set_option maxRecDepth 100000 in
theorem w_X7_statement_126 {r : Int32 × x_S} {a2 : Int32} {a4 : Int32} {a5 : Int32} {rec126 : x_S × Int32 × Int32 × Int32 → Option (Int32 × x_S)} (hC : x_C p s m args meth c cX7_statement 6 RX7 E A) (hR : x_Ri p l e { frames := 4, cells := 0, slots := 0, locals := 111 } s m args below meth c cX7_statement E A Q (mw E ad r.2) r.1) (hrec126 : ∀ z : x_S × Int32 × Int32 × Int32, rec126 z = some r → ∀ (H : Heap) (locs : List Loc) (ls : Array Slot), x_I E A s.heap (mw E ad z.1) H locs → lv_has ls 6 [(0, .ref (ad 799)), (2, .int z.2.1), (4, .int z.2.2.1), (5, .int z.2.2.2)] → W p l e { frames := 4, cells := 0, slots := 0, locals := 111 } s m args below meth c H locs 0 0 Q (F0 m 126 ls [])) (hI : x_I E A s.heap (mw E ad S) H locs) (hl : lv_has ls 6 [(0, .ref (ad 799)), (2, .int a2), (4, .int a4), (5, .int a5)]) (hf : f_X7_statement_126 n rec126 S a2 a4 a5 = some r) : W p l e { frames := 4, cells := 0, slots := 0, locals := 111 } s m args below meth c H locs 0 0 Q (F0 m 126 ls []) := by
  obtain ⟨hx, hb, hml, hown, hts, hK, hN, hA⟩ := id hC
  unfold f_X7_statement_126 at hf
  refine lv_iload hx hb dX7_statement_126 (lv_at hl 3 rfl) ?_
  refine lv_aload_n hx hb dX7_statement_128 rfl (lv_at hl 0 rfl) ?_
  refine gX7_15 hC hI hf lkf_X7_160 dX7_statement_129 (fun v11 hf => ?_)
  refine x_ige hC 161 hf dX7_statement_132 (by decide) (fun hf => ?_) (fun hf => ?_)
  · refine lv_iload hx hb dX7_statement_161 (lv_at hl 2 rfl) ?_
    obtain rfl := Option.some.inj hf
    exact hR _ _ _ _ hI dX7_statement_163
  · refine lv_iload hx hb dX7_statement_135 (lv_at hl 2 rfl) ?_
    refine lv_aload_n hx hb dX7_statement_137 rfl (lv_at hl 0 rfl) ?_
    refine lv_iload hx hb dX7_statement_138 (lv_at hl 3 rfl) ?_
    refine lv_iload_n hx hb dX7_statement_140 rfl (lv_at hl 1 rfl) ?_
    obtain ⟨v13, S, hc12, hf⟩ := x_b2_eq hf
    refine x_callV hC hI (c_X7_isWithin hc12) 0 7 rfl rfl kv_X7_205 rfl ⟨Nat.le_of_ble_eq_true rfl, Nat.le_of_ble_eq_true rfl⟩ ⟨Nat.le_refl _, Nat.le_refl _⟩ hl.1 rfl (Nat.le_of_ble_eq_true rfl) dX7_statement_141 (fun H locs hI => ?_)
    refine x_eq0 hC 151 hf dX7_statement_144 (by decide) (fun hf => ?_) (fun hf => ?_)
    · refine lv_iconst (v := (0 : Int32)) hx hb dX7_statement_151 (by decide) ?_
      exact w_X7_statement_152 hC hR hrec126 hI (lv_sub hl [0, 1, 3] rfl) hf
    · refine lv_iconst (v := (1 : Int32)) hx hb dX7_statement_147 (by decide) ?_
      refine lv_goto (tgt := 152) hx hb dX7_statement_148 (by decide) ?_
      exact w_X7_statement_152 hC hR hrec126 hI (lv_sub hl [0, 1, 3] rfl) hf
theorem w_X7_statement_126_loop {r : Int32 × x_S} (hC : x_C p s m args meth c cX7_statement 6 RX7 E A) (hR : x_Ri p l e { frames := 4, cells := 0, slots := 0, locals := 111 } s m args below meth c cX7_statement E A Q (mw E ad r.2) r.1) : ∀ (k : Nat) (z : x_S × Int32 × Int32 × Int32), x_loop (fun rec z => f_X7_statement_126 n rec z.1 z.2.1 z.2.2.1 z.2.2.2) k z = some r → ∀ (H : Heap) (locs : List Loc) (ls : Array Slot), x_I E A s.heap (mw E ad z.1) H locs → lv_has ls 6 [(0, .ref (ad 799)), (2, .int z.2.1), (4, .int z.2.2.1), (5, .int z.2.2.2)] → W p l e { frames := 4, cells := 0, slots := 0, locals := 111 } s m args below meth c H locs 0 0 Q (F0 m 126 ls []) :=
  x_loop_ind (P := fun (z : x_S × Int32 × Int32 × Int32) => ∀ (H : Heap) (locs : List Loc) (ls : Array Slot), x_I E A s.heap (mw E ad z.1) H locs → lv_has ls 6 [(0, .ref (ad 799)), (2, .int z.2.1), (4, .int z.2.2.1), (5, .int z.2.2.2)] → W p l e { frames := 4, cells := 0, slots := 0, locals := 111 } s m args below meth c H locs 0 0 Q (F0 m 126 ls [])) (fun rec hrec z hf H locs ls hI hl => w_X7_statement_126 hC hR hrec hI hl hf)
def f_X7_statement (n : Nat) (S : x_S) (a1 : Int32) (a2 : Int32) (a3 : Int32) : Option (Int32 × x_S) :=
x_b2 (f_X7_isRoutine n S a1) (fun v2 S =>
if v2 = 0 then
some ((-2 : Int32), S)
else
x_b (f_X7_in n a3 (0 : Int32) (5 : Int32)) (fun v4 =>
if v4 = 0 then
some ((-2 : Int32), S)
else
x_b2 (f_X7_isWhole n S a1) (fun v6 S =>
if v6 = 0 then
some ((-3 : Int32), S)
else
x_b (f_X7_read n S a1) (fun S =>
x_let (g_sc S 715) (fun v8 =>
x_b (f_X7_in n a2 (0 : Int32) (v8 - (1 : Int32))) (fun v10 =>
if v10 = 0 then
some ((-2 : Int32), S)
else
if (5 : Int32) ≤ a3 then
x_loop (fun rec z => f_X7_statement_126 n rec z.1 z.2.1 z.2.2.1 z.2.2.2) n (S, a2, (0 : Int32), (0 : Int32))
else
if a3 = 0 then
x_g (¬ (a2 < 0 ∨ 200 ≤ (a2).toNatClampNeg)) (x_let (g_ar S 716 (a2).toNatClampNeg) (fun v18 =>
some (v18, S)))
else
if a3 = (1 : Int32) then
x_g (¬ (a2 < 0 ∨ 200 ≤ (a2).toNatClampNeg)) (x_let (g_ar S 717 (a2).toNatClampNeg) (fun v17 =>
some (v17, S)))
else
if a3 = (2 : Int32) then
x_g (¬ (a2 < 0 ∨ 200 ≤ (a2).toNatClampNeg)) (x_let (g_ar S 718 (a2).toNatClampNeg) (fun v16 =>
some (v16, S)))
else
if a3 = (3 : Int32) then
x_g (¬ (a2 < 0 ∨ 200 ≤ (a2).toNatClampNeg)) (x_let (g_ar S 719 (a2).toNatClampNeg) (fun v15 =>
some (v15, S)))
else
x_g (¬ (a2 < 0 ∨ 200 ≤ (a2).toNatClampNeg)) (x_let (g_ar S 720 (a2).toNatClampNeg) (fun v14 =>
some (v14, S)))))))))
set_option maxHeartbeats 4000000 in
set_option maxRecDepth 100000 in
theorem w_X7_statement {r : Int32 × x_S} {a1 : Int32} {a2 : Int32} {a3 : Int32} (hC : x_C p s m args meth c cX7_statement 6 RX7 E A) (hR : x_Ri p l e { frames := 4, cells := 0, slots := 0, locals := 111 } s m args below meth c cX7_statement E A Q (mw E ad r.2) r.1) (hI : x_I E A s.heap (mw E ad S) H locs) (hl : lv_has ls 6 [(0, .ref (ad 799)), (1, .int a1), (2, .int a2), (3, .int a3)]) (hf : f_X7_statement n S a1 a2 a3 = some r) : W p l e { frames := 4, cells := 0, slots := 0, locals := 111 } s m args below meth c H locs 0 0 Q (F0 m 0 ls []) := by
  obtain ⟨hx, hb, hml, hown, hts, hK, hN, hA⟩ := id hC
  unfold f_X7_statement at hf
  refine lv_aload_n hx hb dX7_statement_0 rfl (lv_at hl 0 rfl) ?_
  refine lv_iload_n hx hb dX7_statement_1 rfl (lv_at hl 1 rfl) ?_
  obtain ⟨v2, S, hc1, hf⟩ := x_b2_eq hf
  refine x_callV hC hI (c_X7_isRoutine hc1) 0 7 rfl rfl kv_X7_142 rfl ⟨Nat.le_of_ble_eq_true rfl, Nat.le_of_ble_eq_true rfl⟩ ⟨Nat.le_refl _, Nat.le_refl _⟩ hl.1 rfl (Nat.le_of_ble_eq_true rfl) dX7_statement_2 (fun H locs hI => ?_)
  refine x_eq0 hC 17 hf dX7_statement_5 (by decide) (fun hf => ?_) (fun hf => ?_)
  · refine lv_bipush (v := (-2 : Int32)) hx hb dX7_statement_17 (by decide) ?_
    obtain rfl := Option.some.inj hf
    exact hR _ _ _ _ hI dX7_statement_19
  · refine lv_iload_n hx hb dX7_statement_8 rfl (lv_at hl 3 rfl) ?_
    refine lv_iconst (v := (0 : Int32)) hx hb dX7_statement_9 (by decide) ?_
    refine lv_iconst (v := (5 : Int32)) hx hb dX7_statement_10 (by decide) ?_
    obtain ⟨v4, hc3, hf⟩ := x_b_eq hf
    refine x_callS hC hI (c_X7_in hc3) ks_X7_138 rfl ⟨Nat.le_of_ble_eq_true rfl, Nat.le_of_ble_eq_true rfl⟩ ⟨Nat.le_refl _, Nat.le_refl _⟩ hl.1 rfl (Nat.le_of_ble_eq_true rfl) dX7_statement_11 (fun H locs hI => ?_)
    refine x_ne0 hC 20 hf dX7_statement_14 (by decide) (fun hf => ?_) (fun hf => ?_)
    · refine lv_aload_n hx hb dX7_statement_20 rfl (lv_at hl 0 rfl) ?_
      refine lv_iload_n hx hb dX7_statement_21 rfl (lv_at hl 1 rfl) ?_
      obtain ⟨v6, S, hc5, hf⟩ := x_b2_eq hf
      refine x_callV hC hI (c_X7_isWhole hc5) 0 7 rfl rfl kv_X7_184 rfl ⟨Nat.le_of_ble_eq_true rfl, Nat.le_of_ble_eq_true rfl⟩ ⟨Nat.le_refl _, Nat.le_refl _⟩ hl.1 rfl (Nat.le_of_ble_eq_true rfl) dX7_statement_22 (fun H locs hI => ?_)
      refine x_ne0 hC 31 hf dX7_statement_25 (by decide) (fun hf => ?_) (fun hf => ?_)
      · refine lv_aload_n hx hb dX7_statement_31 rfl (lv_at hl 0 rfl) ?_
        refine lv_iload_n hx hb dX7_statement_32 rfl (lv_at hl 1 rfl) ?_
        obtain ⟨S, hc7, hf⟩ := x_b_eq hf
        refine x_callV hC hI (c_X7_read hc7) 0 7 rfl rfl kv_X7_191 rfl ⟨Nat.le_of_ble_eq_true rfl, Nat.le_of_ble_eq_true rfl⟩ ⟨Nat.le_refl _, Nat.le_refl _⟩ hl.1 rfl (Nat.le_of_ble_eq_true rfl) dX7_statement_33 (fun H locs hI => ?_)
        refine lv_iload_n hx hb dX7_statement_36 rfl (lv_at hl 2 rfl) ?_
        refine lv_iconst (v := (0 : Int32)) hx hb dX7_statement_37 (by decide) ?_
        refine lv_aload_n hx hb dX7_statement_38 rfl (lv_at hl 0 rfl) ?_
        refine gX7_15 hC hI hf lkf_X7_160 dX7_statement_39 (fun v8 hf => ?_)
        refine lv_iconst (v := (1 : Int32)) hx hb dX7_statement_42 (by decide) ?_
        refine lv_isub hx hb dX7_statement_43 ?_
        obtain ⟨v10, hc9, hf⟩ := x_b_eq hf
        refine x_callS hC hI (c_X7_in hc9) ks_X7_138 rfl ⟨Nat.le_of_ble_eq_true rfl, Nat.le_of_ble_eq_true rfl⟩ ⟨Nat.le_refl _, Nat.le_refl _⟩ hl.1 rfl (Nat.le_of_ble_eq_true rfl) dX7_statement_44 (fun H locs hI => ?_)
        refine x_ne0 hC 53 hf dX7_statement_47 (by decide) (fun hf => ?_) (fun hf => ?_)
        · refine lv_iload_n hx hb dX7_statement_53 rfl (lv_at hl 3 rfl) ?_
          refine lv_iconst (v := (5 : Int32)) hx hb dX7_statement_54 (by decide) ?_
          refine x_ige hC 120 hf dX7_statement_55 (by decide) (fun hf => ?_) (fun hf => ?_)
          · refine lv_iconst (v := (0 : Int32)) hx hb dX7_statement_120 (by decide) ?_
            refine lv_istore (lv' := [(4, .int (0 : Int32)), (0, .ref (ad 799)), (1, .int a1), (2, .int a2), (3, .int a3)]) hx hb dX7_statement_121 hl (by decide) rfl (fun ls hl => ?_)
            refine lv_iconst (v := (0 : Int32)) hx hb dX7_statement_123 (by decide) ?_
            refine lv_istore (lv' := [(5, .int (0 : Int32)), (4, .int (0 : Int32)), (0, .ref (ad 799)), (1, .int a1), (2, .int a2), (3, .int a3)]) hx hb dX7_statement_124 hl (by decide) rfl (fun ls hl => ?_)
            exact w_X7_statement_126_loop hC hR _ _ hf _ _ _ hI (lv_sub hl [2, 4, 1, 0] rfl)
          · refine lv_iload_n hx hb dX7_statement_58 rfl (lv_at hl 3 rfl) ?_
            refine x_ne0 hC 71 hf dX7_statement_59 (by decide) (fun hf => ?_) (fun hf => ?_)
            · refine lv_iload_n hx hb dX7_statement_71 rfl (lv_at hl 3 rfl) ?_
              refine lv_iconst (v := (1 : Int32)) hx hb dX7_statement_72 (by decide) ?_
              refine x_ine hC 85 hf dX7_statement_73 (by decide) (fun hf => ?_) (fun hf => ?_)
              · refine lv_iload_n hx hb dX7_statement_85 rfl (lv_at hl 3 rfl) ?_
                refine lv_iconst (v := (2 : Int32)) hx hb dX7_statement_86 (by decide) ?_
                refine x_ine hC 99 hf dX7_statement_87 (by decide) (fun hf => ?_) (fun hf => ?_)
                · refine lv_iload_n hx hb dX7_statement_99 rfl (lv_at hl 3 rfl) ?_
                  refine lv_iconst (v := (3 : Int32)) hx hb dX7_statement_100 (by decide) ?_
                  refine x_ine hC 113 hf dX7_statement_101 (by decide) (fun hf => ?_) (fun hf => ?_)
                  · refine lv_aload_n hx hb dX7_statement_113 rfl (lv_at hl 0 rfl) ?_
                    refine gX7_20 hC hI lkf_X7_53 dX7_statement_114 ?_
                    refine lv_iload_n hx hb dX7_statement_117 rfl (lv_at hl 2 rfl) ?_
                    refine aX7_20 hC hI hf dX7_statement_118 (fun v14 hf => ?_)
                    obtain rfl := Option.some.inj hf
                    exact hR _ _ _ _ hI dX7_statement_119
                  · refine lv_aload_n hx hb dX7_statement_104 rfl (lv_at hl 0 rfl) ?_
                    refine gX7_19 hC hI lkf_X7_50 dX7_statement_105 ?_
                    refine lv_iload_n hx hb dX7_statement_108 rfl (lv_at hl 2 rfl) ?_
                    refine aX7_19 hC hI hf dX7_statement_109 (fun v15 hf => ?_)
                    refine lv_goto (tgt := 119) hx hb dX7_statement_110 (by decide) ?_
                    obtain rfl := Option.some.inj hf
                    exact hR _ _ _ _ hI dX7_statement_119
                · refine lv_aload_n hx hb dX7_statement_90 rfl (lv_at hl 0 rfl) ?_
                  refine gX7_18 hC hI lkf_X7_47 dX7_statement_91 ?_
                  refine lv_iload_n hx hb dX7_statement_94 rfl (lv_at hl 2 rfl) ?_
                  refine aX7_18 hC hI hf dX7_statement_95 (fun v16 hf => ?_)
                  refine lv_goto (tgt := 119) hx hb dX7_statement_96 (by decide) ?_
                  obtain rfl := Option.some.inj hf
                  exact hR _ _ _ _ hI dX7_statement_119
              · refine lv_aload_n hx hb dX7_statement_76 rfl (lv_at hl 0 rfl) ?_
                refine gX7_17 hC hI lkf_X7_44 dX7_statement_77 ?_
                refine lv_iload_n hx hb dX7_statement_80 rfl (lv_at hl 2 rfl) ?_
                refine aX7_17 hC hI hf dX7_statement_81 (fun v17 hf => ?_)
                refine lv_goto (tgt := 119) hx hb dX7_statement_82 (by decide) ?_
                obtain rfl := Option.some.inj hf
                exact hR _ _ _ _ hI dX7_statement_119
            · refine lv_aload_n hx hb dX7_statement_62 rfl (lv_at hl 0 rfl) ?_
              refine gX7_16 hC hI lkf_X7_41 dX7_statement_63 ?_
              refine lv_iload_n hx hb dX7_statement_66 rfl (lv_at hl 2 rfl) ?_
              refine aX7_16 hC hI hf dX7_statement_67 (fun v18 hf => ?_)
              refine lv_goto (tgt := 119) hx hb dX7_statement_68 (by decide) ?_
              obtain rfl := Option.some.inj hf
              exact hR _ _ _ _ hI dX7_statement_119
        · refine lv_bipush (v := (-2 : Int32)) hx hb dX7_statement_50 (by decide) ?_
          obtain rfl := Option.some.inj hf
          exact hR _ _ _ _ hI dX7_statement_52
      · refine lv_bipush (v := (-3 : Int32)) hx hb dX7_statement_28 (by decide) ?_
        obtain rfl := Option.some.inj hf
        exact hR _ _ _ _ hI dX7_statement_30
    · refine lv_bipush (v := (-2 : Int32)) hx hb dX7_statement_17 (by decide) ?_
      obtain rfl := Option.some.inj hf
      exact hR _ _ _ _ hI dX7_statement_19
theorem c_X7_statement {a1 : Int32} {a2 : Int32} {a3 : Int32} {v : Int32} {S1 : x_S} (hf : f_X7_statement n S a1 a2 a3 = some (v, S1)) : x_M l yX7_statement cX7_statement 6 (some .int) 4 111 E [.ref (ad 799), .int a1, .int a2, .int a3] (mw E ad S) (mw E ad S1) (some (.int v)) :=
  x_entI (by decide) (Nat.le_of_ble_eq_true rfl) (fun p e s m args below meth c A Q ls hC hI hR hl => w_X7_statement (r := (v, S1)) hC hR hI hl hf)
end
