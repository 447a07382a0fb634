theorem x_arr_of {args : Array Value} {s : State} {ty : FieldType} (h : (Cond.arrayClass ty).before args s = true) (hty : ty = .int ∨ ty = .boolean) : ∃ cA : ClassId, ArrOfT s cA ty ∧ va_RA s cA ty := by
  obtain ⟨cA, kA, comp, h1, h2, h3⟩ := Cond.arrayClass_spec h
  refine ⟨cA, fun n z => ⟨fun k h => (by cases h), kA, h2, comp, h3⟩, ?_⟩
  rcases hty with rfl | rfl <;> exact h1
theorem x_arr_oo {s : State} (h : va_AO "StoryDecompile$Routine" s) : ∃ cA : ClassId, ArrOfT s cA (.object "StoryDecompile$Routine") ∧ va_RA s cA (.object "StoryDecompile$Routine") := by
  obtain ⟨comp, cA, kA, h1, h2, h3, h4, h5⟩ := Cond.arrayOver_spec h
  exact ⟨cA, fun n z => ⟨fun k h => (by cases h), kA, h3, comp, h4⟩, kA, comp, h3, h4, h1, h5⟩
theorem x_start_mF {E : x_E} {A : Nat → Prop} {H0 H : Heap} {locs : List Loc} {X : va_W} {h0 q1 q2 q3 q4 q5 q6 q7 q8 q9 q10 q11 q12 q13 q14 q15 q16 q17 q18 q19 q20 q21 q22 q23 q24 q25 q26 q27 q28 q29 q30 q31 q32 q33 q34 q35 q36 q37 q38 q39 q40 : Nat} (h : x_I E A H0 (X ++ [(h0, .inr (7, [.int 0, .ref q1, .ref q2, .ref q3, .ref q4, .ref q5, .ref q6, .ref q7, .int 0, .int (-1), .int 0, .int 0, .int 0, .ref q8, .ref q9, .int 0, .ref q10, .ref q11, .ref q12, .ref q13, .ref q14, .ref q15, .ref q16, .ref q17, .int 0, .ref q18, .ref q19, .ref q20, .ref q21, .ref q22, .ref q23, .ref q24, .int 0, .ref q25, .int 0, .ref q26, .int 0, .int 0, .int 0, .ref q27, .ref q28, .ref q29, .ref q30, .ref q31, .ref q32, .int 0, .ref q33, .ref q34, .ref q35, .ref q36, .ref q37, .ref q38, .ref q39, .ref q40])), (q1, .inl (E.2.1, 12, .inl (fun _ => 0))), (q2, .inl (E.2.1, 720, .inl (fun _ => 0))), (q3, .inl (E.2.1, 720, .inl (fun _ => 0))), (q4, .inl (E.2.1, 720, .inl (fun _ => 0))), (q5, .inl (E.2.1, 720, .inl (fun _ => 0))), (q6, .inl (E.2.1, 4, .inl (fun _ => 0))), (q7, .inl (E.2.1, 300, .inl (fun _ => 0))), (q8, .inl (E.2.1, 200, .inl (fun _ => 0))), (q9, .inl (E.2.1, 4, .inl (fun _ => 0))), (q10, .inl (E.2.1, 200, .inl (fun _ => 0))), (q11, .inl (E.2.1, 200, .inl (fun _ => 0))), (q12, .inl (E.2.1, 200, .inl (fun _ => 0))), (q13, .inl (E.2.1, 200, .inl (fun _ => 0))), (q14, .inl (E.2.1, 200, .inl (fun _ => 0))), (q15, .inl (E.2.1, 200, .inl (fun _ => 0))), (q16, .inl (E.2.1, 200, .inl (fun _ => 0))), (q17, .inl (E.2.1, 200, .inl (fun _ => 0))), (q18, .inl (E.2.1, 200, .inl (fun _ => 0))), (q19, .inl (E.2.1, 200, .inl (fun _ => 0))), (q20, .inl (E.2.1, 200, .inl (fun _ => 0))), (q21, .inl (E.2.1, 200, .inl (fun _ => 0))), (q22, .inl (E.2.1, 200, .inl (fun _ => 0))), (q23, .inl (E.2.1, 200, .inl (fun _ => 0))), (q24, .inl (E.2.1, 1000, .inl (fun _ => 0))), (q25, .inl (E.2.2.1, 61, .inl (fun _ => 0))), (q26, .inl (E.2.1, 200, .inl (fun _ => 0))), (q27, .inl (E.2.1, 400, .inl (fun _ => 0))), (q28, .inl (E.2.1, 400, .inl (fun _ => 0))), (q29, .inl (E.2.1, 400, .inl (fun _ => 0))), (q30, .inl (E.2.1, 400, .inl (fun _ => 0))), (q31, .inl (E.2.1, 400, .inl (fun _ => 0))), (q32, .inl (E.2.1, 400, .inl (fun _ => 0))), (q33, .inl (E.2.1, 64, .inl (fun _ => 0))), (q34, .inl (E.2.1, 64, .inl (fun _ => 0))), (q35, .inl (E.2.1, 64, .inl (fun _ => 0))), (q36, .inl (E.2.1, 64, .inl (fun _ => 0))), (q37, .inl (E.2.1, 64, .inl (fun _ => 0))), (q38, .inl (E.2.1, 64, .inl (fun _ => 0))), (q39, .inl (E.2.1, 8, .inl (fun _ => 0))), (q40, .inl (E.2.1, 8, .inl (fun _ => 0)))]) H locs) : ∃ (ad : Nat → Nat), ad 799 = h0 ∧ x_I E A H0 (X ++ mw E ad x_S0m) H locs := by
  obtain ⟨ad, h1, h2, h3⟩ := x_start_m (A := fun q => A q ∧ ∀ (i : Nat) (z : Nat × va_E), X[i]? = some z → z.1 ≠ q) (x_P_r h.1) ⟨(x_D_r h.2.1).1, fun k q hk => ⟨(x_D_r h.2.1).2 k q hk, fun i z hz => x_D_x h.2.1 i k z q hz hk⟩⟩
  exact ⟨ad, h1, (x_P_l h.1).app h2, (x_D_l h.2.1).app (h3.weaken (fun _ _ _ h => h.1)) (fun i j p q hi hj => (h3.2 j q hj).2 i p hi), h.2.2⟩
/-! the law from its entry, over Level 2 -/
set_option maxHeartbeats 8000000 in
set_option maxRecDepth 100000 in
theorem whole_start_2 {p : Program} {e : Env} {s : State} {m : MethodId} {below : List Frame} {meth : Method} {c : Code} (l : Launch) {b L n : Nat} {xs : Nat → Int32} {INV : x_S → x_S → Prop} (hL : L ≤ 3584) (C0 : lw_At p s m meth c b L xs) (h0 : INV x_S0c x_S0m) (h2 : x_L2 INV n) : W p l e room_1 s m #[Value.ref b] below meth c s.heap [] 0 0 (lw_Z below #[Value.ref b] s) (entryFrame m ([Value.ref b] : List Value).toArray 4) := by
  obtain ⟨hx, hb, hr, hml, hown, hts0, hX, hbl, hlocks, hgv⟩ := id C0
  have hts : ∀ w ∈ x_TB, w.before #[Value.ref b] s = true := fun w h => hts0 w (List.mem_filter.mp h).1
  obtain ⟨c0, iS0, hKn0⟩ := u_known (C := RX0) (T := TX0) (N := 4) (n := 4) hts inX0 (hts (.instantiable RX0 4) lkn_inst_X0)
  obtain ⟨c1, iS1, hKn1⟩ := u_known (C := RX1) (T := TX1) (N := 9) (n := 9) hts inX1 (hts (.instantiable RX1 9) lkn_inst_X1)
  obtain ⟨c2, iS2, hKn2⟩ := u_known (C := RX2) (T := TX2) (N := 6) (n := 6) hts inX2 (hts (.instantiable RX2 6) lkn_inst_X2)
  obtain ⟨c3, iS3, hKn3⟩ := u_known (C := RX3) (T := TX3) (N := 8) (n := 8) hts inX3 (hts (.instantiable RX3 8) lkn_inst_X3)
  obtain ⟨c4, iS4, hKn4⟩ := u_known (C := RX4) (T := TX4) (N := 12) (n := 12) hts inX4 (hts (.instantiable RX4 12) lkn_inst_X4)
  obtain ⟨c5, iS5, hKn5⟩ := u_known (C := RX5) (T := TX5) (N := 16) (n := 16) hts inX5 (hts (.instantiable RX5 16) lkn_inst_X5)
  obtain ⟨c6, iS6, hKn6⟩ := u_known (C := RX6) (T := TX6) (N := 11) (n := 11) hts inX6 (hts (.instantiable RX6 11) lkn_inst_X6)
  obtain ⟨c7, iS7, hKn7⟩ := u_known (C := RX7) (T := TX7) (N := 54) (n := 54) hts inX7 (hts (.instantiable RX7 54) lkn_inst_X7)
  obtain ⟨dC, dI, hKc⟩ : ∃ (dC : Nat → ClassId) (dI : Nat → Nat → Nat), ∀ (k : Nat) (q : vw_C), vwCl[k]? = some q → u_Kn s q.1 q.2.1 q.2.2 (dC k) (dI k) := by
    refine ⟨fun k => if k = 0 then c0 else if k = 1 then c1 else if k = 2 then c2 else if k = 3 then c3 else if k = 4 then c4 else if k = 5 then c5 else if k = 6 then c6 else c7, fun k => if k = 0 then iS0 else if k = 1 then iS1 else if k = 2 then iS2 else if k = 3 then iS3 else if k = 4 then iS4 else if k = 5 then iS5 else if k = 6 then iS6 else iS7, ?_⟩
    intro k q hq
    match k, hq with
    | 0, hq => cases hq; exact hKn0
    | 1, hq => cases hq; exact hKn1
    | 2, hq => cases hq; exact hKn2
    | 3, hq => cases hq; exact hKn3
    | 4, hq => cases hq; exact hKn4
    | 5, hq => cases hq; exact hKn5
    | 6, hq => cases hq; exact hKn6
    | 7, hq => cases hq; exact hKn7
    | k + 8, hq => simp [vwCl] at hq
  obtain ⟨cI, hI1, hI2⟩ := x_arr_of (hts _ lka_int) (Or.inl rfl)
  obtain ⟨cZ, hZ1, hZ2⟩ := x_arr_of (hts _ lka_boolean) (Or.inr rfl)
  have hAO : va_AO "StoryDecompile$Routine" s := va_AO.of (hts0 _ (List.mem_append_right _ (List.mem_of_getElem? (i := 20) (by decide +kernel))))
  obtain ⟨cO, hO1, hO2⟩ := x_arr_oo hAO
  have hK : va_K (dC, dI) vwCl (x_ty ((dC, dI), cI, cZ, cO)) s := by
    refine ⟨hKc, fun k q hq => ?_⟩
    match k, hq with
    | 0, hq => cases hq; exact ⟨hI1, hI2⟩
    | 1, hq => cases hq; exact ⟨hZ1, hZ2⟩
    | 2, hq => cases hq; exact ⟨hO1, hO2⟩
    | k + 3, hq => simp at hq
  have hN : x_N s := by
    refine ⟨?_, hAO⟩
    unfold x_nl
    intro q hq
    simp only [List.mem_cons, List.not_mem_nil, or_false] at hq
    rcases hq with rfl | rfl | rfl | rfl | rfl | rfl | rfl | rfl | rfl | rfl | rfl | rfl | rfl | rfl | rfl
    · exact va_Nw.of rfl (hts0 _ (List.mem_append_right _ (List.mem_of_getElem? (i := 23) (by decide +kernel))))
    · exact va_Nw.of rfl (hts0 _ (List.mem_append_right _ (List.mem_of_getElem? (i := 29) (by decide +kernel))))
    · exact va_Nw.of rfl (hts0 _ (List.mem_append_right _ (List.mem_of_getElem? (i := 120) (by decide +kernel))))
    · exact va_Nw.of rfl (hts0 _ (List.mem_append_right _ (List.mem_of_getElem? (i := 141) (by decide +kernel))))
    · exact va_Nw.of rfl (hts0 _ (List.mem_append_right _ (List.mem_of_getElem? (i := 147) (by decide +kernel))))
    · exact va_Nw.of rfl (hts0 _ (List.mem_append_right _ (List.mem_of_getElem? (i := 244) (by decide +kernel))))
    · exact va_Nw.of rfl (hts0 _ (List.mem_append_right _ (List.mem_of_getElem? (i := 317) (by decide +kernel))))
    · exact va_Nw.of rfl (hts0 _ (List.mem_append_right _ (List.mem_of_getElem? (i := 356) (by decide +kernel))))
    · exact va_Nw.of rfl (hts0 _ (List.mem_append_right _ (List.mem_of_getElem? (i := 357) (by decide +kernel))))
    · exact va_Nw.of rfl (hts0 _ (List.mem_append_right _ (List.mem_of_getElem? (i := 358) (by decide +kernel))))
    · exact va_Nw.of rfl (hts0 _ (List.mem_append_right _ (List.mem_of_getElem? (i := 422) (by decide +kernel))))
    · exact va_Nw.of rfl (hts0 _ (List.mem_append_right _ (List.mem_of_getElem? (i := 468) (by decide +kernel))))
    · exact va_Nw.of rfl (hts0 _ (List.mem_append_right _ (List.mem_of_getElem? (i := 548) (by decide +kernel))))
    · exact va_Nw.of rfl (hts0 _ (List.mem_append_right _ (List.mem_of_getElem? (i := 553) (by decide +kernel))))
    · exact va_Nw.of rfl (hts0 _ (List.mem_append_right _ (List.mem_of_getElem? (i := 558) (by decide +kernel))))
  generalize hE : (((dC, dI), cI, cZ, cO) : x_E) = E at hK
  have hK : va_K E.1 vwCl (x_ty E) s := by rw [← hE]; rw [← hE] at hK; exact hK
  have hC : x_C p s m #[Value.ref b] meth c cL_law 4 RL E (fun q => s.heap.size ≤ q) := ⟨hx, hb, hml, hown, hts, hK, hN, fun _ h => h⟩
  have hI : x_I E (fun q : Nat => s.heap.size ≤ q) s.heap [] s.heap [] := ⟨fun k q h => by simp at h, ⟨fun i j p q h => by simp at h, fun k q h => by simp at h⟩, va_S.rf⟩
  have hl := lv_entry ([.ref b]) (n := 4) (Nat.le_of_ble_eq_true rfl)
  rw [lg_entry_eq]
  generalize (lg_sl ([.ref b]) ++ List.replicate (4 - (lg_sl ([.ref b])).length) Slot.unset).toArray = ls at hl ⊢
  have hl : lv_has ls 4 [(0, .ref b)] := hl
  refine x_new hC hI 6 [.null, .int 0, .null, .int 0, .null, .null, .int 0, .null, .int 0, .null, .null] tyX6 tyX6_ok rfl inX6 (by decide +kernel) lkn_XL_7 lkn_inst_X6 lkn_ini_X6 ⟨Nat.le_of_ble_eq_true rfl, Nat.le_of_ble_eq_true rfl⟩ dL_law_0 (fun q H hI => ?_)
  refine lv_dup hx hb dL_law_3 rfl ?_
  refine x_callI (X := []) hC hI (c_X6_init l E q) kj_XL_9 ⟨Nat.le_of_ble_eq_true rfl, Nat.le_of_ble_eq_true rfl⟩ ⟨Nat.le_of_ble_eq_true rfl, Nat.le_of_ble_eq_true rfl⟩ hl.1 (Nat.le_of_ble_eq_true rfl) dL_law_4 (fun rv w1 H locs hpost hI => ?_)
  obtain ⟨rfl, r0, r1, r2, r3, r4, r5, r6, r7, r8, r9, r10, r11, r12, r13, r14, r15, r16, r17, r18, r19, r20, r21, r22, r23, r24, r25, r26, r27, r28, r29, r30, r31, r32, r33, r34, r35, r36, r37, r38, r39, rfl⟩ := hpost
  obtain ⟨ad, ap, had, hJ⟩ := x_start_c (show x_I E (fun q : Nat => s.heap.size ≤ q) s.heap _ H locs from hI)
  subst had
  refine lv_astore_n (lv' := [(1, .ref (ad 699)), (0, .ref b)]) hx hb dL_law_7 rfl hl (by decide) rfl (fun ls hl => ?_)
  refine x_new hC hJ 7 [.int 0, .null, .null, .null, .null, .null, .null, .null, .int 0, .int 0, .int 0, .int 0, .int 0, .null, .null, .int 0, .null, .null, .null, .null, .null, .null, .null, .null, .int 0, .null, .null, .null, .null, .null, .null, .null, .int 0, .null, .int 0, .null, .int 0, .int 0, .int 0, .null, .null, .null, .null, .null, .null, .int 0, .null, .null, .null, .null, .null, .null, .null, .null] tyX7 tyX7_ok rfl inX7 (by decide +kernel) lkn_XL_10 lkn_inst_X7 lkn_ini_X7 ⟨Nat.le_of_ble_eq_true rfl, Nat.le_of_ble_eq_true rfl⟩ dL_law_8 (fun q2 H hI2 => ?_)
  refine lv_dup hx hb dL_law_11 rfl ?_
  refine x_callI (X := cw E ad ap x_S0c) hC hI2 (c_X7_init l E q2) kj_XL_12 ⟨Nat.le_of_ble_eq_true rfl, Nat.le_of_ble_eq_true rfl⟩ ⟨Nat.le_of_ble_eq_true rfl, Nat.le_of_ble_eq_true rfl⟩ hl.1 (Nat.le_of_ble_eq_true rfl) dL_law_12 (fun rv w1 H locs hpost hI3 => ?_)
  obtain ⟨rfl, r0, r1, r2, r3, r4, r5, r6, r7, r8, r9, r10, r11, r12, r13, r14, r15, r16, r17, r18, r19, r20, r21, r22, r23, r24, r25, r26, r27, r28, r29, r30, r31, r32, r33, r34, r35, r36, r37, r38, r39, rfl⟩ := hpost
  obtain ⟨ad2, had2, hJ2⟩ := x_start_mF hI3
  subst had2
  refine lv_astore_n (lv' := [(2, .ref (ad2 799)), (1, .ref (ad 699)), (0, .ref b)]) hx hb dL_law_15 rfl hl (by decide) rfl (fun ls hl => ?_)
  refine lv_iconst (v := (0 : Int32)) hx hb dL_law_16 (by decide) ?_
  refine lv_istore_n (lv' := [(3, .int (0 : Int32)), (2, .ref (ad2 799)), (1, .ref (ad 699)), (0, .ref b)]) hx hb dL_law_17 rfl hl (by decide) rfl (fun ls hl => ?_)
  refine W.widen (k := 82 + 5 * 0) (n := 12730 + 246 * 0) (Nat.le_of_ble_eq_true rfl) (Nat.le_of_ble_eq_true rfl) ?_
  exact law_loop hL hC hr hlocks hX hbl h2 (L + 1) 0 (Nat.zero_le _) (by omega) 0 rfl x_S0c x_S0m ap H locs ls h0 hJ2.comm (lv_sub hl [3, 2, 1, 0] rfl)
