/-! what makes new cells; calls in a larger world; contracts whose new addresses nobody knows -/
theorem x_P_l {E : x_E} {a b : va_W} {H : Heap} (h : va_P E.1 vwCl (a ++ b) H) : va_P E.1 vwCl a H := fun k q hk => h k q (by rw [List.getElem?_append_left (List.getElem?_eq_some_iff.mp hk).1]; exact hk)
theorem x_P_r {E : x_E} {a b : va_W} {H : Heap} (h : va_P E.1 vwCl (a ++ b) H) : va_P E.1 vwCl b H := fun k q hk => h (a.length + k) q (by rw [List.getElem?_append_right (by omega), Nat.add_sub_cancel_left]; exact hk)
theorem x_D_l {A : Nat → Prop} {a b : va_W} (h : va_D A (a ++ b)) : va_D A a := by
  have e : ∀ (k : Nat) (q : Nat × va_E), a[k]? = some q → (a ++ b)[k]? = some q := fun k q hk => by rw [List.getElem?_append_left (List.getElem?_eq_some_iff.mp hk).1]; exact hk
  exact ⟨fun i j p q hi hj => h.1 i j p q (e i p hi) (e j q hj), fun k q hk => h.2 k q (e k q hk)⟩
theorem x_D_r {A : Nat → Prop} {a b : va_W} (h : va_D A (a ++ b)) : va_D A b := by
  have e : ∀ (k : Nat) (q : Nat × va_E), b[k]? = some q → (a ++ b)[a.length + k]? = some q := fun k q hk => by rw [List.getElem?_append_right (by omega), Nat.add_sub_cancel_left]; exact hk
  exact ⟨fun i j p q hi hj hpq => by have := h.1 _ _ p q (e i p hi) (e j q hj) hpq; omega, fun k q hk => h.2 _ q (e k q hk)⟩
theorem x_D_x {A : Nat → Prop} {a b : va_W} (h : va_D A (a ++ b)) : ∀ (i j : Nat) (p q : Nat × va_E), a[i]? = some p → b[j]? = some q → p.1 ≠ q.1 := by
  intro i j p q hi hj hpq
  have hl := (List.getElem?_eq_some_iff.mp hi).1
  have := h.1 i (a.length + j) p q (by rw [List.getElem?_append_left hl]; exact hi) (by rw [List.getElem?_append_right (by omega), Nat.add_sub_cancel_left]; exact hj) hpq
  omega
theorem x_I.comm {E : x_E} {A : Nat → Prop} {H0 H : Heap} {a b : va_W} {locs : List Loc} (h : x_I E A H0 (a ++ b) H locs) : x_I E A H0 (b ++ a) H locs :=
  ⟨(x_P_r h.1).app (x_P_l h.1), (x_D_r h.2.1).app (x_D_l h.2.1) (fun i j p q hi hj e => x_D_x h.2.1 j i q p hj hi e.symm), h.2.2⟩
theorem x_join {E : x_E} {A0 : Nat → Prop} {X w w' : va_W} {H H1 : Heap} (hP : va_P E.1 vwCl (X ++ w) H) (hD : va_D A0 (X ++ w)) (hk : ∀ q : Nat, q < H.size → ¬ va_A w H.size q → H1[q]? = H[q]?) (hF : ∀ q, va_A w H.size q → A0 q) (hP1 : va_P E.1 vwCl w' H1) (hD1 : va_D (va_A w H.size) w') : va_P E.1 vwCl (X ++ w') H1 ∧ va_D A0 (X ++ w') := by
  have hn : ∀ (k : Nat) (q : Nat × va_E), X[k]? = some q → ¬ va_A w H.size q.1 := by
    intro k q hq ha
    rcases ha with ⟨k2, e, hk2⟩ | ha
    · exact x_D_x hD k k2 q _ hq hk2 rfl
    · exact absurd ((x_P_l hP) k q hq).lt (by omega)
  refine ⟨((x_P_l hP).kept (fun k q hq => hk q.1 ((x_P_l hP) k q hq).lt (hn k q hq))).app hP1, (x_D_l hD).app (hD1.weaken (fun _ _ _ h => hF _ h)) ?_⟩
  intro i j p q hi hj e
  exact hn i p hi (by rw [e]; exact hD1.2 j q hj)
def x_QM (E : x_E) (w : va_W) (Post : Option Value → va_W → Prop) (sz : Nat) : Array Value → State → Outcome → State → Prop := fun _ st oc t => ∃ rv w', oc = .returned rv ∧ Post rv w' ∧ va_P E.1 vwCl w' t.heap ∧ va_D (va_A w sz) w' ∧ va_F (va_A w sz) st t
def x_Ma (l : Launch) (y : MethodName) (cc : ByteArray) (n : Nat) (ret : Option FieldType) (fr lo mc ms : Nat) (E : x_E) (av : List Value) (w : va_W) (Post : Option Value → va_W → Prop) : Prop :=
  ∀ sz : Nat, Met l y (x_W y cc n ret) { frames := fr, cells := mc, slots := ms, locals := lo } (va_Pc av (x_B E w sz)) (x_QM E w Post sz) mc ms (va_A w sz)
theorem x_M.toMa {l : Launch} {y : MethodName} {cc : ByteArray} {n : Nat} {ret : Option FieldType} {fr lo : Nat} {E : x_E} {av : List Value} {w w' : va_W} {rv : Option Value} (h : x_M l y cc n ret fr lo E av w w' rv) : x_Ma l y cc n ret fr lo 0 0 E av w (fun r v => r = rv ∧ v = w') := by
  intro sz p e h1 h2 h3 s m args below h4 h5 h6 h7
  obtain ⟨k, o, a1, a2, a3, ⟨b1, b2, b3, b4⟩, b5⟩ := h sz p e h1 h2 h3 s m args below h4 h5 h6 h7
  exact ⟨k, o, a1, a2, a3, ⟨rv, w', b1, ⟨rfl, rfl⟩, b2, b3, b4⟩, b5⟩
section
variable {p : Program} {l : Launch} {e : Env} {R : Room} {s : State} {m : MethodId} {args : Array Value} {below : List Frame} {meth : Method} {c : Code} {H : Heap} {locs : List Loc} {cells slots : Nat} {Q : State → Prop}
variable {cc : ByteArray} {nL pc : Nat} {own : String} {E : x_E} {A : Nat → Prop} {ls : Array Slot} {rest st0 : List Value} {w w' X : va_W} {a : Array Value} {rv : Option Value} {Post : Option Value → va_W → Prop} {mc ms : Nat}
theorem x_afterM (hr : va_Run p l e R s m args below meth c H locs cells slots mc ms (F0 m pc ls st0) rest (x_QM E w Post H.size a) (va_A w H.size)) (hA : ∀ q, s.heap.size ≤ q → A q) (hI : x_I E A s.heap (X ++ w) H locs)
    (kk : ∀ (rv : Option Value) (w' : va_W) (H1 : Heap) (locs1 : List Loc), Post rv w' → x_I E A s.heap (X ++ w') H1 locs1 → W p l e R s m args below meth c H1 locs1 (cells + mc) (slots + ms) Q (F0 m (pc + 3) ls (rv.toList ++ rest))) : W p l e R s m args below meth c H locs cells slots Q (F0 m pc ls st0) := by
  obtain ⟨hP, hD, hS⟩ := hI
  have hF : ∀ q, va_A w H.size q → A q := by
    intro q hq
    rcases hq with ⟨k, e9, hk⟩ | hq
    · exact (x_D_r hD).2 k _ hk
    · exact hA q (Nat.le_trans hS.1 hq)
  intro T hT Y
  obtain ⟨v, st₀, t, T', L, h0, X', hL, e1, e2, ⟨rv, w', hv, hpost, hP1, hD1, hz, hk⟩, st⟩ := hr T hT Y
  have hv2 : v = rv := Outcome.returned.inj hv
  subst hv2
  rw [h0] at hz hk
  have hj := x_join (H1 := T'.heap) hP hD (fun q h1 h2 => by rw [e1]; exact hk q h1 h2) hF (by rw [e1]; exact hP1) hD1
  have hI1 : x_I E A s.heap (X ++ w') T'.heap (locs ++ L) := by
    refine ⟨hj.1, hj.2, ?_⟩
    exact ⟨Nat.le_trans hS.1 (by rw [e1]; exact hz), fun q h1 h2 => by rw [e1, hk q (Nat.lt_of_lt_of_le h1 hS.1) (fun z => h2 (hF q z))]; exact hS.2.1 q h1 h2, fun q hq => by
      rcases List.mem_append.mp hq with h | h
      · exact hS.2.2 q h
      · exact hF _ (hL q h)⟩
  obtain ⟨t2, a1, b1⟩ := kk v w' T'.heap (locs ++ L) hpost hI1 T' rfl X'
  exact ⟨t2, st t2 a1, b1⟩
theorem x_preM {As : List Value} (hC : x_C p s m args meth c cc nL own E A) (hI : x_I E A s.heap (X ++ w) H locs) : ∀ U : State, U.heap = H → s.WarmedH U.vm → va_Pc As (x_B E w H.size) As.toArray U := fun U hU hW => ⟨rfl, by rw [hU], by rw [hU]; exact x_P_r hI.1, va_K.moved hW.alike hC.2.2.2.2.2.1, hC.2.2.2.2.2.2.1.warm hW, (x_D_r hI.2.1).weaken (fun _ _ _ _ => trivial)⟩
theorem x_callVM (hC : x_C p s m args meth c cc nL own E A) (hI : x_I E A s.heap (X ++ w) H locs) {y : MethodName} {bytes : ByteArray} {maxL fr lo n idx N b : Nat} {ret : Option FieldType} {C : String} {T : u_T} {As fs : List Value} (hM : x_Ma l y bytes maxL ret fr lo mc ms E (.ref b :: As) w Post) (q0 ci : Nat) (he : w[q0]? = some (b, .inr (ci, fs))) (hc : vwCl[ci]? = some (C, T, N)) (hV : x_V own idx C y bytes maxL ret n) (hn : As.length = n) (hroom : fr + 1 ≤ R.frames ∧ 8 + (maxL + 11) + lo ≤ R.locals) (hcap : cells + mc ≤ R.cells ∧ slots + ms ≤ R.slots) (hls : ls.size = nL) (hst : st0 = As.reverse ++ .ref b :: rest) (hrest : (rest.map fun v => v.category).sum ≤ 8) (hdg : decode cc pc = .ok (.invokevirtual idx, 3))
    (kk : ∀ (rv : Option Value) (w' : va_W) (H1 : Heap) (locs1 : List Loc), Post rv w' → x_I E A s.heap (X ++ w') H1 locs1 → W p l e R s m args below meth c H1 locs1 (cells + mc) (slots + ms) Q (F0 m (pc + 3) ls (rv.toList ++ rest))) : W p l e R s m args below meth c H locs cells slots Q (F0 m pc ls st0) := by
  obtain ⟨hx, hb, hml, hown, hts, hK, hN, hA⟩ := id hC
  obtain ⟨v1, v2, v3, v4, v5, v6⟩ := hV
  have cb : CallB R s args own idx y bytes maxL ret (x_W y bytes maxL ret) { frames := fr, cells := mc, slots := ms, locals := lo } mc ms n := callB_of n hts (x_gd v1) rfl rfl rfl (by rw [v6.1]; exact hts _ v5) (hts _ v2) ⟨v6.2.1, v6.2.2.1, v6.2.2.2⟩ hroom
  exact x_afterM (va_runV (As := As) (rest := rest) ⟨hx, hb, hml, hown, hts⟩ (hM H.size) ⟨cb, hts _ v3, hts _ v4⟩ ⟨x_blind E w H.size _, va_recv hK (x_P_r hI.1) hc he, x_preM (As := .ref b :: As) hC hI⟩ rfl hn hls hst (lv_room hrest) hdg hcap) hA hI kk
/-- the words of a constructor's call -/
def x_Vi (own : String) (idx : Nat) (y : MethodName) (bytes : ByteArray) (maxL : Nat) : Prop := Cond.code y bytes maxL none ∈ x_TB ∧ Cond.methodLink own idx y ∈ x_TB ∧ Cond.instanceMethod y ∈ x_TB ∧ Cond.initialized y.cls ∈ x_TB ∧ y.name = "<init>" ∧ (y.cls ≠ "java/lang/invoke/MethodHandle" ∧ y.cls ≠ "java/lang/invoke/VarHandle" ∧ (parseMethodDescriptor y.desc).map (fun d => d.parameters.length) = some 0)
theorem x_callI (hC : x_C p s m args meth c cc nL own E A) (hI : x_I E A s.heap (X ++ w) H locs) {y : MethodName} {bytes : ByteArray} {maxL fr lo idx b : Nat} (hM : x_Ma l y bytes maxL none fr lo mc ms E [.ref b] w Post) (hV : x_Vi own idx y bytes maxL) (hroom : fr + 1 ≤ R.frames ∧ 8 + (maxL + 11) + lo ≤ R.locals) (hcap : cells + mc ≤ R.cells ∧ slots + ms ≤ R.slots) (hls : ls.size = nL) (hrest : (rest.map fun v => v.category).sum ≤ 8) (hdg : decode cc pc = .ok (.invokespecial idx, 3))
    (kk : ∀ (rv : Option Value) (w' : va_W) (H1 : Heap) (locs1 : List Loc), Post rv w' → x_I E A s.heap (X ++ w') H1 locs1 → W p l e R s m args below meth c H1 locs1 (cells + mc) (slots + ms) Q (F0 m (pc + 3) ls (rv.toList ++ rest))) : W p l e R s m args below meth c H locs cells slots Q (F0 m pc ls (.ref b :: rest)) := by
  obtain ⟨hx, hb, hml, hown, hts, hK, hN, hA⟩ := id hC
  obtain ⟨v1, v2, v3, v4, v5, v6⟩ := hV
  exact x_afterM (va_runI (As := []) (rest := rest) ⟨hx, hb, hml, hown, hts⟩ (hM H.size) (cwI 0 hts (x_gd v1) rfl rfl rfl (hts _ v4) (hts _ v2) (hts _ v3) v5 v6 hroom) ⟨x_blind E w H.size _, x_preM (As := [.ref b]) hC hI⟩ rfl rfl hls rfl (lv_room hrest) hdg hcap) hA hI kk
def x_Vj (own : String) (idx : Nat) (y : MethodName) (bytes : ByteArray) (maxL : Nat) : Prop := Cond.code y bytes maxL none ∈ x_TB ∧ (own, idx, y) ∈ x_nl ∧ Cond.instanceMethod y ∈ x_TB ∧ Cond.initialized y.cls ∈ x_TB ∧ y.name = "<init>" ∧ (y.cls ≠ "java/lang/invoke/MethodHandle" ∧ y.cls ≠ "java/lang/invoke/VarHandle" ∧ (parseMethodDescriptor y.desc).map (fun d => d.parameters.length) = some 0)
theorem x_callJ (hC : x_C p s m args meth c cc nL own E A) (hI : x_I E A s.heap (X ++ w) H locs) {y : MethodName} {bytes : ByteArray} {maxL fr lo idx b : Nat} (hM : x_Ma l y bytes maxL none fr lo mc ms E [.ref b] w Post) (hV : x_Vj own idx y bytes maxL) (hroom : fr + 1 ≤ R.frames ∧ 8 + (maxL + 11) + lo ≤ R.locals) (hcap : cells + mc ≤ R.cells ∧ slots + ms ≤ R.slots) (hls : ls.size = nL) (hrest : (rest.map fun v => v.category).sum ≤ 8) (hdg : decode cc pc = .ok (.invokespecial idx, 3))
    (kk : ∀ (rv : Option Value) (w' : va_W) (H1 : Heap) (locs1 : List Loc), Post rv w' → x_I E A s.heap (X ++ w') H1 locs1 → W p l e R s m args below meth c H1 locs1 (cells + mc) (slots + ms) Q (F0 m (pc + 3) ls (rv.toList ++ rest))) : W p l e R s m args below meth c H locs cells slots Q (F0 m pc ls (.ref b :: rest)) := by
  obtain ⟨hx, hb, hml, hown, hts, hK, hN, hA⟩ := id hC
  obtain ⟨v1, v2, v3, v4, v5, v6⟩ := hV
  exact x_afterM (va_runIN (As := []) (rest := rest) (host := "StoryDecompile") ⟨hx, hb, hml, hown, hts⟩ (hM H.size) ⟨va_cnB 0 hts (x_gd v1) rfl rfl rfl (hN.1 _ v2) (hts _ v4) v6 hroom, v5, hts _ v3⟩ ⟨x_blind E w H.size _, x_preM (As := [.ref b]) hC hI⟩ rfl rfl hls rfl (lv_room hrest) hdg hcap) hA hI kk
theorem x_new (hC : x_C p s m args meth c cc nL own E A) (hI : x_I E A s.heap w H locs) (ci : Nat) {C : String} {T : u_T} {N idx : Nat} (fs : List Value) (ty : Nat → FieldType) (hty : ∀ k, k < N → parseFieldDescriptor (T k).2.2.1 = some (ty k)) (hc : vwCl[ci]? = some (C, T, N)) (hin : ∀ z ∈ u_ws C T N, z ∈ x_TB) (hfs : ∀ j, j < N → defaultValue (ty j) = vp_V fs j) (hcl : Cond.classLink own idx C ∈ x_TB) (hinst : Cond.instantiable C N ∈ x_TB) (hini : Cond.initialized C ∈ x_TB) (hcap : cells + 1 ≤ R.cells ∧ slots + N ≤ R.slots) (hdg : decode cc pc = .ok (.new idx, 3))
    (kk : ∀ (q : Nat) (H1 : Heap), x_I E A s.heap (w ++ [(q, .inr (ci, fs))]) H1 locs → W p l e R s m args below meth c H1 locs (cells + 1) (slots + N) Q (F0 m (pc + 3) ls (.ref q :: rest))) : W p l e R s m args below meth c H locs cells slots Q (F0 m pc ls rest) := by
  obtain ⟨hx, hb, hml, hown, hts, hK, hN, hA⟩ := id hC
  exact va_new (D := E.1) (cl := vwCl) hx hb hts hin ty hty hown (hts _ hcl) (hts _ hinst) (hts _ hini) hK hI.1 hI.2.1 hI.2.2 hA hc hfs hcap.1 hcap.2 hdg (fun q H1 h1 h2 h3 => kk q H1 ⟨h1, h2, h3⟩)
theorem x_newi (hC : x_C p s m args meth c cc nL own E A) (hI : x_I E A s.heap w H locs) {n : Int32} (N : Nat) (hn : ¬ n < 0) (hNn : n.toNatClampNeg = N) (hby : N * componentBytes .int ≤ 536870912) (harr : Cond.arrayClass .int ∈ x_TB) (hcap : cells + 1 ≤ R.cells ∧ slots + N ≤ R.slots) (hdg : decode cc pc = .ok (.newarray .int, 2))
    (kk : ∀ (q : Nat) (H1 : Heap), x_I E A s.heap (w ++ [(q, .inl (E.2.1, N, .inl (fun _ => 0)))]) H1 locs → W p l e R s m args below meth c H1 locs (cells + 1) (slots + N) Q (F0 m (pc + 2) ls (.ref q :: rest))) : W p l e R s m args below meth c H locs cells slots Q (F0 m pc ls (.int n :: rest)) := by
  obtain ⟨hx, hb, hml, hown, hts, hK, hN, hA⟩ := id hC
  refine va_newa (D := E.1) (cl := vwCl) (atype := .int) (a0 := (N, .inl (fun _ => 0))) hx hb (hts _ harr) rfl hK hI.1 hI.2.1 hI.2.2 hA (fun _ => rfl) hn hNn hby hcap.1 hcap.2 hdg (fun q cA H1 hK1 h1 h2 h3 => ?_)
  have e1 : s.vm.findClass ("[" ++ FieldType.int.toString) = some cA := (hK1.2 3 (cA, .int) rfl).2
  have e2 : s.vm.findClass ("[" ++ FieldType.int.toString) = some E.2.1 := (hK.2 0 (E.2.1, .int) rfl).2
  have e3 : cA = E.2.1 := Option.some.inj (e1.symm.trans e2)
  subst e3
  exact kk q H1 ⟨h1, h2, h3⟩
theorem x_newz (hC : x_C p s m args meth c cc nL own E A) (hI : x_I E A s.heap w H locs) {n : Int32} (N : Nat) (hn : ¬ n < 0) (hNn : n.toNatClampNeg = N) (hby : N * componentBytes .boolean ≤ 536870912) (harr : Cond.arrayClass .boolean ∈ x_TB) (hcap : cells + 1 ≤ R.cells ∧ slots + N ≤ R.slots) (hdg : decode cc pc = .ok (.newarray .boolean, 2))
    (kk : ∀ (q : Nat) (H1 : Heap), x_I E A s.heap (w ++ [(q, .inl (E.2.2.1, N, .inl (fun _ => 0)))]) H1 locs → W p l e R s m args below meth c H1 locs (cells + 1) (slots + N) Q (F0 m (pc + 2) ls (.ref q :: rest))) : W p l e R s m args below meth c H locs cells slots Q (F0 m pc ls (.int n :: rest)) := by
  obtain ⟨hx, hb, hml, hown, hts, hK, hN, hA⟩ := id hC
  refine va_newa (D := E.1) (cl := vwCl) (atype := .boolean) (a0 := (N, .inl (fun _ => 0))) hx hb (hts _ harr) rfl hK hI.1 hI.2.1 hI.2.2 hA (fun _ => rfl) hn hNn hby hcap.1 hcap.2 hdg (fun q cA H1 hK1 h1 h2 h3 => ?_)
  have e1 : s.vm.findClass ("[" ++ FieldType.boolean.toString) = some cA := (hK1.2 3 (cA, .boolean) rfl).2
  have e2 : s.vm.findClass ("[" ++ FieldType.boolean.toString) = some E.2.2.1 := (hK.2 1 (E.2.2.1, .boolean) rfl).2
  have e3 : cA = E.2.2.1 := Option.some.inj (e1.symm.trans e2)
  subst e3
  exact kk q H1 ⟨h1, h2, h3⟩
theorem x_newo (hC : x_C p s m args meth c cc nL own E A) (hI : x_I E A s.heap w H locs) {n : Int32} {idx : Nat} (N : Nat) (hn : ¬ n < 0) (hNn : n.toNatClampNeg = N) (hby : N * 4 ≤ 536870912) (hcl : Cond.classLink own idx "StoryDecompile$Routine" ∈ x_TB) (hcap : cells + 1 ≤ R.cells ∧ slots + N ≤ R.slots) (hdg : decode cc pc = .ok (.anewarray idx, 3))
    (kk : ∀ (q : Nat) (H1 : Heap), x_I E A s.heap (w ++ [(q, .inl (E.2.2.2, N, .inr (.inr (.inr (.inr (fun _ => none))))))]) H1 locs → W p l e R s m args below meth c H1 locs (cells + 1) (slots + N) Q (F0 m (pc + 3) ls (.ref q :: rest))) : W p l e R s m args below meth c H locs cells slots Q (F0 m pc ls (.int n :: rest)) := by
  obtain ⟨hx, hb, hml, hown, hts, hK, hN, hA⟩ := id hC
  refine va_newq (D := E.1) (cl := vwCl) hx hb hown (hts _ hcl) hN.2 hK hI.1 hI.2.1 hI.2.2 hA hn hNn hby hcap.1 hcap.2 hdg (fun q cA H1 hK1 h1 h2 h3 => ?_)
  obtain ⟨_, _, _, _, _, e1⟩ := (hK1.2 3 (cA, .object "StoryDecompile$Routine") rfl).2
  obtain ⟨_, _, _, _, _, e2⟩ := (hK.2 2 (E.2.2.2, .object "StoryDecompile$Routine") rfl).2
  have e3 : cA = E.2.2.2 := Option.some.inj (e1.symm.trans e2)
  subst e3
  exact kk q H1 ⟨h1, h2, h3⟩
theorem x_putF (hC : x_C p s m args meth c cc nL own E A) (hname : meth.name = "<init>") (hI : x_I E A s.heap w H locs) (q0 ci k : Nat) {b : Nat} {T : u_T} {N idx : Nat} {fs : List Value} {v : Value} (ty0 : Nat → FieldType) (hty : ∀ k, k < N → parseFieldDescriptor (T k).2.2.1 = some (ty0 k)) (hnm : ∀ a, a < N → ∀ b, b < N → a ≠ b → (T a).2.1 ≠ (T b).2.1) (he : w[q0]? = some (b, .inr (ci, fs))) (hc : vwCl[ci]? = some (own, T, N)) (hin : ∀ z ∈ u_ws own T N, z ∈ x_TB) (hk : k < N) (hn : (T k).1 = own) (hfin : (T k).2.2.2 = true) (hnar : narrow (ty0 k) v = v) (hfit : fits (ty0 k) v = true) (hlen : k < fs.length) (hw : w.set q0 (b, .inr (ci, fs.set k v)) = w') (hlink : Cond.fieldLink own idx own (T k).2.1 (T k).2.2.1 ∈ x_TB) (hdg : decode cc pc = .ok (.putfield idx, 3))
    (kk : ∀ (H1 : Heap) (locs1 : List Loc), x_I E A s.heap w' H1 locs1 → W p l e R s m args below meth c H1 locs1 cells slots Q (F0 m (pc + 3) ls rest)) : W p l e R s m args below meth c H locs cells slots Q (F0 m pc ls (v :: .ref b :: rest)) := by
  obtain ⟨hx, hb, hml, hown, hts, hK, hN, hA⟩ := hC
  subst hw
  exact va_putF (D := E.1) (cl := vwCl) (Ts := x_TB) hx hb hts hin ty0 hty hnm hown hK hI.1 hI.2.1 hI.2.2 q0 he hc k hk (hts _ hlink) (fun x h => by rw [hn] at h; exact h) hfin hname hn (hty k hk) hnar hfit hlen hdg (fun H1 locs1 h1 h2 h3 => kk H1 locs1 ⟨h1, h2, h3⟩)
theorem x_obj0 (hC : x_C p s m args meth c cc nL own E A) (hls : ls.size = nL) {b idx : Nat} (hlink : Cond.methodLink own idx objectInit ∈ x_TB) (hinst : Cond.instanceMethod objectInit ∈ x_TB) (hcode : Cond.code objectInit ⟨#[0xb1]⟩ 1 none ∈ x_TB) (hroom : 1 ≤ R.frames ∧ 20 ≤ R.locals) (hdg : decode cc pc = .ok (.invokespecial idx, 3))
    (kk : W p l e R s m args below meth c H locs cells slots Q (F0 m (pc + 3) ls [])) : W p l e R s m args below meth c H locs cells slots Q (F0 m pc ls [.ref b]) := by
  obtain ⟨hx, hb, hml, hown, hts, hK, hN, hA⟩ := hC
  exact W.objInit hx hb hown (hts _ hlink) (hts _ hinst) (hts _ hcode) rfl (by rw [hml]; exact hls) rfl hdg hroom.1 (Nat.le_trans (Nat.le_of_ble_eq_true rfl) hroom.2) kk
end
section
variable {l : Launch} {y : MethodName} {cc : ByteArray} {nL fr lo mc ms : Nat} {E : x_E} {av : List Value} {w : va_W} {Post : Option Value → va_W → Prop}
/-- a constructor, or a method that answers an int, that makes cells -/
theorem x_entC (hy : plainName y.cls = true) (hyn : y.name = "<init>") (hlen : (lg_sl av).length ≤ nL) (body : ∀ (p : Program) (e : Env) (s : State) (m : MethodId) (args : Array Value) (below : List Frame) (meth : Method) (c : Code) (A : Nat → Prop) (Q : State → Prop) (ls : Array Slot), x_C p s m args meth c cc nL y.cls E A → meth.name = "<init>" → x_I E A s.heap w s.heap [] → (∀ (w' : va_W) (H : Heap) (locs : List Loc) (pc : Nat) (ls : Array Slot), Post none w' → x_I E A s.heap w' H locs → decode cc pc = .ok (.return_, 1) → W p l e { frames := fr, cells := mc, slots := ms, locals := lo } s m args below meth c H locs mc ms Q (F0 m pc ls [])) → lv_has ls nL (lv_args 0 av) → W p l e { frames := fr, cells := mc, slots := ms, locals := lo } s m args below meth c s.heap [] 0 0 Q (F0 m 0 ls [])) : x_Ma l y cc nL none fr lo mc ms E av w Post := by
  intro sz
  refine Met.ofW (cc := cc) (maxL := nL) (ret := none) hy rfl ?_
  intro p e s m args below meth c s₁ B hml hv
  obtain ⟨rfl, hsz, hP, hK, hN, hD0⟩ := hv
  have hts := atoms_spec (ws := x_W y cc nL none) B.pre
  have hown := findClass_of_methodNamed B.named
  have hnm : meth.name = "<init>" := ((name_of_methodNamed B.named B.method).1).trans hyn
  subst hsz
  have hl := lv_entry av (n := nL) hlen
  rw [lg_entry_eq]
  exact body p e s m _ below meth c (va_A w s.heap.size) _ _ ⟨B.exec, B.bytes, hml, hown, fun z h => hts z (List.mem_cons_of_mem _ h), hK, hN, fun q h => Or.inr h⟩ hnm ⟨hP, hD0.self (sz := s.heap.size), va_S.rf⟩ (fun w' H locs pc ls hpost hI hd => W.vret B.exec B.bytes B.returns (fun t ht hW => ⟨none, w', rfl, hpost, by rw [ht]; exact hI.1, hI.2.1, hI.2.2.F ht⟩) hI.2.2.2.2 hd B.notSynchronized) hl
theorem x_entIM (hy : plainName y.cls = true) (hlen : (lg_sl av).length ≤ nL) (body : ∀ (p : Program) (e : Env) (s : State) (m : MethodId) (args : Array Value) (below : List Frame) (meth : Method) (c : Code) (A : Nat → Prop) (Q : State → Prop) (ls : Array Slot), x_C p s m args meth c cc nL y.cls E A → x_I E A s.heap w s.heap [] → (∀ (r : Int32) (w' : va_W) (H : Heap) (locs : List Loc) (pc : Nat) (ls : Array Slot), Post (some (.int r)) w' → x_I E A s.heap w' H locs → decode cc pc = .ok (.ireturn, 1) → W p l e { frames := fr, cells := mc, slots := ms, locals := lo } s m args below meth c H locs mc ms Q (F0 m pc ls [.int r])) → lv_has ls nL (lv_args 0 av) → W p l e { frames := fr, cells := mc, slots := ms, locals := lo } s m args below meth c s.heap [] 0 0 Q (F0 m 0 ls [])) : x_Ma l y cc nL (some .int) fr lo mc ms E av w Post := by
  intro sz
  refine Met.ofW (cc := cc) (maxL := nL) (ret := some .int) hy rfl ?_
  intro p e s m args below meth c s₁ B hml hv
  obtain ⟨rfl, hsz, hP, hK, hN, hD0⟩ := hv
  have hts := atoms_spec (ws := x_W y cc nL (some .int)) B.pre
  have hown := findClass_of_methodNamed B.named
  subst hsz
  have hl := lv_entry av (n := nL) hlen
  rw [lg_entry_eq]
  exact body p e s m _ below meth c (va_A w s.heap.size) _ _ ⟨B.exec, B.bytes, hml, hown, fun z h => hts z (List.mem_cons_of_mem _ h), hK, hN, fun q h => Or.inr h⟩ ⟨hP, hD0.self (sz := s.heap.size), va_S.rf⟩ (fun r w' H locs pc ls hpost hI hd => W.iret B.exec B.bytes B.returns (fun t ht hW => ⟨_, w', rfl, hpost, by rw [ht]; exact hI.1, hI.2.1, hI.2.2.F ht⟩) hI.2.2.2.2 hd B.notSynchronized) hl
end
