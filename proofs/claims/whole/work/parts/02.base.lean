/-! The base: one list of words for all methods, one form of contract, rows that carry the pure function's equation along. -/
def x_TB : List Cond := lw_tbl.filter goodWord
abbrev x_W (y : MethodName) (cc : ByteArray) (n : Nat) (ret : Option FieldType) : List Cond := Cond.code y cc n ret :: x_TB
theorem x_in {w : Cond} (i : Nat) (h : tables_1[i]? = some w) (hg : goodWord w = true) : w ∈ x_TB := List.mem_filter.mpr ⟨List.mem_append_right _ (List.mem_of_getElem? h), hg⟩
theorem x_inp {w : Cond} (i : Nat) (h : (k2_sels lw_privs)[i]? = some w) (hg : goodWord w = true) : w ∈ x_TB := List.mem_filter.mpr ⟨List.mem_append_left _ (List.mem_of_getElem? h), hg⟩
theorem x_gd {y : MethodName} {cc : ByteArray} {n : Nat} {ret : Option FieldType} (h : Cond.code y cc n ret ∈ x_TB) : GoodIn x_TB (x_W y cc n ret) := by
  intro w hw
  have hm : w ∈ x_TB := by
    rcases List.mem_cons.mp hw with rfl | h1
    · exact h
    · exact h1
  exact ⟨hm, good_of_word (List.mem_filter.mp hm).2⟩
/-- the array classes -/
abbrev x_E : Type := va_G × ClassId × ClassId × ClassId
abbrev x_ty (E : x_E) : List (ClassId × FieldType) := [(E.2.1, .int), (E.2.2.1, .boolean), (E.2.2.2, .object "StoryDecompile$Routine")]
/-- links to a nest mate's members that nobody else may use -/
def x_nl : List (String × Nat × MethodName) := [("StoryDecompile", 21, yX1_init), ("StoryDecompile$Reader", 11, yX4_init), ("StoryDecompile", 31, yX0_init), ("StoryDecompile", 45, yX5_init), ("StoryDecompile$Writer", 11, yX2_init), ("StoryDecompile", 58, yX3_init), ("StoryDecompile", 63, yX2_init), ("StoryDecompile$Routine", 32, yX6_usesA), ("StoryDecompile$Routine", 36, yX6_usesB), ("StoryDecompile$Routine", 39, yX6_isJump), ("StoryDecompile$Reader", 103, yX6_isJump), ("StoryDecompile$Reach", 37, yX6_isJump), ("StoryDecompile$Writer", 105, yX6_isJump), ("StoryDecompile$Writer", 119, yX6_mayHaveA), ("StoryDecompile$Writer", 123, yX6_mayHaveB)]
def x_N (U : State) : Prop := (∀ q ∈ x_nl, va_Nw (.methodLinkNest q.1 q.2.1 q.2.2 "StoryDecompile") U) ∧ va_AO "StoryDecompile$Routine" U
theorem x_N.warm {s U : State} (hW : s.WarmedH U.vm) (h : x_N s) : x_N U := ⟨fun q hq => va_Nw.warmM hW (h.1 q hq), va_AO.moved hW.alike h.2⟩
/-- a method's start and end: the world, and nothing else, may change -/
def x_B (E : x_E) (w : va_W) (sz : Nat) (U : State) : Prop := U.heap.size = sz ∧ va_P E.1 vwCl w U.heap ∧ va_K E.1 vwCl (x_ty E) U ∧ x_N U ∧ va_D (fun _ => True) w
def x_Q (E : x_E) (w w' : va_W) (rv : Option Value) (sz : Nat) : Array Value → State → Outcome → State → Prop := fun _ st oc t => oc = .returned rv ∧ va_P E.1 vwCl w' t.heap ∧ va_D (va_A w sz) w' ∧ va_F (va_A w sz) st t
def x_M (l : Launch) (y : MethodName) (cc : ByteArray) (n : Nat) (ret : Option FieldType) (fr lo : Nat) (E : x_E) (av : List Value) (w w' : va_W) (rv : Option Value) : Prop :=
  ∀ sz : Nat, Met l y (x_W y cc n ret) { frames := fr, cells := 0, slots := 0, locals := lo } (va_Pc av (x_B E w sz)) (x_Q E w w' rv sz) 0 0 (va_A w sz)
def x_I (E : x_E) (A : Nat → Prop) (H0 : Heap) (w : va_W) (H : Heap) (locs : List Loc) : Prop := va_P E.1 vwCl w H ∧ va_D A w ∧ va_S A H0 H locs
def x_C (p : Program) (s : State) (m : MethodId) (args : Array Value) (meth : Method) (c : Code) (cc : ByteArray) (nL : Nat) (own : String) (E : x_E) (A : Nat → Prop) : Prop :=
  p.tables.exec = Jvm.exec ∧ c.code = cc ∧ c.maxLocals = nL ∧ s.vm.findClass own = some m.cls ∧ (∀ w ∈ x_TB, w.before args s = true) ∧ va_K E.1 vwCl (x_ty E) s ∧ x_N s ∧ (∀ q, s.heap.size ≤ q → A q)
theorem x_blind (E : x_E) (w : va_W) (sz : Nat) (av : List Value) : FrameBlind (va_Pc av (x_B E w sz)) := fun a U g mk q => by
  obtain ⟨q0, q1, qP, qK, qN, qD⟩ := q
  exact ⟨q0, q1, qP, va_K.moved (u := U) (U := U.calling g mk a) (Vm.Alike.refl U.vm) qK, ⟨fun z hz => va_Nw.same (u := U) (U := U.calling g mk a) rfl rfl (qN.1 z hz), va_AO.moved (u := U) (U := U.calling g mk a) (Vm.Alike.refl U.vm) qN.2⟩, qD⟩
/-! pure words -/
def x_let {α ρ : Type} (a : α) (k : α → Option ρ) : Option ρ := k a
def x_g {ρ : Type} (c : Prop) [Decidable c] (k : Option ρ) : Option ρ := if c then k else none
def x_loop {σ ρ : Type} (body : (σ → Option ρ) → σ → Option ρ) : Nat → σ → Option ρ
  | 0, _ => none
  | k + 1, z => body (x_loop body k) z
theorem x_g_eq {ρ : Type} {c : Prop} [Decidable c] {k : Option ρ} {r : ρ} (h : x_g c k = some r) : c ∧ k = some r := by
  unfold x_g at h
  by_cases hc : c
  · rw [if_pos hc] at h
    exact ⟨hc, h⟩
  · rw [if_neg hc] at h
    cases h
theorem x_loop_ind {σ ρ : Type} {body : (σ → Option ρ) → σ → Option ρ} {r : ρ} {P : σ → Prop} (h : ∀ (rec : σ → Option ρ), (∀ z, rec z = some r → P z) → ∀ z, body rec z = some r → P z) : ∀ (k : Nat) (z : σ), x_loop body k z = some r → P z := by
  intro k
  induction k with
  | zero => intro z hz; cases hz
  | succ k ih => intro z hz; exact h _ ih z hz
section XR
variable {p : Program} {l : Launch} {e : Env} {R : Room} {s : State} {m : MethodId} {args : Array Value} {below : List Frame} {meth : Method} {c : Code} {H : Heap} {locs : List Loc} {cells slots : Nat} {Q : State → Prop}
variable {cc : ByteArray} {nL pc : Nat} {own : String} {E : x_E} {A : Nat → Prop} {ls : Array Slot} {rest : List Value} {w w' : va_W} {a : Nat} {ρ : Type} {r : ρ}
/-! branches that take the pure function's branch along -/
theorem x_eq0 (hC : x_C p s m args meth c cc nL own E A) {x : Int32} {off : Int} (tgt : Nat) {F G : Option ρ} (hf : (if x = 0 then F else G) = some r) (hdg : decode cc pc = .ok (.ifCond .eq off, 3)) (ht : (pc : Int) + off = (tgt : Int)) (kt : F = some r → W p l e R s m args below meth c H locs cells slots Q (F0 m tgt ls rest)) (kf : G = some r → W p l e R s m args below meth c H locs cells slots Q (F0 m (pc + 3) ls rest)) : W p l e R s m args below meth c H locs cells slots Q (F0 m pc ls (.int x :: rest)) :=
  lv_if_eq hC.1 hC.2.1 hdg ht (fun h => kt (by rw [if_pos h] at hf; exact hf)) (fun h => kf (by rw [if_neg h] at hf; exact hf))
theorem x_ne0 (hC : x_C p s m args meth c cc nL own E A) {x : Int32} {off : Int} (tgt : Nat) {F G : Option ρ} (hf : (if x = 0 then G else F) = some r) (hdg : decode cc pc = .ok (.ifCond .ne off, 3)) (ht : (pc : Int) + off = (tgt : Int)) (kt : F = some r → W p l e R s m args below meth c H locs cells slots Q (F0 m tgt ls rest)) (kf : G = some r → W p l e R s m args below meth c H locs cells slots Q (F0 m (pc + 3) ls rest)) : W p l e R s m args below meth c H locs cells slots Q (F0 m pc ls (.int x :: rest)) :=
  lv_if_ne hC.1 hC.2.1 hdg ht (fun h => kt (by rw [if_neg h] at hf; exact hf)) (fun h => kf (by rw [if_pos h] at hf; exact hf))
theorem x_lt0 (hC : x_C p s m args meth c cc nL own E A) {x : Int32} {off : Int} (tgt : Nat) {F G : Option ρ} (hf : (if x < 0 then F else G) = some r) (hdg : decode cc pc = .ok (.ifCond .lt off, 3)) (ht : (pc : Int) + off = (tgt : Int)) (kt : F = some r → W p l e R s m args below meth c H locs cells slots Q (F0 m tgt ls rest)) (kf : G = some r → W p l e R s m args below meth c H locs cells slots Q (F0 m (pc + 3) ls rest)) : W p l e R s m args below meth c H locs cells slots Q (F0 m pc ls (.int x :: rest)) :=
  lv_if_lt hC.1 hC.2.1 hdg ht (fun h => kt (by rw [if_pos h] at hf; exact hf)) (fun h => kf (by rw [if_neg h] at hf; exact hf))
theorem x_ge0 (hC : x_C p s m args meth c cc nL own E A) {x : Int32} {off : Int} (tgt : Nat) {F G : Option ρ} (hf : (if 0 ≤ x then F else G) = some r) (hdg : decode cc pc = .ok (.ifCond .ge off, 3)) (ht : (pc : Int) + off = (tgt : Int)) (kt : F = some r → W p l e R s m args below meth c H locs cells slots Q (F0 m tgt ls rest)) (kf : G = some r → W p l e R s m args below meth c H locs cells slots Q (F0 m (pc + 3) ls rest)) : W p l e R s m args below meth c H locs cells slots Q (F0 m pc ls (.int x :: rest)) :=
  lv_if_ge hC.1 hC.2.1 hdg ht (fun h => kt (by rw [if_pos h] at hf; exact hf)) (fun h => kf (by rw [if_neg h] at hf; exact hf))
theorem x_gt0 (hC : x_C p s m args meth c cc nL own E A) {x : Int32} {off : Int} (tgt : Nat) {F G : Option ρ} (hf : (if 0 < x then F else G) = some r) (hdg : decode cc pc = .ok (.ifCond .gt off, 3)) (ht : (pc : Int) + off = (tgt : Int)) (kt : F = some r → W p l e R s m args below meth c H locs cells slots Q (F0 m tgt ls rest)) (kf : G = some r → W p l e R s m args below meth c H locs cells slots Q (F0 m (pc + 3) ls rest)) : W p l e R s m args below meth c H locs cells slots Q (F0 m pc ls (.int x :: rest)) :=
  lv_if_gt hC.1 hC.2.1 hdg ht (fun h => kt (by rw [if_pos h] at hf; exact hf)) (fun h => kf (by rw [if_neg h] at hf; exact hf))
theorem x_le0 (hC : x_C p s m args meth c cc nL own E A) {x : Int32} {off : Int} (tgt : Nat) {F G : Option ρ} (hf : (if x ≤ 0 then F else G) = some r) (hdg : decode cc pc = .ok (.ifCond .le off, 3)) (ht : (pc : Int) + off = (tgt : Int)) (kt : F = some r → W p l e R s m args below meth c H locs cells slots Q (F0 m tgt ls rest)) (kf : G = some r → W p l e R s m args below meth c H locs cells slots Q (F0 m (pc + 3) ls rest)) : W p l e R s m args below meth c H locs cells slots Q (F0 m pc ls (.int x :: rest)) :=
  lv_if_le hC.1 hC.2.1 hdg ht (fun h => kt (by rw [if_pos h] at hf; exact hf)) (fun h => kf (by rw [if_neg h] at hf; exact hf))
theorem x_ieq (hC : x_C p s m args meth c cc nL own E A) {x y : Int32} {off : Int} (tgt : Nat) {F G : Option ρ} (hf : (if x = y then F else G) = some r) (hdg : decode cc pc = .ok (.if_icmp .eq off, 3)) (ht : (pc : Int) + off = (tgt : Int)) (kt : F = some r → W p l e R s m args below meth c H locs cells slots Q (F0 m tgt ls rest)) (kf : G = some r → W p l e R s m args below meth c H locs cells slots Q (F0 m (pc + 3) ls rest)) : W p l e R s m args below meth c H locs cells slots Q (F0 m pc ls (.int y :: .int x :: rest)) :=
  lv_icmp_eq hC.1 hC.2.1 hdg ht (fun h => kt (by rw [if_pos h] at hf; exact hf)) (fun h => kf (by rw [if_neg h] at hf; exact hf))
theorem x_ine (hC : x_C p s m args meth c cc nL own E A) {x y : Int32} {off : Int} (tgt : Nat) {F G : Option ρ} (hf : (if x = y then G else F) = some r) (hdg : decode cc pc = .ok (.if_icmp .ne off, 3)) (ht : (pc : Int) + off = (tgt : Int)) (kt : F = some r → W p l e R s m args below meth c H locs cells slots Q (F0 m tgt ls rest)) (kf : G = some r → W p l e R s m args below meth c H locs cells slots Q (F0 m (pc + 3) ls rest)) : W p l e R s m args below meth c H locs cells slots Q (F0 m pc ls (.int y :: .int x :: rest)) :=
  lv_icmp_ne hC.1 hC.2.1 hdg ht (fun h => kt (by rw [if_neg h] at hf; exact hf)) (fun h => kf (by rw [if_pos h] at hf; exact hf))
theorem x_ilt (hC : x_C p s m args meth c cc nL own E A) {x y : Int32} {off : Int} (tgt : Nat) {F G : Option ρ} (hf : (if x < y then F else G) = some r) (hdg : decode cc pc = .ok (.if_icmp .lt off, 3)) (ht : (pc : Int) + off = (tgt : Int)) (kt : F = some r → W p l e R s m args below meth c H locs cells slots Q (F0 m tgt ls rest)) (kf : G = some r → W p l e R s m args below meth c H locs cells slots Q (F0 m (pc + 3) ls rest)) : W p l e R s m args below meth c H locs cells slots Q (F0 m pc ls (.int y :: .int x :: rest)) :=
  lv_icmp_lt hC.1 hC.2.1 hdg ht (fun h => kt (by rw [if_pos h] at hf; exact hf)) (fun h => kf (by rw [if_neg h] at hf; exact hf))
theorem x_ige (hC : x_C p s m args meth c cc nL own E A) {x y : Int32} {off : Int} (tgt : Nat) {F G : Option ρ} (hf : (if y ≤ x then F else G) = some r) (hdg : decode cc pc = .ok (.if_icmp .ge off, 3)) (ht : (pc : Int) + off = (tgt : Int)) (kt : F = some r → W p l e R s m args below meth c H locs cells slots Q (F0 m tgt ls rest)) (kf : G = some r → W p l e R s m args below meth c H locs cells slots Q (F0 m (pc + 3) ls rest)) : W p l e R s m args below meth c H locs cells slots Q (F0 m pc ls (.int y :: .int x :: rest)) :=
  lv_icmp_ge hC.1 hC.2.1 hdg ht (fun h => kt (by rw [if_pos h] at hf; exact hf)) (fun h => kf (by rw [if_neg h] at hf; exact hf))
theorem x_igt (hC : x_C p s m args meth c cc nL own E A) {x y : Int32} {off : Int} (tgt : Nat) {F G : Option ρ} (hf : (if y < x then F else G) = some r) (hdg : decode cc pc = .ok (.if_icmp .gt off, 3)) (ht : (pc : Int) + off = (tgt : Int)) (kt : F = some r → W p l e R s m args below meth c H locs cells slots Q (F0 m tgt ls rest)) (kf : G = some r → W p l e R s m args below meth c H locs cells slots Q (F0 m (pc + 3) ls rest)) : W p l e R s m args below meth c H locs cells slots Q (F0 m pc ls (.int y :: .int x :: rest)) :=
  lv_icmp_gt hC.1 hC.2.1 hdg ht (fun h => kt (by rw [if_pos h] at hf; exact hf)) (fun h => kf (by rw [if_neg h] at hf; exact hf))
theorem x_ile (hC : x_C p s m args meth c cc nL own E A) {x y : Int32} {off : Int} (tgt : Nat) {F G : Option ρ} (hf : (if x ≤ y then F else G) = some r) (hdg : decode cc pc = .ok (.if_icmp .le off, 3)) (ht : (pc : Int) + off = (tgt : Int)) (kt : F = some r → W p l e R s m args below meth c H locs cells slots Q (F0 m tgt ls rest)) (kf : G = some r → W p l e R s m args below meth c H locs cells slots Q (F0 m (pc + 3) ls rest)) : W p l e R s m args below meth c H locs cells slots Q (F0 m pc ls (.int y :: .int x :: rest)) :=
  lv_icmp_le hC.1 hC.2.1 hdg ht (fun h => kt (by rw [if_pos h] at hf; exact hf)) (fun h => kf (by rw [if_neg h] at hf; exact hf))
/-! fields and arrays -/
theorem x_get (hC : x_C p s m args meth c cc nL own E A) (hI : x_I E A s.heap w H locs) (q0 ci k : Nat) {C : String} {T : u_T} {N idx : Nat} {fs : List Value} {v : Value} (he : w[q0]? = some (a, .inr (ci, fs))) (hc : vwCl[ci]? = some (C, T, N)) (hin : ∀ z ∈ u_ws C T N, z ∈ x_TB) (hk : k < N) (hn : (T k).1 = C) (hlink : Cond.fieldLink own idx C (T k).2.1 (T k).2.2.1 ∈ x_TB) (hv : fs[k]? = some v) (hdg : decode cc pc = .ok (.getfield idx, 3))
    (kk : W p l e R s m args below meth c H locs cells slots Q (F0 m (pc + 3) ls (v :: rest))) : W p l e R s m args below meth c H locs cells slots Q (F0 m pc ls (.ref a :: rest)) := by
  obtain ⟨hx, hb, hml, hown, hts, hK, hN, hA⟩ := hC
  exact va_get (D := E.1) (cl := vwCl) (Ts := x_TB) hx hb hts hin hown hK hI.1 q0 he hc k hk (hts _ hlink) (fun x h => by rw [hn] at h; exact h) hv hdg kk
theorem x_put (hC : x_C p s m args meth c cc nL own E A) (hI : x_I E A s.heap w H locs) (q0 ci k : Nat) {C : String} {T : u_T} {N idx : Nat} {fs : List Value} {v : Value} (ty0 : Nat → FieldType) (hty : ∀ k, k < N → parseFieldDescriptor (T k).2.2.1 = some (ty0 k)) (hnm : ∀ a, a < N → ∀ b, b < N → a ≠ b → (T a).2.1 ≠ (T b).2.1) (he : w[q0]? = some (a, .inr (ci, fs))) (hc : vwCl[ci]? = some (C, T, N)) (hin : ∀ z ∈ u_ws C T N, z ∈ x_TB) (hk : k < N) (hn : (T k).1 = C) (hfin : (T k).2.2.2 = false) (hnar : narrow (ty0 k) v = v) (hfit : fits (ty0 k) v = true) (hlen : k < fs.length) (hw : w.set q0 (a, .inr (ci, fs.set k v)) = w') (hlink : Cond.fieldLink own idx C (T k).2.1 (T k).2.2.1 ∈ x_TB) (hdg : decode cc pc = .ok (.putfield idx, 3))
    (kk : ∀ (H1 : Heap) (locs1 : List Loc), x_I E A s.heap w' H1 locs1 → W p l e R s m args below meth c H1 locs1 cells slots Q (F0 m (pc + 3) ls rest)) : W p l e R s m args below meth c H locs cells slots Q (F0 m pc ls (v :: .ref a :: rest)) := by
  obtain ⟨hx, hb, hml, hown, hts, hK, hN, hA⟩ := hC
  subst hw
  exact va_put (D := E.1) (cl := vwCl) (Ts := x_TB) hx hb hts hin ty0 hty hnm hown hK hI.1 hI.2.1 hI.2.2 q0 he hc k hk (hts _ hlink) (fun x h => by rw [hn] at h; exact h) hfin (hty k hk) hnar hfit hlen hdg (fun H1 locs1 h1 h2 h3 => kk H1 locs1 ⟨h1, h2, h3⟩)
theorem x_iald (hC : x_C p s m args meth c cc nL own E A) (hI : x_I E A s.heap w H locs) (q0 : Nat) {n : Nat} {f : Nat → Int32} (he : w[q0]? = some (a, .inl (E.2.1, n, .inl f))) {i : Int32} (hin : ¬ (i < 0 ∨ n ≤ i.toNatClampNeg)) (hdg : decode cc pc = .ok (.iaload, 1))
    (kk : W p l e R s m args below meth c H locs cells slots Q (F0 m (pc + 1) ls (.int (f i.toNatClampNeg) :: rest))) : W p l e R s m args below meth c H locs cells slots Q (F0 m pc ls (.int i :: .ref a :: rest)) := by
  obtain ⟨hx, hb, hml, hown, hts, hK, hN, hA⟩ := hC
  exact va_iald (D := E.1) (cl := vwCl) hx hb hK hI.1 q0 0 he rfl hin hdg kk
theorem x_zald (hC : x_C p s m args meth c cc nL own E A) (hI : x_I E A s.heap w H locs) (q0 : Nat) {n : Nat} {f : Nat → Int32} (he : w[q0]? = some (a, .inl (E.2.2.1, n, .inl f))) {i : Int32} (hin : ¬ (i < 0 ∨ n ≤ i.toNatClampNeg)) (hdg : decode cc pc = .ok (.baload, 1))
    (kk : W p l e R s m args below meth c H locs cells slots Q (F0 m (pc + 1) ls (.int (f i.toNatClampNeg) :: rest))) : W p l e R s m args below meth c H locs cells slots Q (F0 m pc ls (.int i :: .ref a :: rest)) := by
  obtain ⟨hx, hb, hml, hown, hts, hK, hN, hA⟩ := hC
  exact va_zald (D := E.1) (cl := vwCl) hx hb hK hI.1 q0 1 he rfl hin hdg kk
theorem x_aald (hC : x_C p s m args meth c cc nL own E A) (hI : x_I E A s.heap w H locs) (q0 : Nat) {n : Nat} {f : Nat → Option Nat} (he : w[q0]? = some (a, .inl (E.2.2.2, n, .inr (.inr (.inr (.inr f)))))) {i : Int32} (hin : ¬ (i < 0 ∨ n ≤ i.toNatClampNeg)) (hdg : decode cc pc = .ok (.aaload, 1))
    (kk : W p l e R s m args below meth c H locs cells slots Q (F0 m (pc + 1) ls (va_rf (f i.toNatClampNeg) :: rest))) : W p l e R s m args below meth c H locs cells slots Q (F0 m pc ls (.int i :: .ref a :: rest)) := by
  obtain ⟨hx, hb, hml, hown, hts, hK, hN, hA⟩ := hC
  exact va_aldq (D := E.1) (cl := vwCl) hx hb hK hI.1 q0 2 he rfl hin hdg kk
theorem x_iast (hC : x_C p s m args meth c cc nL own E A) (hI : x_I E A s.heap w H locs) (q0 : Nat) {n : Nat} {f : Nat → Int32} (he : w[q0]? = some (a, .inl (E.2.1, n, .inl f))) {i x : Int32} (hw : w.set q0 (a, .inl (E.2.1, n, .inl (upd f i.toNatClampNeg x))) = w') (hin : ¬ (i < 0 ∨ n ≤ i.toNatClampNeg)) (hdg : decode cc pc = .ok (.iastore, 1))
    (kk : ∀ (H1 : Heap) (locs1 : List Loc), x_I E A s.heap w' H1 locs1 → W p l e R s m args below meth c H1 locs1 cells slots Q (F0 m (pc + 1) ls rest)) : W p l e R s m args below meth c H locs cells slots Q (F0 m pc ls (.int x :: .int i :: .ref a :: rest)) := by
  obtain ⟨hx, hb, hml, hown, hts, hK, hN, hA⟩ := hC
  subst hw
  exact va_iast (D := E.1) (cl := vwCl) hx hb hK hI.1 hI.2.1 hI.2.2 q0 0 he rfl hin hdg (fun H1 locs1 h1 h2 h3 => kk H1 locs1 ⟨h1, h2, h3⟩)
theorem x_nar1 {x : Int32} (h : x = 0 ∨ x = 1) : narrow .boolean (.int x) = .int x := by
  rcases h with rfl | rfl <;> rfl
theorem x_nar2 {x : Int32} (h : x = 0 ∨ x = 1) : vp_nar .boolean x = x := by
  rcases h with rfl | rfl <;> rfl
theorem x_fit1 {x : Int32} (h : x = 0 ∨ x = 1) : fits .boolean (.int x) = true := by
  rcases h with rfl | rfl <;> rfl
theorem x_zast (hC : x_C p s m args meth c cc nL own E A) (hI : x_I E A s.heap w H locs) (q0 : Nat) {n : Nat} {f : Nat → Int32} (he : w[q0]? = some (a, .inl (E.2.2.1, n, .inl f))) {i x : Int32} (hw : w.set q0 (a, .inl (E.2.2.1, n, .inl (upd f i.toNatClampNeg x))) = w') (hin : ¬ (i < 0 ∨ n ≤ i.toNatClampNeg)) (hz : x = 0 ∨ x = 1) (hdg : decode cc pc = .ok (.bastore, 1))
    (kk : ∀ (H1 : Heap) (locs1 : List Loc), x_I E A s.heap w' H1 locs1 → W p l e R s m args below meth c H1 locs1 cells slots Q (F0 m (pc + 1) ls rest)) : W p l e R s m args below meth c H locs cells slots Q (F0 m pc ls (.int x :: .int i :: .ref a :: rest)) := by
  obtain ⟨hx, hb, hml, hown, hts, hK, hN, hA⟩ := hC
  subst hw
  refine va_zast (D := E.1) (cl := vwCl) hx hb hK hI.1 hI.2.1 hI.2.2 q0 1 he rfl hin hdg (fun H1 locs1 h1 h2 h3 => ?_)
  rw [x_nar2 hz] at h1 h2
  exact kk H1 locs1 ⟨h1, h2, h3⟩
/-! ends -/
def x_Ri (p : Program) (l : Launch) (e : Env) (R : Room) (s : State) (m : MethodId) (args : Array Value) (below : List Frame) (meth : Method) (c : Code) (cc : ByteArray) (E : x_E) (A : Nat → Prop) (Q : State → Prop) (w' : va_W) (r : Int32) : Prop := ∀ (H : Heap) (locs : List Loc) (pc : Nat) (ls : Array Slot), x_I E A s.heap w' H locs → decode cc pc = .ok (.ireturn, 1) → W p l e R s m args below meth c H locs 0 0 Q (F0 m pc ls [.int r])
def x_Rz (p : Program) (l : Launch) (e : Env) (R : Room) (s : State) (m : MethodId) (args : Array Value) (below : List Frame) (meth : Method) (c : Code) (cc : ByteArray) (E : x_E) (A : Nat → Prop) (Q : State → Prop) (w' : va_W) (r : Int32) : Prop := ∀ (H : Heap) (locs : List Loc) (pc : Nat) (ls : Array Slot), (r = 0 ∨ r = 1) → x_I E A s.heap w' H locs → decode cc pc = .ok (.ireturn, 1) → W p l e R s m args below meth c H locs 0 0 Q (F0 m pc ls [.int r])
def x_Rv (p : Program) (l : Launch) (e : Env) (R : Room) (s : State) (m : MethodId) (args : Array Value) (below : List Frame) (meth : Method) (c : Code) (cc : ByteArray) (E : x_E) (A : Nat → Prop) (Q : State → Prop) (w' : va_W) : Prop := ∀ (H : Heap) (locs : List Loc) (pc : Nat) (ls : Array Slot), x_I E A s.heap w' H locs → decode cc pc = .ok (.return_, 1) → W p l e R s m args below meth c H locs 0 0 Q (F0 m pc ls [])
def x_Ra (p : Program) (l : Launch) (e : Env) (R : Room) (s : State) (m : MethodId) (args : Array Value) (below : List Frame) (meth : Method) (c : Code) (cc : ByteArray) (E : x_E) (A : Nat → Prop) (Q : State → Prop) (w' : va_W) (o : Option Nat) : Prop := ∀ (H : Heap) (locs : List Loc) (pc : Nat) (ls : Array Slot), x_I E A s.heap w' H locs → decode cc pc = .ok (.areturn, 1) → W p l e R s m args below meth c H locs 0 0 Q (F0 m pc ls [va_rf o])
end XR
/-! a method out of its walk -/
section XM
variable {l : Launch} {y : MethodName} {cc : ByteArray} {nL fr lo : Nat} {E : x_E} {av : List Value} {w w' : va_W}
theorem x_entV (hy : plainName y.cls = true) (hlen : (lg_sl av).length ≤ nL) (body : ∀ (p : Program) (e : Env) (s : State) (m : MethodId) (args : Array Value) (below : List Frame) (meth : Method) (c : Code) (A : Nat → Prop) (Q : State → Prop) (ls : Array Slot), x_C p s m args meth c cc nL y.cls E A → x_I E A s.heap w s.heap [] → x_Rv p l e { frames := fr, cells := 0, slots := 0, locals := lo } s m args below meth c cc E A Q w' → lv_has ls nL (lv_args 0 av) → W p l e { frames := fr, cells := 0, slots := 0, locals := lo } s m args below meth c s.heap [] 0 0 Q (F0 m 0 ls [])) : x_M l y cc nL none fr lo E av w w' none := by
  intro sz
  refine Met.ofW (cc := cc) (maxL := nL) (ret := none) hy rfl ?_
  intro p e s m args below meth c s₁ B hml hv
  obtain ⟨rfl, hsz, hP, hK, hN, hD0⟩ := hv
  have hts := atoms_spec (ws := x_W y cc nL none) B.pre
  have hown := findClass_of_methodNamed B.named
  subst hsz
  have hl := lv_entry av (n := nL) hlen
  rw [lg_entry_eq]
  exact body p e s m _ below meth c (va_A w s.heap.size) _ _ ⟨B.exec, B.bytes, hml, hown, fun z h => hts z (List.mem_cons_of_mem _ h), hK, hN, fun q h => Or.inr h⟩ ⟨hP, hD0.self (sz := s.heap.size), va_S.rf⟩ (fun H locs pc ls hI hd => W.vret B.exec B.bytes B.returns (fun t ht hW => ⟨rfl, by rw [ht]; exact hI.1, hI.2.1, hI.2.2.F ht⟩) hI.2.2.2.2 hd B.notSynchronized) hl
theorem x_entI {r : Int32} (hy : plainName y.cls = true) (hlen : (lg_sl av).length ≤ nL) (body : ∀ (p : Program) (e : Env) (s : State) (m : MethodId) (args : Array Value) (below : List Frame) (meth : Method) (c : Code) (A : Nat → Prop) (Q : State → Prop) (ls : Array Slot), x_C p s m args meth c cc nL y.cls E A → x_I E A s.heap w s.heap [] → x_Ri p l e { frames := fr, cells := 0, slots := 0, locals := lo } s m args below meth c cc E A Q w' r → lv_has ls nL (lv_args 0 av) → W p l e { frames := fr, cells := 0, slots := 0, locals := lo } s m args below meth c s.heap [] 0 0 Q (F0 m 0 ls [])) : x_M l y cc nL (some .int) fr lo E av w w' (some (.int r)) := by
  intro sz
  refine Met.ofW (cc := cc) (maxL := nL) (ret := some .int) hy rfl ?_
  intro p e s m args below meth c s₁ B hml hv
  obtain ⟨rfl, hsz, hP, hK, hN, hD0⟩ := hv
  have hts := atoms_spec (ws := x_W y cc nL (some .int)) B.pre
  have hown := findClass_of_methodNamed B.named
  subst hsz
  have hl := lv_entry av (n := nL) hlen
  rw [lg_entry_eq]
  exact body p e s m _ below meth c (va_A w s.heap.size) _ _ ⟨B.exec, B.bytes, hml, hown, fun z h => hts z (List.mem_cons_of_mem _ h), hK, hN, fun q h => Or.inr h⟩ ⟨hP, hD0.self (sz := s.heap.size), va_S.rf⟩ (fun H locs pc ls hI hd => W.iret B.exec B.bytes B.returns (fun t ht hW => ⟨rfl, by rw [ht]; exact hI.1, hI.2.1, hI.2.2.F ht⟩) hI.2.2.2.2 hd B.notSynchronized) hl
theorem x_entZ {r : Int32} (hy : plainName y.cls = true) (hlen : (lg_sl av).length ≤ nL) (body : ∀ (p : Program) (e : Env) (s : State) (m : MethodId) (args : Array Value) (below : List Frame) (meth : Method) (c : Code) (A : Nat → Prop) (Q : State → Prop) (ls : Array Slot), x_C p s m args meth c cc nL y.cls E A → x_I E A s.heap w s.heap [] → x_Rz p l e { frames := fr, cells := 0, slots := 0, locals := lo } s m args below meth c cc E A Q w' r → lv_has ls nL (lv_args 0 av) → W p l e { frames := fr, cells := 0, slots := 0, locals := lo } s m args below meth c s.heap [] 0 0 Q (F0 m 0 ls [])) : x_M l y cc nL (some .boolean) fr lo E av w w' (some (.int r)) := by
  intro sz
  refine Met.ofW (cc := cc) (maxL := nL) (ret := some .boolean) hy rfl ?_
  intro p e s m args below meth c s₁ B hml hv
  obtain ⟨rfl, hsz, hP, hK, hN, hD0⟩ := hv
  have hts := atoms_spec (ws := x_W y cc nL (some .boolean)) B.pre
  have hown := findClass_of_methodNamed B.named
  subst hsz
  have hl := lv_entry av (n := nL) hlen
  rw [lg_entry_eq]
  exact body p e s m _ below meth c (va_A w s.heap.size) _ _ ⟨B.exec, B.bytes, hml, hown, fun z h => hts z (List.mem_cons_of_mem _ h), hK, hN, fun q h => Or.inr h⟩ ⟨hP, hD0.self (sz := s.heap.size), va_S.rf⟩ (fun H locs pc ls hz hI hd => W.zret B.exec B.bytes B.returns (x_nar1 hz) (fun t ht hW => ⟨rfl, by rw [ht]; exact hI.1, hI.2.1, hI.2.2.F ht⟩) hI.2.2.2.2 hd B.notSynchronized) hl
theorem x_entA {o : Option Nat} {nm : String} (hy : plainName y.cls = true) (hlen : (lg_sl av).length ≤ nL) (body : ∀ (p : Program) (e : Env) (s : State) (m : MethodId) (args : Array Value) (below : List Frame) (meth : Method) (c : Code) (A : Nat → Prop) (Q : State → Prop) (ls : Array Slot), x_C p s m args meth c cc nL y.cls E A → x_I E A s.heap w s.heap [] → x_Ra p l e { frames := fr, cells := 0, slots := 0, locals := lo } s m args below meth c cc E A Q w' o → lv_has ls nL (lv_args 0 av) → W p l e { frames := fr, cells := 0, slots := 0, locals := lo } s m args below meth c s.heap [] 0 0 Q (F0 m 0 ls [])) : x_M l y cc nL (some (.object nm)) fr lo E av w w' (some (va_rf o)) := by
  intro sz
  refine Met.ofW (cc := cc) (maxL := nL) (ret := some (.object nm)) hy rfl ?_
  intro p e s m args below meth c s₁ B hml hv
  obtain ⟨rfl, hsz, hP, hK, hN, hD0⟩ := hv
  have hts := atoms_spec (ws := x_W y cc nL (some (.object nm))) B.pre
  have hown := findClass_of_methodNamed B.named
  subst hsz
  have hl := lv_entry av (n := nL) hlen
  rw [lg_entry_eq]
  exact body p e s m _ below meth c (va_A w s.heap.size) _ _ ⟨B.exec, B.bytes, hml, hown, fun z h => hts z (List.mem_cons_of_mem _ h), hK, hN, fun q h => Or.inr h⟩ ⟨hP, hD0.self (sz := s.heap.size), va_S.rf⟩ (fun H locs pc ls hI hd => W.aret B.exec B.bytes B.returns (Or.inl ⟨_, rfl⟩) (va_rf_or o) (fun t ht hW => ⟨rfl, by rw [ht]; exact hI.1, hI.2.1, hI.2.2.F ht⟩) hI.2.2.2.2 hd B.notSynchronized) hl
end XM
/-! calls: the callee's world is the whole world -/
section XC
variable {p : Program} {l : Launch} {e : Env} {R : Room} {s : State} {m : MethodId} {args : Array Value} {below : List Frame} {meth : Method} {c : Code} {H : Heap} {locs : List Loc} {cells slots : Nat} {Q : State → Prop}
variable {cc : ByteArray} {nL pc : Nat} {own : String} {E : x_E} {A : Nat → Prop} {ls : Array Slot} {rest st0 : List Value} {w w' : va_W} {a : Array Value} {rv : Option Value}
theorem x_after (hr : va_Run p l e R s m args below meth c H locs cells slots 0 0 (F0 m pc ls st0) rest (x_Q E w w' rv H.size a) (va_A w H.size)) (hA : ∀ q, s.heap.size ≤ q → A q) (hI : x_I E A s.heap w H locs)
    (kk : ∀ (H1 : Heap) (locs1 : List Loc), x_I E A s.heap w' H1 locs1 → W p l e R s m args below meth c H1 locs1 cells slots Q (F0 m (pc + 3) ls (rv.toList ++ rest))) : W p l e R s m args below meth c H locs cells slots Q (F0 m pc ls st0) := by
  obtain ⟨hP, hD, hS⟩ := hI
  have hF : ∀ q, va_A w H.size q → A q := by
    intro q hq
    rcases hq with ⟨k, e9, hk⟩ | hq
    · exact hD.2 k _ hk
    · exact hA q (Nat.le_trans hS.1 hq)
  intro T hT X
  obtain ⟨v, st₀, t, T', L, h0, X', hL, e1, e2, ⟨hv, hP1, hD1, hz, hk⟩, st⟩ := hr T hT X
  have hv2 : v = rv := Outcome.returned.inj hv
  subst hv2
  rw [h0] at hz hk
  have hI1 : x_I E A s.heap w' T'.heap (locs ++ L) := by
    refine ⟨by rw [e1]; exact hP1, hD1.weaken (fun _ _ _ h => hF _ h), ?_⟩
    exact ⟨Nat.le_trans hS.1 (by rw [e1]; exact hz), fun q h1 h2 => by rw [e1, hk q (Nat.lt_of_lt_of_le h1 hS.1) (fun z => h2 (hF q z))]; exact hS.2.1 q h1 h2, fun q hq => by
      rcases List.mem_append.mp hq with h | h
      · exact hS.2.2 q h
      · exact hF _ (hL q h)⟩
  obtain ⟨t2, a1, b1⟩ := kk T'.heap (locs ++ L) hI1 T' rfl X'
  exact ⟨t2, st t2 a1, b1⟩
theorem x_pre {As : List Value} (hC : x_C p s m args meth c cc nL own E A) (hI : x_I E A s.heap w H locs) : ∀ U : State, U.heap = H → s.WarmedH U.vm → va_Pc As (x_B E w H.size) As.toArray U := fun U hU hW => ⟨rfl, by rw [hU], by rw [hU]; exact hI.1, va_K.moved hW.alike hC.2.2.2.2.2.1, hC.2.2.2.2.2.2.1.warm hW, hI.2.1.weaken (fun _ _ _ _ => trivial)⟩
/-- the words of a call of an instance's method -/
def x_V (own : String) (idx : Nat) (C : String) (y : MethodName) (bytes : ByteArray) (maxL : Nat) (ret : Option FieldType) (n : Nat) : Prop := Cond.code y bytes maxL ret ∈ x_TB ∧ Cond.methodLink own idx y ∈ x_TB ∧ Cond.instanceMethod y ∈ x_TB ∧ Cond.selects C y y ∈ x_TB ∧ Cond.initialized C ∈ x_TB ∧ (y.cls = C ∧ y.cls ≠ "java/lang/invoke/MethodHandle" ∧ y.cls ≠ "java/lang/invoke/VarHandle" ∧ (parseMethodDescriptor y.desc).map (fun d => d.parameters.length) = some n)
theorem x_callV (hC : x_C p s m args meth c cc nL own E A) (hI : x_I E A s.heap w H locs) {y : MethodName} {bytes : ByteArray} {maxL fr lo n idx N b : Nat} {ret : Option FieldType} {C : String} {T : u_T} {As fs : List Value} (hM : x_M l y bytes maxL ret fr lo E (.ref b :: As) w w' rv) (q0 ci : Nat) (he : w[q0]? = some (b, .inr (ci, fs))) (hc : vwCl[ci]? = some (C, T, N)) (hV : x_V own idx C y bytes maxL ret n) (hn : As.length = n) (hroom : fr + 1 ≤ R.frames ∧ 8 + (maxL + 11) + lo ≤ R.locals) (hcap : cells ≤ R.cells ∧ slots ≤ R.slots) (hls : ls.size = nL) (hst : st0 = As.reverse ++ .ref b :: rest) (hrest : (rest.map fun v => v.category).sum ≤ 8) (hdg : decode cc pc = .ok (.invokevirtual idx, 3))
    (kk : ∀ (H1 : Heap) (locs1 : List Loc), x_I E A s.heap w' H1 locs1 → W p l e R s m args below meth c H1 locs1 cells slots Q (F0 m (pc + 3) ls (rv.toList ++ rest))) : W p l e R s m args below meth c H locs cells slots Q (F0 m pc ls st0) := by
  obtain ⟨hx, hb, hml, hown, hts, hK, hN, hA⟩ := id hC
  obtain ⟨v1, v2, v3, v4, v5, v6⟩ := hV
  have cb : CallB R s args own idx y bytes maxL ret (x_W y bytes maxL ret) { frames := fr, cells := 0, slots := 0, locals := lo } 0 0 n := callB_of n hts (x_gd v1) rfl rfl rfl (by rw [v6.1]; exact hts _ v5) (hts _ v2) ⟨v6.2.1, v6.2.2.1, v6.2.2.2⟩ hroom
  refine x_after (va_runV (As := As) (rest := rest) ⟨hx, hb, hml, hown, hts⟩ (hM H.size) ⟨cb, hts _ v3, hts _ v4⟩ ⟨x_blind E w H.size _, va_recv hK hI.1 hc he, x_pre (As := .ref b :: As) hC hI⟩ rfl hn hls hst (lv_room hrest) hdg hcap) hA hI kk
/-- the words of a call of a static method of the own class -/
def x_Vs (own : String) (idx : Nat) (y : MethodName) (bytes : ByteArray) (maxL : Nat) (ret : Option FieldType) (n : Nat) : Prop := Cond.code y bytes maxL ret ∈ x_TB ∧ Cond.methodLink own idx y ∈ x_TB ∧ Cond.static y ∈ x_TB ∧ Cond.initialized y.cls ∈ x_TB ∧ (y.cls ≠ "java/lang/invoke/MethodHandle" ∧ y.cls ≠ "java/lang/invoke/VarHandle" ∧ (parseMethodDescriptor y.desc).map (fun d => d.parameters.length) = some n)
theorem x_callS (hC : x_C p s m args meth c cc nL own E A) (hI : x_I E A s.heap w H locs) {y : MethodName} {bytes : ByteArray} {maxL fr lo n idx : Nat} {ret : Option FieldType} {As : List Value} (hM : x_M l y bytes maxL ret fr lo E As w w' rv) (hV : x_Vs own idx y bytes maxL ret n) (hn : As.length = n) (hroom : fr + 1 ≤ R.frames ∧ 8 + (maxL + 11) + lo ≤ R.locals) (hcap : cells ≤ R.cells ∧ slots ≤ R.slots) (hls : ls.size = nL) (hst : st0 = As.reverse ++ rest) (hrest : (rest.map fun v => v.category).sum ≤ 8) (hdg : decode cc pc = .ok (.invokestatic idx, 3))
    (kk : ∀ (H1 : Heap) (locs1 : List Loc), x_I E A s.heap w' H1 locs1 → W p l e R s m args below meth c H1 locs1 cells slots Q (F0 m (pc + 3) ls (rv.toList ++ rest))) : W p l e R s m args below meth c H locs cells slots Q (F0 m pc ls st0) := by
  obtain ⟨hx, hb, hml, hown, hts, hK, hN, hA⟩ := id hC
  obtain ⟨v1, v2, v3, v4, v5⟩ := hV
  have cb : CallB R s args own idx y bytes maxL ret (x_W y bytes maxL ret) { frames := fr, cells := 0, slots := 0, locals := lo } 0 0 n := callB_of n hts (x_gd v1) rfl rfl rfl (hts _ v4) (hts _ v2) v5 hroom
  exact x_after (va_runS (As := As) (rest := rest) ⟨hx, hb, hml, hown, hts⟩ (hM H.size) ⟨cb, hts _ v3⟩ ⟨x_blind E w H.size _, x_pre (As := As) hC hI⟩ rfl hn hls hst (lv_room hrest) hdg hcap) hA hI kk
/-- of a static method that only nest mates may call -/
def x_Vn (own : String) (idx : Nat) (y : MethodName) (bytes : ByteArray) (maxL : Nat) (ret : Option FieldType) (n : Nat) : Prop := Cond.code y bytes maxL ret ∈ x_TB ∧ (own, idx, y) ∈ x_nl ∧ Cond.static y ∈ x_TB ∧ Cond.initialized y.cls ∈ x_TB ∧ (y.cls ≠ "java/lang/invoke/MethodHandle" ∧ y.cls ≠ "java/lang/invoke/VarHandle" ∧ (parseMethodDescriptor y.desc).map (fun d => d.parameters.length) = some n)
theorem x_callN (hC : x_C p s m args meth c cc nL own E A) (hI : x_I E A s.heap w H locs) {y : MethodName} {bytes : ByteArray} {maxL fr lo n idx : Nat} {ret : Option FieldType} {As : List Value} (hM : x_M l y bytes maxL ret fr lo E As w w' rv) (hV : x_Vn own idx y bytes maxL ret n) (hn : As.length = n) (hroom : fr + 1 ≤ R.frames ∧ 8 + (maxL + 11) + lo ≤ R.locals) (hcap : cells ≤ R.cells ∧ slots ≤ R.slots) (hls : ls.size = nL) (hst : st0 = As.reverse ++ rest) (hrest : (rest.map fun v => v.category).sum ≤ 8) (hdg : decode cc pc = .ok (.invokestatic idx, 3))
    (kk : ∀ (H1 : Heap) (locs1 : List Loc), x_I E A s.heap w' H1 locs1 → W p l e R s m args below meth c H1 locs1 cells slots Q (F0 m (pc + 3) ls (rv.toList ++ rest))) : W p l e R s m args below meth c H locs cells slots Q (F0 m pc ls st0) := by
  obtain ⟨hx, hb, hml, hown, hts, hK, hN, hA⟩ := id hC
  obtain ⟨v1, v2, v3, v4, v5⟩ := hV
  exact x_after (va_runSN (As := As) (rest := rest) (host := "StoryDecompile") ⟨hx, hb, hml, hown, hts⟩ (hM H.size) ⟨va_cnB n hts (x_gd v1) rfl rfl rfl (hN.1 _ v2) (hts _ v4) v5 hroom, hts _ v3, trivial⟩ ⟨x_blind E w H.size _, x_pre (As := As) hC hI⟩ rfl hn hls hst (lv_room hrest) hdg hcap) hA hI kk
end XC
