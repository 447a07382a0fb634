/-! rows that no program wrote: references, branches of a switch, Math, copies -/
def x_o {ρ : Type} (o : Option Nat) (a : Option ρ) (b : Nat → Option ρ) : Option ρ := match o with
  | none => a
  | some i => b i
def x_b {α ρ : Type} (o : Option α) (k : α → Option ρ) : Option ρ := match o with
  | none => none
  | some i => k i
def x_b2 {α β ρ : Type} (o : Option (α × β)) (k : α → β → Option ρ) : Option ρ := match o with
  | none => none
  | some i => k i.1 i.2
theorem x_b_eq {α ρ : Type} {o : Option α} {k : α → Option ρ} {r : ρ} (h : x_b o k = some r) : ∃ v, o = some v ∧ k v = some r := by
  cases o with
  | none => cases h
  | some v => exact ⟨v, rfl, h⟩
theorem x_b2_eq {α β ρ : Type} {o : Option (α × β)} {k : α → β → Option ρ} {r : ρ} (h : x_b2 o k = some r) : ∃ v S, o = some (v, S) ∧ k v S = some r := by
  cases o with
  | none => cases h
  | some v => exact ⟨v.1, v.2, rfl, h⟩
theorem x_case {ρ : Type} {F G : Option ρ} {r : ρ} {x K : Int32} {Z : Prop} (hf : (if x = K then F else G) = some r) (kt : x = K → F = some r → Z) (kf : ¬ x = K → G = some r → Z) : Z := by
  by_cases h : x = K
  · exact kt h (by rw [if_pos h] at hf; exact hf)
  · exact kf h (by rw [if_neg h] at hf; exact hf)
section
variable {p : Program} {l : Launch} {e : Env} {R : Room} {s : State} {m : MethodId} {args : Array Value} {below : List Frame} {meth : Method} {c : Code} {H : Heap} {locs : List Loc} {cells slots : Nat} {Q : State → Prop}
variable {cc : ByteArray} {nL pc : Nat} {own : String} {E : x_E} {A : Nat → Prop} {ls : Array Slot} {rest : List Value} {ad : Nat → Nat} {ap : Nat → Nat → Nat} {S : x_S} {ρ : Type} {r : ρ} {idx : Nat} {w : va_W}
theorem x_casesR {o : Option Nat} {a : Option ρ} {b : Nat → Option ρ} (hf : x_o o a b = some r) (kn : a = some r → W p l e R s m args below meth c H locs cells slots Q (F0 m pc ls (.null :: rest))) (ks : ∀ i, b i = some r → W p l e R s m args below meth c H locs cells slots Q (F0 m pc ls (.ref (ap i 0) :: rest))) : W p l e R s m args below meth c H locs cells slots Q (F0 m pc ls (x_rr ap o :: rest)) := by
  cases o with
  | none => exact kn hf
  | some i => exact ks i hf
theorem x_casesN {o : Option Nat} {a : Option ρ} {b : Nat → Option ρ} (hf : x_o o a b = some r) (kn : a = some r → W p l e R s m args below meth c H locs cells slots Q (F0 m pc ls (.null :: rest))) (ks : ∀ i, b i = some r → W p l e R s m args below meth c H locs cells slots Q (F0 m pc ls (.ref (ad 605) :: rest))) : W p l e R s m args below meth c H locs cells slots Q (F0 m pc ls (x_nr ad o :: rest)) := by
  cases o with
  | none => exact kn hf
  | some i => exact ks i hf
theorem x_max (hC : x_C p s m args meth c cc nL own E A) (hls : ls.size = nL) {x y : Int32} {k : Int32 → Option ρ} (hf : x_let (if x < y then y else x) k = some r) (hlink : Cond.methodLink own idx Lib.Math.max.name ∈ x_TB) (hstat : Cond.static Lib.Math.max.name ∈ x_TB) (hini : Cond.initialized "java/lang/Math" ∈ x_TB) (hcode : Cond.code Lib.Math.max.name Lib.Math.max.code 2 (some .int) ∈ x_TB) (hroom : 1 ≤ R.frames ∧ (rest.map fun v => v.category).sum + 13 ≤ R.locals) (hcap : cells ≤ R.cells ∧ slots ≤ R.slots) (hdg : decode cc pc = .ok (.invokestatic idx, 3))
    (kk : ∀ v : Int32, k v = some r → W p l e R s m args below meth c H locs cells slots Q (F0 m (pc + 3) ls (.int v :: rest))) : W p l e R s m args below meth c H locs cells slots Q (F0 m pc ls (.int y :: .int x :: rest)) := by
  obtain ⟨hx, hb, hml, hown, hts, hK, hN, hA⟩ := hC
  exact va_mmax hx hb (hml.trans hls.symm) hown (hts _ hlink) (hts _ hstat) (hts _ hini) (hts _ hcode) hroom.1 hroom.2 hcap.1 hcap.2 hdg (kk _ hf)
theorem x_min (hC : x_C p s m args meth c cc nL own E A) (hls : ls.size = nL) {x y : Int32} {k : Int32 → Option ρ} (hf : x_let (if y < x then y else x) k = some r) (hlink : Cond.methodLink own idx Lib.Math.min.name ∈ x_TB) (hstat : Cond.static Lib.Math.min.name ∈ x_TB) (hini : Cond.initialized "java/lang/Math" ∈ x_TB) (hcode : Cond.code Lib.Math.min.name Lib.Math.min.code 2 (some .int) ∈ x_TB) (hroom : 1 ≤ R.frames ∧ (rest.map fun v => v.category).sum + 13 ≤ R.locals) (hcap : cells ≤ R.cells ∧ slots ≤ R.slots) (hdg : decode cc pc = .ok (.invokestatic idx, 3))
    (kk : ∀ v : Int32, k v = some r → W p l e R s m args below meth c H locs cells slots Q (F0 m (pc + 3) ls (.int v :: rest))) : W p l e R s m args below meth c H locs cells slots Q (F0 m pc ls (.int y :: .int x :: rest)) := by
  obtain ⟨hx, hb, hml, hown, hts, hK, hN, hA⟩ := hC
  exact va_mmin hx hb (hml.trans hls.symm) hown (hts _ hlink) (hts _ hstat) (hts _ hini) (hts _ hcode) hroom.1 hroom.2 hcap.1 hcap.2 hdg (kk _ hf)
/-- Reader.source, Writer.numbers -/
theorem pX1_1 (hC : x_C p s m args meth c cc nL own E A) (hI : x_I E A s.heap (cw E ad ap S) H locs) {i : Nat} {k : x_S → Option ρ} (hf : x_let (s_rf S 101 (some i)) k = some r) (hlink : Cond.fieldLink own idx RX1 (TX1 1).2.1 (TX1 1).2.2.1 ∈ x_TB) (hdg : decode cc pc = .ok (.putfield idx, 3)) (kk : ∀ (S1 : x_S) (H1 : Heap) (locs1 : List Loc), x_I E A s.heap (cw E ad ap S1) H1 locs1 → k S1 = some r → W p l e R s m args below meth c H1 locs1 cells slots Q (F0 m (pc + 3) ls rest)) : W p l e R s m args below meth c H locs cells slots Q (F0 m pc ls (.ref (ap i 0) :: .ref (ad 199) :: rest)) :=
  x_put hC hI 2 1 1 tyX1 tyX1_ok nmX1 rfl rfl inX1 (by decide) rfl rfl rfl rfl (Nat.le_of_ble_eq_true rfl) (x_cw_fx E ad ap S (s_rf S 101 (some i)) 2 _ (by decide) rfl rfl rfl) hlink hdg (fun H1 locs1 h => kk (s_rf S 101 (some i)) H1 locs1 h hf)
theorem pX5_2 (hC : x_C p s m args meth c cc nL own E A) (hI : x_I E A s.heap (cw E ad ap S) H locs) {k : x_S → Option ρ} (hf : x_let (s_rf S 502 (some 0)) k = some r) (hlink : Cond.fieldLink own idx RX5 (TX5 2).2.1 (TX5 2).2.2.1 ∈ x_TB) (hdg : decode cc pc = .ok (.putfield idx, 3)) (kk : ∀ (S1 : x_S) (H1 : Heap) (locs1 : List Loc), x_I E A s.heap (cw E ad ap S1) H1 locs1 → k S1 = some r → W p l e R s m args below meth c H1 locs1 cells slots Q (F0 m (pc + 3) ls rest)) : W p l e R s m args below meth c H locs cells slots Q (F0 m pc ls (.ref (ad 605) :: .ref (ad 599) :: rest)) :=
  x_put hC hI 5 5 2 tyX5 tyX5_ok nmX5 rfl rfl inX5 (by decide) rfl rfl rfl rfl (Nat.le_of_ble_eq_true rfl) (x_cw_fx E ad ap S (s_rf S 502 (some 0)) 5 _ (by decide) rfl rfl rfl) hlink hdg (fun H1 locs1 h => kk (s_rf S 502 (some 0)) H1 locs1 h hf)
theorem x_aast (hC : x_C p s m args meth c cc nL own E A) {w' : va_W} (hI : x_I E A s.heap w H locs) (q0 qk : Nat) {a n v : Nat} {vs : List Value} {f : Nat → Option Nat} (he : w[q0]? = some (a, .inl (E.2.2.2, n, .inr (.inr (.inr (.inr f)))))) (hv : w[qk]? = some (v, .inr (2, vs))) {i : Int32} (hw : w.set q0 (a, .inl (E.2.2.2, n, .inr (.inr (.inr (.inr (va_up f i.toNatClampNeg (some v))))))) = w') (hin : ¬ (i < 0 ∨ n ≤ i.toNatClampNeg)) (hdg : decode cc pc = .ok (.aastore, 1))
    (kk : ∀ (H1 : Heap) (locs1 : List Loc), x_I E A s.heap w' H1 locs1 → W p l e R s m args below meth c H1 locs1 cells slots Q (F0 m (pc + 1) ls rest)) : W p l e R s m args below meth c H locs cells slots Q (F0 m pc ls (.ref v :: .int i :: .ref a :: rest)) := by
  obtain ⟨hx, hb, hml, hown, hts, hK, hN, hA⟩ := hC
  subst hw
  exact va_astq (D := E.1) (cl := vwCl) (r := (RX2, TX2, 6)) hx hb hK hI.1 hI.2.1 hI.2.2 q0 2 qk 2 he rfl hv rfl hin hdg (fun H1 locs1 h1 h2 h3 => kk H1 locs1 ⟨h1, h2, h3⟩)
theorem x_upm (ap : Nat → Nat → Nat) (f : Nat → Option Nat) (k i : Nat) : va_up (fun j => (f j).map (fun i => ap i 0)) k (some (ap i 0)) = fun j => (va_up f k (some i) j).map (fun i => ap i 0) := by
  funext j
  unfold va_up
  by_cases h : j = k
  · rw [if_pos h, if_pos h]; rfl
  · rw [if_neg h, if_neg h]
theorem tX3_6 (hC : x_C p s m args meth c cc nL own E A) (hI : x_I E A s.heap (cw E ad ap S) H locs) {j : Nat} {i : Int32} {k : x_S → Option ρ} (hf : x_g (j < g_np S) (x_g (¬ (i < 0 ∨ 8 ≤ i.toNatClampNeg)) (x_let (s_ra S 306 i.toNatClampNeg (some j)) k)) = some r) (hdg : decode cc pc = .ok (.aastore, 1)) (kk : ∀ (S1 : x_S) (H1 : Heap) (locs1 : List Loc), x_I E A s.heap (cw E ad ap S1) H1 locs1 → k S1 = some r → W p l e R s m args below meth c H1 locs1 cells slots Q (F0 m (pc + 1) ls rest)) : W p l e R s m args below meth c H locs cells slots Q (F0 m pc ls (.ref (ap j 0) :: .int i :: .ref (ad 306) :: rest)) := by
  refine x_aast hC hI 19 (36 + (5 * j + 0)) rfl (x_cw_get E ad ap S j 0 (by decide) (x_g_eq hf).1) ?_ (x_g_eq (x_g_eq hf).2).1 hdg (fun H1 locs1 h => kk (s_ra S 306 i.toNatClampNeg (some j)) H1 locs1 h (x_g_eq (x_g_eq hf).2).2)
  refine x_cw_fx E ad ap S (s_ra S 306 i.toNatClampNeg (some j)) 19 _ (by decide) rfl ?_ rfl
  rw [x_upm ap (g_ra S 306)]
  rfl
theorem tX6_0 (hC : x_C p s m args meth c cc nL own E A) (hI : x_I E A s.heap (cw E ad ap S) H locs) {j : Nat} {i : Int32} {k : x_S → Option ρ} (hf : x_g (j < g_np S) (x_g (¬ (i < 0 ∨ 12 ≤ i.toNatClampNeg)) (x_let (s_ra S 600 i.toNatClampNeg (some j)) k)) = some r) (hdg : decode cc pc = .ok (.aastore, 1)) (kk : ∀ (S1 : x_S) (H1 : Heap) (locs1 : List Loc), x_I E A s.heap (cw E ad ap S1) H1 locs1 → k S1 = some r → W p l e R s m args below meth c H1 locs1 cells slots Q (F0 m (pc + 1) ls rest)) : W p l e R s m args below meth c H locs cells slots Q (F0 m pc ls (.ref (ap j 0) :: .int i :: .ref (ad 600) :: rest)) := by
  refine x_aast hC hI 6 (36 + (5 * j + 0)) rfl (x_cw_get E ad ap S j 0 (by decide) (x_g_eq hf).1) ?_ (x_g_eq (x_g_eq hf).2).1 hdg (fun H1 locs1 h => kk (s_ra S 600 i.toNatClampNeg (some j)) H1 locs1 h (x_g_eq (x_g_eq hf).2).2)
  refine x_cw_fx E ad ap S (s_ra S 600 i.toNatClampNeg (some j)) 6 _ (by decide) rfl ?_ rfl
  rw [x_upm ap (g_ra S 600)]
  rfl
/-- System.arraycopy between two rows of ints of the class -/
theorem x_copy (hC : x_C p s m args meth c cc nL own E A) (hls : ls.size = nL) {w' : va_W} (hI : x_I E A s.heap w H locs) (q0 q1 : Nat) {a0 a n0 n1 : Nat} {f g : Nat → Int32} (ha0 : w[q0]? = some (a0, .inl (E.2.1, n0, .inl f))) (ha1 : w[q1]? = some (a, .inl (E.2.1, n1, .inl g))) {sp dp n : Int32} (hg : ¬ sp < 0 ∧ ¬ dp < 0 ∧ ¬ n < 0 ∧ sp.toNatClampNeg + n.toNatClampNeg ≤ n0 ∧ dp.toNatClampNeg + n.toNatClampNeg ≤ n1) (hw : w.set q1 (a, .inl (E.2.1, n1, .inl (va_cpy f g sp.toNatClampNeg dp.toNatClampNeg n.toNatClampNeg))) = w') (hlink : Cond.methodLink own idx arraycopyName ∈ x_TB) (hnat : Cond.native arraycopyName ∈ x_TB) (hstat : Cond.static arraycopyName ∈ x_TB) (hini : Cond.initialized "java/lang/System" ∈ x_TB) (hroom : 1 ≤ R.frames ∧ (rest.map fun v => v.category).sum + (nativeFrameWords "java/lang/System" "arraycopy" 5 + 11) ≤ R.locals) (hdg : decode cc pc = .ok (.invokestatic idx, 3))
    (kk : ∀ (H1 : Heap) (locs1 : List Loc), x_I E A s.heap w' H1 locs1 → W p l e R s m args below meth c H1 locs1 cells slots Q (F0 m (pc + 3) ls rest)) : W p l e R s m args below meth c H locs cells slots Q (F0 m pc ls (.int n :: .int dp :: .ref a :: .int sp :: .ref a0 :: rest)) := by
  obtain ⟨hx, hb, hml, hown, hts, hK, hN, hA⟩ := hC
  subst hw
  exact va_copyi (D := E.1) (cl := vwCl) hx hb (hml.trans hls.symm) hown (hts _ hlink) (hts _ hnat) (hts _ hstat) (hts _ hini) hK hI.1 hI.2.1 hI.2.2 q0 q1 0 0 ha0 ha1 rfl rfl rfl hg.1 hg.2.1 hg.2.2.1 hg.2.2.2.1 hg.2.2.2.2 (fun _ _ => rfl) hroom.1 hroom.2 hdg (fun H1 locs1 h1 h2 h3 => kk H1 locs1 ⟨h1, h2, h3⟩)
/-- the pure word of a copy -/
def s_cp (S : x_S) (k0 k1 : Nat) (sp dp n : Int32) : x_S := s_aw S k1 (va_cpy (S.2.1 k0) (S.2.1 k1) sp.toNatClampNeg dp.toNatClampNeg n.toNatClampNeg)
theorem x_cp_407_605 (hC : x_C p s m args meth c cc nL own E A) (hls : ls.size = nL) (hI : x_I E A s.heap (cw E ad ap S) H locs) {sp dp n : Int32} {k : x_S → Option ρ} (hf : x_g (¬ sp < 0 ∧ ¬ dp < 0 ∧ ¬ n < 0 ∧ sp.toNatClampNeg + n.toNatClampNeg ≤ 241 ∧ dp.toNatClampNeg + n.toNatClampNeg ≤ 300) (x_let (s_cp S 407 605 sp dp n) k) = some r) (hlink : Cond.methodLink own idx arraycopyName ∈ x_TB) (hnat : Cond.native arraycopyName ∈ x_TB) (hstat : Cond.static arraycopyName ∈ x_TB) (hini : Cond.initialized "java/lang/System" ∈ x_TB) (hroom : 1 ≤ R.frames ∧ (rest.map fun v => v.category).sum + (nativeFrameWords "java/lang/System" "arraycopy" 5 + 11) ≤ R.locals) (hdg : decode cc pc = .ok (.invokestatic idx, 3)) (kk : ∀ (S1 : x_S) (H1 : Heap) (locs1 : List Loc), x_I E A s.heap (cw E ad ap S1) H1 locs1 → k S1 = some r → W p l e R s m args below meth c H1 locs1 cells slots Q (F0 m (pc + 3) ls rest)) : W p l e R s m args below meth c H locs cells slots Q (F0 m pc ls (.int n :: .int dp :: .ref (ad 605) :: .int sp :: .ref (ad 407) :: rest)) :=
  x_copy hC hls hI 28 7 rfl rfl (x_g_eq hf).1 (x_cw_fx E ad ap S (s_cp S 407 605 sp dp n) 7 _ (by decide) rfl rfl rfl) hlink hnat hstat hini hroom hdg (fun H1 locs1 h => kk (s_cp S 407 605 sp dp n) H1 locs1 h (x_g_eq hf).2)
theorem x_cp_609_304 (hC : x_C p s m args meth c cc nL own E A) (hls : ls.size = nL) (hI : x_I E A s.heap (cw E ad ap S) H locs) {sp dp n : Int32} {k : x_S → Option ρ} (hf : x_g (¬ sp < 0 ∧ ¬ dp < 0 ∧ ¬ n < 0 ∧ sp.toNatClampNeg + n.toNatClampNeg ≤ 4 ∧ dp.toNatClampNeg + n.toNatClampNeg ≤ 4) (x_let (s_cp S 609 304 sp dp n) k) = some r) (hlink : Cond.methodLink own idx arraycopyName ∈ x_TB) (hnat : Cond.native arraycopyName ∈ x_TB) (hstat : Cond.static arraycopyName ∈ x_TB) (hini : Cond.initialized "java/lang/System" ∈ x_TB) (hroom : 1 ≤ R.frames ∧ (rest.map fun v => v.category).sum + (nativeFrameWords "java/lang/System" "arraycopy" 5 + 11) ≤ R.locals) (hdg : decode cc pc = .ok (.invokestatic idx, 3)) (kk : ∀ (S1 : x_S) (H1 : Heap) (locs1 : List Loc), x_I E A s.heap (cw E ad ap S1) H1 locs1 → k S1 = some r → W p l e R s m args below meth c H1 locs1 cells slots Q (F0 m (pc + 3) ls rest)) : W p l e R s m args below meth c H locs cells slots Q (F0 m pc ls (.int n :: .int dp :: .ref (ad 304) :: .int sp :: .ref (ad 609) :: rest)) :=
  x_copy hC hls hI 8 18 rfl rfl (x_g_eq hf).1 (x_cw_fx E ad ap S (s_cp S 609 304 sp dp n) 18 _ (by decide) rfl rfl rfl) hlink hnat hstat hini hroom hdg (fun H1 locs1 h => kk (s_cp S 609 304 sp dp n) H1 locs1 h (x_g_eq hf).2)
end
