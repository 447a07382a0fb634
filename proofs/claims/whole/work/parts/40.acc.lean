/-! reading a state behind a change -/
theorem q_sc_sc (S : x_S) (k : Nat) (v : Int32) (j : Nat) : g_sc (s_sc S k v) j = if j = k then v else g_sc S j := by
  unfold g_sc s_sc
  simp only [s_aw, va_up, upd, g_np, g_ar, g_ps, g_pa]
  repeat' split
  all_goals first | rfl | (simp_all [va_up, upd]; done) | (simp only [va_up, upd]; repeat' split) 
  all_goals first | rfl | simp_all [va_up, upd]
theorem q_sc_aw (S : x_S) (k : Nat) (f : Nat → Int32) (j : Nat) : g_sc (s_aw S k f) j = g_sc S j := rfl
theorem q_sc_ar (S : x_S) (k i : Nat) (v : Int32) (j : Nat) : g_sc (s_ar S k i v) j = g_sc S j := rfl
theorem q_sc_ps (S : x_S) (k i : Nat) (v : Int32) (j : Nat) : g_sc (s_ps S k i v) j = g_sc S j := rfl
theorem q_sc_pa (S : x_S) (k i l : Nat) (v : Int32) (j : Nat) : g_sc (s_pa S k i l v) j = g_sc S j := rfl
theorem q_sc_rf (S : x_S) (k : Nat) (r : Option Nat) (j : Nat) : g_sc (s_rf S k r) j = g_sc S j := rfl
theorem q_sc_ra (S : x_S) (k i : Nat) (r : Option Nat) (j : Nat) : g_sc (s_ra S k i r) j = g_sc S j := rfl
theorem q_sc_cp (S : x_S) (k0 k1 : Nat) (sp dp n : Int32) (j : Nat) : g_sc (s_cp S k0 k1 sp dp n) j = g_sc S j := rfl
theorem q_sc_new (S : x_S)  (j : Nat) : g_sc (s_new S) j = g_sc S j := rfl
theorem q_ar_sc (S : x_S) (k : Nat) (v : Int32) (j x : Nat) : g_ar (s_sc S k v) j x = g_ar S j x := rfl
theorem q_ar_aw (S : x_S) (k : Nat) (f : Nat → Int32) (j x : Nat) : g_ar (s_aw S k f) j x = if j = k then f x else g_ar S j x := by
  unfold g_ar s_aw
  simp only [s_aw, va_up, upd, g_np, g_ar, g_ps, g_pa]
  repeat' split
  all_goals first | rfl | (simp_all [va_up, upd]; done) | (simp only [va_up, upd]; repeat' split) 
  all_goals first | rfl | simp_all [va_up, upd]
theorem q_ar_ar (S : x_S) (k i : Nat) (v : Int32) (j x : Nat) : g_ar (s_ar S k i v) j x = if j = k ∧ x = i then v else g_ar S j x := by
  unfold g_ar s_ar
  simp only [s_aw, va_up, upd, g_np, g_ar, g_ps, g_pa]
  repeat' split
  all_goals first | rfl | (simp_all [va_up, upd]; done) | (simp only [va_up, upd]; repeat' split) 
  all_goals first | rfl | simp_all [va_up, upd]
theorem q_ar_ps (S : x_S) (k i : Nat) (v : Int32) (j x : Nat) : g_ar (s_ps S k i v) j x = g_ar S j x := rfl
theorem q_ar_pa (S : x_S) (k i l : Nat) (v : Int32) (j x : Nat) : g_ar (s_pa S k i l v) j x = g_ar S j x := rfl
theorem q_ar_rf (S : x_S) (k : Nat) (r : Option Nat) (j x : Nat) : g_ar (s_rf S k r) j x = g_ar S j x := rfl
theorem q_ar_ra (S : x_S) (k i : Nat) (r : Option Nat) (j x : Nat) : g_ar (s_ra S k i r) j x = g_ar S j x := rfl
theorem q_ar_cp (S : x_S) (k0 k1 : Nat) (sp dp n : Int32) (j x : Nat) : g_ar (s_cp S k0 k1 sp dp n) j x = if j = k1 then va_cpy (fun z => g_ar S k0 z) (fun z => g_ar S k1 z) sp.toNatClampNeg dp.toNatClampNeg n.toNatClampNeg x else g_ar S j x := by
  unfold g_ar s_cp
  simp only [s_aw, va_up, upd, g_np, g_ar, g_ps, g_pa]
  repeat' split
  all_goals first | rfl | (simp_all [va_up, upd]; done) | (simp only [va_up, upd]; repeat' split) 
  all_goals first | rfl | simp_all [va_up, upd]
theorem q_ar_new (S : x_S)  (j x : Nat) : g_ar (s_new S) j x = g_ar S j x := rfl
theorem q_np_sc (S : x_S) (k : Nat) (v : Int32)  : g_np (s_sc S k v) = g_np S := rfl
theorem q_np_aw (S : x_S) (k : Nat) (f : Nat → Int32)  : g_np (s_aw S k f) = g_np S := rfl
theorem q_np_ar (S : x_S) (k i : Nat) (v : Int32)  : g_np (s_ar S k i v) = g_np S := rfl
theorem q_np_ps (S : x_S) (k i : Nat) (v : Int32)  : g_np (s_ps S k i v) = g_np S := rfl
theorem q_np_pa (S : x_S) (k i l : Nat) (v : Int32)  : g_np (s_pa S k i l v) = g_np S := rfl
theorem q_np_rf (S : x_S) (k : Nat) (r : Option Nat)  : g_np (s_rf S k r) = g_np S := rfl
theorem q_np_ra (S : x_S) (k i : Nat) (r : Option Nat)  : g_np (s_ra S k i r) = g_np S := rfl
theorem q_np_cp (S : x_S) (k0 k1 : Nat) (sp dp n : Int32)  : g_np (s_cp S k0 k1 sp dp n) = g_np S := rfl
theorem q_np_new (S : x_S)   : g_np (s_new S) = g_np S + 1 := by
  unfold g_np s_new
  simp only [s_aw, va_up, upd, g_np, g_ar, g_ps, g_pa]
  repeat' split
  all_goals first | rfl | (simp_all [va_up, upd]; done) | (simp only [va_up, upd]; repeat' split) 
  all_goals first | rfl | simp_all [va_up, upd]
theorem q_ps_sc (S : x_S) (k : Nat) (v : Int32) (j x : Nat) : g_ps (s_sc S k v) j x = g_ps S j x := rfl
theorem q_ps_aw (S : x_S) (k : Nat) (f : Nat → Int32) (j x : Nat) : g_ps (s_aw S k f) j x = g_ps S j x := rfl
theorem q_ps_ar (S : x_S) (k i : Nat) (v : Int32) (j x : Nat) : g_ps (s_ar S k i v) j x = g_ps S j x := rfl
theorem q_ps_ps (S : x_S) (k i : Nat) (v : Int32) (j x : Nat) : g_ps (s_ps S k i v) j x = if j = k ∧ x = i then v else g_ps S j x := by
  unfold g_ps s_ps
  simp only [s_aw, va_up, upd, g_np, g_ar, g_ps, g_pa]
  repeat' split
  all_goals first | rfl | (simp_all [va_up, upd]; done) | (simp only [va_up, upd]; repeat' split) 
  all_goals first | rfl | simp_all [va_up, upd]
theorem q_ps_pa (S : x_S) (k i l : Nat) (v : Int32) (j x : Nat) : g_ps (s_pa S k i l v) j x = g_ps S j x := rfl
theorem q_ps_rf (S : x_S) (k : Nat) (r : Option Nat) (j x : Nat) : g_ps (s_rf S k r) j x = g_ps S j x := rfl
theorem q_ps_ra (S : x_S) (k i : Nat) (r : Option Nat) (j x : Nat) : g_ps (s_ra S k i r) j x = g_ps S j x := rfl
theorem q_ps_cp (S : x_S) (k0 k1 : Nat) (sp dp n : Int32) (j x : Nat) : g_ps (s_cp S k0 k1 sp dp n) j x = g_ps S j x := rfl
theorem q_ps_new (S : x_S)  (j x : Nat) : g_ps (s_new S) j x = if x = g_np S then (if j = 5 then 1 else 0) else g_ps S j x := by
  unfold g_ps s_new
  simp only [s_aw, va_up, upd, g_np, g_ar, g_ps, g_pa]
  repeat' split
  all_goals first | rfl | (simp_all [va_up, upd]; done) | (simp only [va_up, upd]; repeat' split) 
  all_goals first | rfl | simp_all [va_up, upd]
theorem q_pa_sc (S : x_S) (k : Nat) (v : Int32) (j x y : Nat) : g_pa (s_sc S k v) j x y = g_pa S j x y := rfl
theorem q_pa_aw (S : x_S) (k : Nat) (f : Nat → Int32) (j x y : Nat) : g_pa (s_aw S k f) j x y = g_pa S j x y := rfl
theorem q_pa_ar (S : x_S) (k i : Nat) (v : Int32) (j x y : Nat) : g_pa (s_ar S k i v) j x y = g_pa S j x y := rfl
theorem q_pa_ps (S : x_S) (k i : Nat) (v : Int32) (j x y : Nat) : g_pa (s_ps S k i v) j x y = g_pa S j x y := rfl
theorem q_pa_pa (S : x_S) (k i l : Nat) (v : Int32) (j x y : Nat) : g_pa (s_pa S k i l v) j x y = if j = k ∧ x = i ∧ y = l then v else g_pa S j x y := by
  unfold g_pa s_pa
  simp only [s_aw, va_up, upd, g_np, g_ar, g_ps, g_pa]
  repeat' split
  all_goals first | rfl | (simp_all [va_up, upd]; done) | (simp only [va_up, upd]; repeat' split) 
  all_goals first | rfl | simp_all [va_up, upd]
theorem q_pa_rf (S : x_S) (k : Nat) (r : Option Nat) (j x y : Nat) : g_pa (s_rf S k r) j x y = g_pa S j x y := rfl
theorem q_pa_ra (S : x_S) (k i : Nat) (r : Option Nat) (j x y : Nat) : g_pa (s_ra S k i r) j x y = g_pa S j x y := rfl
theorem q_pa_cp (S : x_S) (k0 k1 : Nat) (sp dp n : Int32) (j x y : Nat) : g_pa (s_cp S k0 k1 sp dp n) j x y = g_pa S j x y := rfl
theorem q_pa_new (S : x_S)  (j x y : Nat) : g_pa (s_new S) j x y = if x = g_np S then 0 else g_pa S j x y := by
  unfold g_pa s_new
  simp only [s_aw, va_up, upd, g_np, g_ar, g_ps, g_pa]
  repeat' split
  all_goals first | rfl | (simp_all [va_up, upd]; done) | (simp only [va_up, upd]; repeat' split) 
  all_goals first | rfl | simp_all [va_up, upd]
theorem q_rf_sc (S : x_S) (k : Nat) (v : Int32) (j : Nat) : g_rf (s_sc S k v) j = g_rf S j := rfl
theorem q_rf_aw (S : x_S) (k : Nat) (f : Nat → Int32) (j : Nat) : g_rf (s_aw S k f) j = g_rf S j := rfl
theorem q_rf_ar (S : x_S) (k i : Nat) (v : Int32) (j : Nat) : g_rf (s_ar S k i v) j = g_rf S j := rfl
theorem q_rf_ps (S : x_S) (k i : Nat) (v : Int32) (j : Nat) : g_rf (s_ps S k i v) j = g_rf S j := rfl
theorem q_rf_pa (S : x_S) (k i l : Nat) (v : Int32) (j : Nat) : g_rf (s_pa S k i l v) j = g_rf S j := rfl
theorem q_rf_rf (S : x_S) (k : Nat) (r : Option Nat) (j : Nat) : g_rf (s_rf S k r) j = if j = k then r else g_rf S j := by
  unfold g_rf s_rf
  simp only [s_aw, va_up, upd, g_np, g_ar, g_ps, g_pa]
  repeat' split
  all_goals first | rfl | (simp_all [va_up, upd]; done) | (simp only [va_up, upd]; repeat' split) 
  all_goals first | rfl | simp_all [va_up, upd]
theorem q_rf_ra (S : x_S) (k i : Nat) (r : Option Nat) (j : Nat) : g_rf (s_ra S k i r) j = g_rf S j := rfl
theorem q_rf_cp (S : x_S) (k0 k1 : Nat) (sp dp n : Int32) (j : Nat) : g_rf (s_cp S k0 k1 sp dp n) j = g_rf S j := rfl
theorem q_rf_new (S : x_S)  (j : Nat) : g_rf (s_new S) j = g_rf S j := rfl
theorem q_ra_sc (S : x_S) (k : Nat) (v : Int32) (j x : Nat) : g_ra (s_sc S k v) j x = g_ra S j x := rfl
theorem q_ra_aw (S : x_S) (k : Nat) (f : Nat → Int32) (j x : Nat) : g_ra (s_aw S k f) j x = g_ra S j x := rfl
theorem q_ra_ar (S : x_S) (k i : Nat) (v : Int32) (j x : Nat) : g_ra (s_ar S k i v) j x = g_ra S j x := rfl
theorem q_ra_ps (S : x_S) (k i : Nat) (v : Int32) (j x : Nat) : g_ra (s_ps S k i v) j x = g_ra S j x := rfl
theorem q_ra_pa (S : x_S) (k i l : Nat) (v : Int32) (j x : Nat) : g_ra (s_pa S k i l v) j x = g_ra S j x := rfl
theorem q_ra_rf (S : x_S) (k : Nat) (r : Option Nat) (j x : Nat) : g_ra (s_rf S k r) j x = g_ra S j x := rfl
theorem q_ra_ra (S : x_S) (k i : Nat) (r : Option Nat) (j x : Nat) : g_ra (s_ra S k i r) j x = if j = k ∧ x = i then r else g_ra S j x := by
  unfold g_ra s_ra
  simp only [s_aw, va_up, upd, g_np, g_ar, g_ps, g_pa]
  repeat' split
  all_goals first | rfl | (simp_all [va_up, upd]; done) | (simp only [va_up, upd]; repeat' split) 
  all_goals first | rfl | simp_all [va_up, upd]
theorem q_ra_cp (S : x_S) (k0 k1 : Nat) (sp dp n : Int32) (j x : Nat) : g_ra (s_cp S k0 k1 sp dp n) j x = g_ra S j x := rfl
theorem q_ra_new (S : x_S)  (j x : Nat) : g_ra (s_new S) j x = g_ra S j x := rfl
