/-! run: one turn of the class, one of the reference -/
theorem x_b2_id {α β : Type} (o : Option (α × β)) : x_b2 o (fun v S => some (v, S)) = o := by cases o <;> rfl
theorem e_so (n : Nat) (a b : Int32) : f_X3_holds n a b = f_X7_isSo n a b := rfl
theorem e_so2 (n : Nat) (a b : Int32) : ∃ v, f_X7_isSo n a b = some v ∧ (v = 0 ∨ v = 1) := by
  unfold f_X7_isSo
  rw [z_g0, z_g1]
  by_cases h0 : b = 0
  · rw [if_pos h0]; by_cases h : a = 0
    · exact ⟨1, if_pos h, Or.inr rfl⟩
    · exact ⟨0, if_neg h, Or.inl rfl⟩
  · rw [if_neg h0]; by_cases h1 : b = 1
    · rw [if_pos h1]; by_cases h : a = 0
      · exact ⟨0, if_pos h, Or.inl rfl⟩
      · exact ⟨1, if_neg h, Or.inr rfl⟩
    · rw [if_neg h1]; by_cases h2 : b = 2
      · rw [if_pos h2]; by_cases h : 0 ≤ a
        · exact ⟨0, if_pos h, Or.inl rfl⟩
        · exact ⟨1, if_neg h, Or.inr rfl⟩
      · rw [if_neg h2]; by_cases h3 : b = 3
        · rw [if_pos h3]; by_cases h : a < 0
          · exact ⟨0, if_pos h, Or.inl rfl⟩
          · exact ⟨1, if_neg h, Or.inr rfl⟩
        · rw [if_neg h3]; by_cases h4 : b = 4
          · rw [if_pos h4]; by_cases h : a ≤ 0
            · exact ⟨0, if_pos h, Or.inl rfl⟩
            · exact ⟨1, if_neg h, Or.inr rfl⟩
          · rw [if_neg h4]; by_cases h : 0 < a
            · exact ⟨0, if_pos h, Or.inl rfl⟩
            · exact ⟨1, if_neg h, Or.inr rfl⟩
section
variable {n e q L p st lim : Nat} {S : x_S} {K A B C : Int32}
theorem t_over (h : g_sc S 305 = nI 0) : f_X3_turn n S (nI lim) = some (0, S) := by
  unfold f_X3_turn
  rw [x_l_e, h]
  rfl
/-- what the top of the class's open CALLS is -/
def tp_c (e q L p st lim : Nat) (S : x_S) : Prop := e < 8 ∧ g_sc S 305 = nI (e + 1) ∧ g_ra S 306 e = some (q + 1) ∧ g_ar S 307 e = nI p ∧ q + 1 < g_np S ∧ g_ps S 4 (q + 1) = nI L ∧ L ≤ 60 ∧ p ≤ L ∧ g_sc S 300 = nI st ∧ st ≤ lim ∧ lim ≤ 10000
theorem t_pop (h : tp_c e q L p st lim S) (hp : p = L) : f_X3_turn n S (nI lim) = some (-1, s_sc S 305 (nI e)) := by
  obtain ⟨h1, h2, h3, h4, h5, h6, h7, h8, h9, h10, h11⟩ := h
  subst hp
  have e2 : e < 2 ^ 31 := by omega
  have c3 := k_in2 h1 e2
  have c4 := nI_clamp e2
  have c5 : ¬ nI (e + 1) = 0 := nI_ne0 (by omega) (by omega)
  have c6 : ¬ nI p < nI p := nI_nlt (Nat.le_refl _) (by omega)
  simp only [f_X3_turn, x_l_e, h2, if_neg c5, nI_pred, c4, x_gt c3, h3, x_o_s, h4, x_gt h5, h6, if_neg c6]
theorem t_no (h : tp_c e q L p st lim S) (hp : p < L) (hs : st = lim) : f_X3_turn n S (nI lim) = some (1, S) := by
  obtain ⟨h1, h2, h3, h4, h5, h6, h7, h8, h9, h10, h11⟩ := h
  subst hs
  have e2 : e < 2 ^ 31 := by omega
  have c3 := k_in2 h1 e2
  have c4 := nI_clamp e2
  have c5 : ¬ nI (e + 1) = 0 := nI_ne0 (by omega) (by omega)
  have c6 : nI p < nI L := nI_lt hp (by omega)
  have c7 : ¬ nI st < nI st := nI_nlt (Nat.le_refl _) (by omega)
  simp only [f_X3_turn, x_l_e, h2, if_neg c5, nI_pred, c4, x_gt c3, h3, x_o_s, h4, x_gt h5, h6, if_pos c6, h9, if_neg c7]
theorem t_step (h : tp_c e q L p st lim S) (hp : p < L) (hs : st < lim) : f_X3_turn n S (nI lim) = f_X3_perform n (s_sc S 300 (nI (st + 1))) (q + 1) (nI p) := by
  obtain ⟨h1, h2, h3, h4, h5, h6, h7, h8, h9, h10, h11⟩ := h
  have e2 : e < 2 ^ 31 := by omega
  have c3 := k_in2 h1 e2
  have c4 := nI_clamp e2
  have c5 : ¬ nI (e + 1) = 0 := nI_ne0 (by omega) (by omega)
  have c6 : nI p < nI L := nI_lt hp (by omega)
  have c7 : nI st < nI lim := nI_lt hs (by omega)
  simp only [f_X3_turn, x_l_e, h2, if_neg c5, nI_pred, c4, x_gt c3, h3, x_o_s, h4, x_gt h5, h6, if_pos c6, h9, if_pos c7, nI_1, x_b2_id]
/-- perform: the ACT at hand -/
def pf_c (e q L p : Nat) (S : x_S) (K A B C : Int32) : Prop := e < 8 ∧ g_sc S 305 = nI (e + 1) ∧ q + 1 < g_np S ∧ g_ps S 4 (q + 1) = nI L ∧ L ≤ 60 ∧ p < L ∧ g_pa S 0 (q + 1) p = K ∧ g_pa S 1 (q + 1) p = A ∧ g_pa S 2 (q + 1) p = B ∧ g_pa S 3 (q + 1) p = C
theorem p_gen (h : pf_c e q L p S K A B C) : f_X3_perform n S (q + 1) (nI p) = x_let (s_ar S 307 e (nI (p + 1))) (fun S =>
    if K = (0 : Int32) then f_X3_say n S A
    else if K = (1 : Int32) then x_g (¬ (A < 0 ∨ 4 ≤ (A).toNatClampNeg)) (x_let (g_ar S 304 (A).toNatClampNeg) (fun v7 => some ((-1 : Int32), s_ar S 304 (A).toNatClampNeg (v7 + B))))
    else if K = (2 : Int32) then some ((-1 : Int32), s_ar S 307 e C)
    else if K = (3 : Int32) then x_g (¬ (A < 0 ∨ 4 ≤ (A).toNatClampNeg)) (x_let (g_ar S 304 (A).toNatClampNeg) (fun v10 => x_b (f_X7_isSo n v10 B) (fun v12 => if v12 = 0 then some ((-1 : Int32), S) else some ((-1 : Int32), s_ar S 307 e C))))
    else if K = (4 : Int32) then some ((-1 : Int32), s_ar S 307 e (nI L))
    else x_g (¬ (A < 0 ∨ 12 ≤ (A).toNatClampNeg)) (x_let (g_ra S 600 (A).toNatClampNeg) (fun o17 => x_o o17 (some ((2 : Int32), S)) (fun i18 => f_X3_callOf n S i18)))) := by
  obtain ⟨h1, h2, h3, h4, h5, h6, h7, h8, h9, h10⟩ := h
  have e2 : e < 2 ^ 31 := by omega
  have c3 := k_in2 h1 e2
  have c4 := nI_clamp e2
  have p2 : p < 2 ^ 31 := by omega
  have d3 := k_in2 (show p < 60 by omega) p2
  have d4 := nI_clamp p2
  have q1 : ∀ v, q + 1 < g_np (s_ar S 307 e v) := fun v => h3
  simp only [f_X3_perform, f_X3_callOfN, x_gt h3, d4, x_gt d3, x_l_e, h8, h9, h2, nI_pred, c4, x_gt c3, nI_1, x_gt (q1 _), q_pa_ar, h7, q_sc_ar, h10, x_b2_id, q_ps_ar, h4, e_so]
  by_cases k1 : K = 1
  · subst k1
    simp only [if_neg (show ¬ (1 : Int32) = 0 by decide), if_true]
    by_cases hg : ¬ (A < 0 ∨ 4 ≤ A.toNatClampNeg)
    · simp only [x_gt hg]
    · simp only [x_g, if_neg hg]
  · simp only [if_neg k1]
end
