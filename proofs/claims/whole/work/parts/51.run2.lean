theorem x_gg {ρ : Type} {c : Prop} [Decidable c] (k : Option ρ) : x_g c (x_g c k) = x_g c k := by
  unfold x_g
  by_cases h : c
  · rw [if_pos h]
  · rw [if_neg h, if_neg h]
section
variable {n e q L p st lim : Nat} {S : x_S} {K A B C : Int32} {rec : x_S × Int32 × Int32 → Option (Int32 × x_S)}
def tp_m (e q L p st lim : Nat) (S : x_S) : Prop := e < 8 ∧ g_ar S 752 e = nI q ∧ g_ar S 753 e = nI p ∧ q < 12 ∧ g_ar S 701 q = nI L ∧ L ≤ 60 ∧ p ≤ L ∧ g_sc S 710 = nI st ∧ st ≤ lim ∧ lim ≤ 10000
theorem m_pop (h : tp_m e q L p st lim S) (hp : p = L) : f_X7_run_89 n rec S (nI lim) (nI (e + 1)) = rec (S, nI lim, nI e) := by
  obtain ⟨h1, h2, h3, h4, h5, h6, h7, h8, h9, h10⟩ := h
  subst hp
  have e2 : e < 2 ^ 31 := by omega
  have c3 := k_in2 h1 e2
  have c4 := nI_clamp e2
  have c5 : ¬ nI (e + 1) ≤ 0 := nI_nle (by omega) (by omega)
  have q2 : q < 2 ^ 31 := by omega
  have d3 := k_in2 h4 q2
  have d4 := nI_clamp q2
  simp only [f_X7_run_89, if_neg c5, nI_pred, c4, x_gt c3, x_l_e, h2, h3, d4, x_gt d3, h5, if_true, pk_m1]
theorem m_no (h : tp_m e q L p st lim S) (hp : p < L) (hs : st = lim) : f_X7_run_89 n rec S (nI lim) (nI (e + 1)) = some (1, S) := by
  obtain ⟨h1, h2, h3, h4, h5, h6, h7, h8, h9, h10⟩ := h
  subst hs
  have e2 : e < 2 ^ 31 := by omega
  have c3 := k_in2 h1 e2
  have c4 := nI_clamp e2
  have c5 : ¬ nI (e + 1) ≤ 0 := nI_nle (by omega) (by omega)
  have q2 : q < 2 ^ 31 := by omega
  have d3 := k_in2 h4 q2
  have d4 := nI_clamp q2
  have c6 : ¬ nI p = nI L := fun z => by have := (nI_eq (by omega) (by omega)).mp z; omega
  simp only [f_X7_run_89, if_neg c5, nI_pred, c4, x_gt c3, x_l_e, h2, h3, d4, x_gt d3, h5, if_neg c6, h8, if_true]
theorem m_gen (h : tp_m e q L p st lim S) (hp : p < L) (hs : st < lim) (a0 : g_ar S 702 (60 * q + p) = K) (a1 : g_ar S 703 (60 * q + p) = A) (a2 : g_ar S 704 (60 * q + p) = B) (a3 : g_ar S 705 (60 * q + p) = C) : f_X7_run_89 n rec S (nI lim) (nI (e + 1)) = x_let (s_ar (s_sc S 710 (nI (st + 1))) 753 e (nI (p + 1))) (fun S =>
    if K = 0 then x_let (g_sc S 712) (fun v => if v = (200 : Int32) then some ((4 : Int32), S) else x_g (¬ (v < 0 ∨ 200 ≤ (v).toNatClampNeg)) (rec (s_sc (s_ar S 713 (v).toNatClampNeg A) 712 (v + 1), nI lim, nI (e + 1))))
    else if K = (1 : Int32) then x_g (¬ (A < 0 ∨ 4 ≤ (A).toNatClampNeg)) (rec (s_ar S 714 (A).toNatClampNeg (g_ar S 714 (A).toNatClampNeg + B), nI lim, nI (e + 1)))
    else if K = (2 : Int32) then rec (s_ar S 753 e C, nI lim, nI (e + 1))
    else if K = (3 : Int32) then x_g (¬ (A < 0 ∨ 4 ≤ (A).toNatClampNeg)) (x_b (f_X7_isSo n (g_ar S 714 (A).toNatClampNeg) B) (fun v => if v = 0 then rec (S, nI lim, nI (e + 1)) else rec (s_ar S 753 e C, nI lim, nI (e + 1))))
    else if K = (4 : Int32) then rec (S, nI lim, nI e)
    else if K = (5 : Int32) then x_b2 (f_X7_isRoutine n S A) (fun v21 S => if v21 = 0 then some ((2 : Int32), S) else x_b2 (f_X7_isWhole n S (g_ar S 703 (60 * q + p))) (fun v24 S => if v24 = 0 then some ((2 : Int32), S) else if nI (e + 1) = (8 : Int32) then some ((3 : Int32), S) else x_g (¬ (nI (e + 1) < 0 ∨ 8 ≤ e + 1)) (rec (s_sc (s_ar (s_ar S 752 (e + 1) (g_ar S 703 (60 * q + p))) 753 (e + 1) 0) 711 (g_sc S 711 + 1), nI lim, nI (e + 2)))))
    else rec (S, nI lim, nI (e + 1))) := by
  obtain ⟨h1, h2, h3, h4, h5, h6, h7, h8, h9, h10⟩ := h
  have e2 : e < 2 ^ 31 := by omega
  have c3 := k_in2 h1 e2
  have c4 := nI_clamp e2
  have c5 : ¬ nI (e + 1) ≤ 0 := nI_nle (by omega) (by omega)
  have q2 : q < 2 ^ 31 := by omega
  have d3 := k_in2 h4 q2
  have d4 := nI_clamp q2
  have c6 : ¬ nI p = nI L := fun z => by have := (nI_eq (by omega) (by omega)).mp z; omega
  have c7 : ¬ nI st = nI lim := fun z => by have := (nI_eq (by omega) (by omega)).mp z; omega
  have t2 : 60 * q + p < 2 ^ 31 := by omega
  have t3 := k_in2 (show 60 * q + p < 720 by omega) t2
  have t4 := nI_clamp t2
  have u4 := nI_clamp (show e + 1 < 2 ^ 31 by omega)
  simp only [f_X7_run_89, f_X7_run_424, f_X7_run_307, f_X7_run_325, if_neg c5, nI_pred, c4, x_gt c3, x_l_e, h2, h3, d4, x_gt d3, h5, if_neg c6, h8, if_neg c7, nI_1, k_at h4 (show p < 60 by omega), t4, x_gt t3, q_ar_ar, q_ar_sc, Nat.reduceEqDiff, false_and, if_false, a0, a1, a2, a3, pk_m1, u4]
  by_cases k3 : K = 3
  · subst k3
    simp only [if_neg (show ¬ (3 : Int32) = 0 by decide), if_neg (show ¬ (3 : Int32) = 1 by decide), if_neg (show ¬ (3 : Int32) = 2 by decide), if_neg (show ¬ (3 : Int32) = 4 by decide), if_neg (show ¬ (3 : Int32) = 5 by decide), if_true]
  · simp only [if_neg k3, x_gg, q_sc_ar]
end
