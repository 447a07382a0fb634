/-! come of the reference -/
def cm_v (S : x_S) : Prop := ∀ x, x < 61 → g_ar S 733 x = 0 ∨ g_ar S 733 x = 1
def cm_on (K : Int32) : Prop := ¬ K = 2 ∧ ¬ K = 4
def cm_ld (K : Int32) : Prop := K = 2 ∨ K = 3
theorem z_gv {ρ : Type} {v : Int32} (h : v = 0 ∨ v = 1) (k : Option ρ) : x_g (v = 0 ∨ v = 1) k = k := x_gt h k
section
variable {n r L i c : Nat} {S : x_S} {m : Int32} {rec38 : x_S × Int32 × Int32 × Int32 → Option (x_S)} {rec47 : x_S × Int32 × Int32 × Int32 × Int32 → Option (x_S)}
theorem cm_put (S : x_S) (a1 a2 a3 a4 t0 : Int32) (c : Nat) (hc : c < 61) (ht : t0 = 0 ∨ t0 = 1) : f_X7_come_223 n rec38 rec47 S a1 a2 a3 a4 t0 (nI c) = rec47 (s_ar S 733 c t0, a1, a2, a3, a4 + 1) := by
  have c2 : c < 2 ^ 31 := by omega
  have d3 := k_in2 hc c2
  have d4 := nI_clamp c2
  simp only [f_X7_come_223, f_X7_come_224, d4, x_gt d3, z_gv ht, x_l_e]
theorem cm_182 (S : x_S) (a1 a2 a3 a4 t0 : Int32) (at_ j : Nat) (hat : at_ < 720) (hj : j < 61) (ht : t0 = 0 ∨ t0 = 1) (hc : c < 61) (hC : g_ar S 705 at_ = nI c) : ∃ t1 : Int32, (t1 = 0 ∨ t1 = 1) ∧ (t1 = 1 ↔ (¬ g_ar (s_ar S 733 j t0) 733 c = 0 ∨ cm_ld (g_ar S 702 at_))) ∧ f_X7_come_182 n rec38 rec47 S a1 a2 a3 a4 (nI at_) t0 (nI j) = rec47 (s_ar (s_ar S 733 j t0) 733 c t1, a1, a2, a3, a4 + 1) := by
  have j2 : j < 2 ^ 31 := by omega
  have j3 := k_in2 hj j2
  have j4 := nI_clamp j2
  have t2 : at_ < 2 ^ 31 := by omega
  have t3 := k_in2 hat t2
  have t4 := nI_clamp t2
  have c2 : c < 2 ^ 31 := by omega
  have d3 := k_in2 hc c2
  have d4 := nI_clamp c2
  have hC2 : g_ar (s_ar S 733 j t0) 705 at_ = nI c := hC
  have hld := e_leads n (s_ar S 733 j t0) at_ hat
  have hk : g_ar (s_ar S 733 j t0) 702 at_ = g_ar S 702 at_ := rfl
  rw [hk] at hld
  simp only [f_X7_come_182, f_X7_come_218, j4, x_gt j3, z_gv ht, x_l_e, t4, x_gt t3, hC2, d4, x_gt d3, hld, x_b2_s]
  by_cases e1 : g_ar (s_ar S 733 j t0) 733 c = 0
  · rw [if_pos e1]
    by_cases e2 : g_ar S 702 at_ = 2 ∨ g_ar S 702 at_ = 3
    · rw [if_pos e2, if_neg i_10, cm_put _ _ _ _ _ _ c hc (Or.inr rfl)]
      exact ⟨1, Or.inr rfl, ⟨fun _ => Or.inr e2, fun _ => rfl⟩, rfl⟩
    · rw [if_neg e2, if_pos rfl, cm_put _ _ _ _ _ _ c hc (Or.inl rfl)]
      exact ⟨0, Or.inl rfl, ⟨fun q => absurd q (by decide), fun q => by rcases q with q | q; exact absurd e1 q; exact absurd q e2⟩, rfl⟩
  · rw [if_neg e1, cm_put _ _ _ _ _ _ c hc (Or.inr rfl)]
    exact ⟨1, Or.inr rfl, ⟨fun _ => Or.inl e1, fun _ => rfl⟩, rfl⟩
theorem cm_151 (S : x_S) (a1 a2 a6 t0 : Int32) (at_ : Nat) (hat : at_ < 720) (hi : i < 60) (hv : cm_v S) (hc : c < 61) (hC : g_ar S 705 at_ = nI c) : ∃ S2, fr_m S S2 ∧ cm_v S2 ∧ (∀ x, x < 61 → (g_ar S2 733 x = 1 ↔ g_ar S 733 x = 1 ∨ (¬ a6 = 0 ∧ x = i + 1) ∨ (cm_ld (g_ar S 702 at_) ∧ x = c))) ∧ f_X7_come_151 n rec38 rec47 S a1 a2 (nI i) (nI at_) a6 t0 = rec47 (S2, a1, a2, t0, nI (i + 1)) := by
  have i2 : i + 1 < 2 ^ 31 := by omega
  have d3 := k_in2 (show i + 1 < 61 by omega) i2
  have d4 := nI_clamp i2
  have fin : ∀ t1 : Int32, (t1 = 0 ∨ t1 = 1) → (t1 = 1 ↔ (g_ar S 733 (i + 1) = 1 ∨ ¬ a6 = 0)) → ∃ S2, fr_m S S2 ∧ cm_v S2 ∧ (∀ x, x < 61 → (g_ar S2 733 x = 1 ↔ g_ar S 733 x = 1 ∨ (¬ a6 = 0 ∧ x = i + 1) ∨ (cm_ld (g_ar S 702 at_) ∧ x = c))) ∧ f_X7_come_182 n rec38 rec47 S a1 a2 t0 (nI i) (nI at_) t1 (nI (i + 1)) = rec47 (S2, a1, a2, t0, nI (i + 1)) := by
    intro t1 ht1 ht2
    obtain ⟨t, u1, u2, u3⟩ := cm_182 (n := n) (rec38 := rec38) (rec47 := rec47) S a1 a2 t0 (nI i) t1 at_ (i + 1) hat (by omega) ht1 hc hC
    refine ⟨_, (fr_m_ar S 733 (i + 1) t1 (by decide)).tr (fr_m_ar _ 733 c t (by decide)), fun x hx => ?_, fun x hx => ?_, by rw [u3, nI_1]⟩
    · simp only [q_ar_ar, true_and]
      by_cases e1 : x = c
      · rw [if_pos e1]; exact u1
      · rw [if_neg e1]
        by_cases e2 : x = i + 1
        · rw [if_pos e2]; exact ht1
        · rw [if_neg e2]; exact hv x hx
    · simp only [q_ar_ar, true_and] at u2 ⊢
      by_cases e1 : x = c
      · subst e1
        rw [if_pos rfl, u2]
        by_cases e2 : x = i + 1
        · rw [if_pos e2]
          constructor
          · rintro (q | q)
            · have : t1 = 1 := ht1.resolve_left q
              rcases ht2.mp this with z | z
              · exact Or.inl (by rw [e2]; exact z)
              · exact Or.inr (Or.inl ⟨z, e2⟩)
            · exact Or.inr (Or.inr ⟨q, rfl⟩)
          · rintro (q | ⟨q, _⟩ | ⟨q, _⟩)
            · left
              rw [ht2.mpr (Or.inl (by rw [← e2]; exact q))]
              decide
            · left
              rw [ht2.mpr (Or.inr q)]
              decide
            · exact Or.inr q
        · rw [if_neg e2]
          constructor
          · rintro (q | q)
            · exact Or.inl ((hv x hx).resolve_left q)
            · exact Or.inr (Or.inr ⟨q, rfl⟩)
          · rintro (q | ⟨_, q⟩ | ⟨q, _⟩)
            · left; rw [q]; decide
            · exact absurd q e2
            · exact Or.inr q
      · rw [if_neg e1]
        by_cases e2 : x = i + 1
        · rw [if_pos e2, ht2]
          constructor
          · rintro (q | q)
            · exact Or.inl (by rw [e2]; exact q)
            · exact Or.inr (Or.inl ⟨q, e2⟩)
          · rintro (q | ⟨q, _⟩ | ⟨_, q⟩)
            · exact Or.inl (by rw [← e2]; exact q)
            · exact Or.inr q
            · exact absurd q e1
        · rw [if_neg e2]
          constructor
          · exact Or.inl
          · rintro (q | ⟨_, q⟩ | ⟨_, q⟩)
            · exact q
            · exact absurd q e2
            · exact absurd q e1
  simp only [f_X7_come_151, f_X7_come_177, nI_1, d4, x_gt d3, x_l_e]
  by_cases e1 : g_ar S 733 (i + 1) = 0
  · rw [if_pos e1]
    by_cases e2 : a6 = 0
    · rw [if_pos e2]
      exact fin 0 (Or.inl rfl) ⟨fun q => absurd q (by decide), fun q => by rcases q with q | q; exact absurd (e1.symm.trans q) (by decide); exact absurd e2 q⟩
    · rw [if_neg e2]
      exact fin 1 (Or.inr rfl) ⟨fun _ => Or.inr e2, fun _ => rfl⟩
  · rw [if_neg e1]
    exact fin 1 (Or.inr rfl) ⟨fun _ => Or.inl ((hv (i + 1) (by omega)).resolve_left e1), fun _ => rfl⟩
theorem cm_99 (S : x_S) (a1 a2 a6 : Int32) (at_ : Nat) (hat : at_ < 720) (hi : i < 60) (hv : cm_v S) (hc : c < 61) (hC : g_ar S 705 at_ = nI c) (hm : m = 0 ∨ m = 1) : ∃ S2 m2, fr_m S S2 ∧ cm_v S2 ∧ (m2 = 0 ∨ m2 = 1) ∧ (m2 = 1 ↔ m = 1 ∨ (¬ a6 = 0 ∧ g_ar S 733 (i + 1) = 0) ∨ (cm_ld (g_ar S 702 at_) ∧ g_ar S 733 c = 0)) ∧ (∀ x, x < 61 → (g_ar S2 733 x = 1 ↔ g_ar S 733 x = 1 ∨ (¬ a6 = 0 ∧ x = i + 1) ∨ (cm_ld (g_ar S 702 at_) ∧ x = c))) ∧ f_X7_come_99 n rec38 rec47 S a1 a2 m (nI i) (nI at_) a6 = rec47 (S2, a1, a2, m2, nI (i + 1)) := by
  have i2 : i + 1 < 2 ^ 31 := by omega
  have d3 := k_in2 (show i + 1 < 61 by omega) i2
  have d4 := nI_clamp i2
  have t2 : at_ < 2 ^ 31 := by omega
  have t3 := k_in2 hat t2
  have t4 := nI_clamp t2
  have c2 : c < 2 ^ 31 := by omega
  have b3 := k_in2 hc c2
  have b4 := nI_clamp c2
  obtain ⟨Sa, a1', a2', a3', a4'⟩ := cm_151 (n := n) (rec38 := rec38) (rec47 := rec47) S a1 a2 a6 1 at_ hat hi hv hc hC
  obtain ⟨Sb, b1', b2', b3', b4'⟩ := cm_151 (n := n) (rec38 := rec38) (rec47 := rec47) S a1 a2 a6 0 at_ hat hi hv hc hC
  have hld := e_leads n S at_ hat
  simp only [f_X7_come_99, f_X7_come_122, f_X7_come_146, f_X7_come_150, hld, x_b2_s, t4, x_gt t3, x_l_e, hC, b4, x_gt b3, nI_1, d4, x_gt d3, a4', b4']
  rcases hm with rfl | rfl
  · rw [if_pos rfl]
    by_cases e6 : a6 = 0
    · rw [if_pos e6]
      by_cases e2 : g_ar S 702 at_ = 2 ∨ g_ar S 702 at_ = 3
      · rw [if_pos e2, if_neg i_10]
        by_cases e3 : g_ar S 733 c = 0
        · rw [if_pos e3]
          exact ⟨Sa, 1, a1', a2', Or.inr rfl, ⟨fun _ => Or.inr (Or.inr ⟨e2, e3⟩), fun _ => rfl⟩, a3', rfl⟩
        · rw [if_neg e3]
          exact ⟨Sb, 0, b1', b2', Or.inl rfl, ⟨fun q => absurd q (by decide), fun q => by rcases q with q | q | q; exact absurd q (by decide); exact absurd e6 q.1; exact absurd q.2 e3⟩, b3', rfl⟩
      · rw [if_neg e2, if_pos rfl]
        exact ⟨Sb, 0, b1', b2', Or.inl rfl, ⟨fun q => absurd q (by decide), fun q => by rcases q with q | q | q; exact absurd q (by decide); exact absurd e6 q.1; exact absurd q.1 e2⟩, b3', rfl⟩
    · rw [if_neg e6]
      by_cases e5 : g_ar S 733 (i + 1) = 0
      · rw [if_pos e5]
        exact ⟨Sa, 1, a1', a2', Or.inr rfl, ⟨fun _ => Or.inr (Or.inl ⟨e6, e5⟩), fun _ => rfl⟩, a3', rfl⟩
      · rw [if_neg e5]
        by_cases e2 : g_ar S 702 at_ = 2 ∨ g_ar S 702 at_ = 3
        · rw [if_pos e2, if_neg i_10]
          by_cases e3 : g_ar S 733 c = 0
          · rw [if_pos e3]
            exact ⟨Sa, 1, a1', a2', Or.inr rfl, ⟨fun _ => Or.inr (Or.inr ⟨e2, e3⟩), fun _ => rfl⟩, a3', rfl⟩
          · rw [if_neg e3]
            exact ⟨Sb, 0, b1', b2', Or.inl rfl, ⟨fun q => absurd q (by decide), fun q => by rcases q with q | q | q; exact absurd q (by decide); exact absurd q.2 e5; exact absurd q.2 e3⟩, b3', rfl⟩
        · rw [if_neg e2, if_pos rfl]
          exact ⟨Sb, 0, b1', b2', Or.inl rfl, ⟨fun q => absurd q (by decide), fun q => by rcases q with q | q | q; exact absurd q (by decide); exact absurd q.2 e5; exact absurd q.1 e2⟩, b3', rfl⟩
  · rw [if_neg i_10]
    exact ⟨Sa, 1, a1', a2', Or.inr rfl, ⟨fun _ => Or.inl rfl, fun _ => rfl⟩, a3', rfl⟩
end
