/-! write: the reference behind a FAULT, on; innermost() -/
def w_inm (f : Nat → Int32) : Nat → Int32
  | 0 => -1
  | b + 1 => if 3 ≤ f b ∧ f b ≤ 5 then nI b else w_inm f b
theorem e_inm4 {n : Nat} {S : x_S} {d : Nat} (hd : d ≤ 61) (h : g_sc S 745 = nI d) {i : Nat} (hi : i < d) (R : x_S × Int32 × Int32 → Option (Int32 × x_S)) (x : Int32) : f_X7_innermost_4 n R S x (nI i) = R (S, (if 3 ≤ g_ar S 747 i ∧ g_ar S 747 i ≤ 5 then nI i else x), nI (i + 1)) := by
  unfold f_X7_innermost_4
  have hi2 : i < 2 ^ 31 := by omega
  have c3 := k_in2 (show i < 64 by omega) hi2
  have c4 := nI_clamp hi2
  rw [x_l_e, h, if_neg (nI_ge (show i < d by omega) (by omega))]
  simp only [c4, x_gt c3, x_l_e, e_in, x_b_s]
  unfold f_X7_innermost_31
  rw [nI_1]
  by_cases q : 3 ≤ g_ar S 747 i ∧ g_ar S 747 i ≤ 5
  · rw [if_pos q, if_pos q, if_neg i_10]
  · rw [if_neg q, if_neg q, if_pos rfl]
theorem e_inm {n : Nat} {S : x_S} {d : Nat} (hd : d ≤ 61) (h : g_sc S 745 = nI d) (hn : 1000 ≤ n) : f_X7_innermost n S = some (w_inm (fun b => g_ar S 747 b) d, S) := by
  have key : ∀ k i : Nat, i + k = d → ∀ m : Nat, k < m → x_loop (fun rec z => f_X7_innermost_4 n rec z.1 z.2.1 z.2.2) m (S, w_inm (fun b => g_ar S 747 b) i, nI i) = some (w_inm (fun b => g_ar S 747 b) d, S) := by
    intro k
    induction k with
    | zero =>
      intro i hi m hm
      obtain ⟨m, rfl⟩ : ∃ q, m = q + 1 := ⟨m - 1, by omega⟩
      rw [x_loop_s]
      have e : i = d := by omega
      subst e
      unfold f_X7_innermost_4
      rw [x_l_e, h, if_pos (nI_le (Nat.le_refl _) (by omega))]
    | succ k ih =>
      intro i hi m hm
      obtain ⟨m, rfl⟩ : ∃ q, m = q + 1 := ⟨m - 1, by omega⟩
      rw [x_loop_s, e_inm4 hd h (by omega)]
      exact ih (i + 1) (by omega) m (by omega)
  exact key d 0 (by omega) n (by omega)
section
variable {n M : Nat} {S0 S : x_S} {v p : Int32}
theorem xf_m_ar (h : xf_m S0 v p S) (k i : Nat) (w : Int32) (hk : 714 < k) : xf_m S0 v p (s_ar S k i w) := ⟨h.1.tr (fr_m_ar _ k i w hk), h.2⟩
theorem m_leave10 (h : xf_m S0 v p S) (hn : 1000 ≤ n) (a1 a3 a4 t : Int32) : ∃ S1, f_X7_leave_10 n S a1 a3 a4 t = some S1 ∧ xf_m S0 v p S1 := by
  obtain ⟨S1, z1, z2, a, a1', a2', a3'⟩ := m_make (n := n) h t a3 a4 0
  obtain ⟨a, rfl⟩ : ∃ q, a = q + 1 := ⟨a - 1, by omega⟩
  obtain ⟨b, b1, b2⟩ := z2.2.2.2.2.2
  have a22 : a < 2 ^ 31 := by omega
  have c3 := k_in (i := a) (L := 400) (by omega) (by omega)
  have c4 := nI_clamp a22
  have b2' : ∀ w : Int32, g_sc (s_ar S1 743 a w) 745 = nI b := fun w => b2
  unfold f_X7_leave_10
  rw [z1, x_b_s, x_l_e, a3', nI_pred, x_gt c3, c4, x_l_e, x_l_e, q_sc_ar, a3', nI_pred, e_inm b1 (b2' _) hn, x_b2_s, x_gt c3, c4, x_l_e]
  exact ⟨_, rfl, xf_m_ar (xf_m_ar z2 743 a _ (by decide)) 744 a _ (by decide)⟩
theorem m_leave (h : xf_m S0 v p S) (hn : 1000 ≤ n) (a1 a2 a3 a4 : Int32) : ∃ S1, f_X7_leave n S a1 a2 a3 a4 = some S1 ∧ xf_m S0 v p S1 := by
  unfold f_X7_leave
  split
  · exact m_leave10 h hn _ _ _ _
  · exact m_leave10 h hn _ _ _ _
theorem m_ws172 (h : xf_m S0 v p S) (hn : 1000 ≤ n) (a1 a2 a3 a4 : Int32) : ∃ S1, f_X7_writeStatement_172 n S a1 a2 a3 a4 = some S1 ∧ xf_m S0 v p S1 := by
  obtain ⟨S1, z1, z2⟩ := m_leave h hn a4 a1 a2 a3
  unfold f_X7_writeStatement_172
  rw [z1, x_b_s]
  exact ⟨S1, rfl, z2⟩
theorem m_ws222 (h : xf_m S0 v p S) (a1 a2 a3 a4 : Int32) : ∃ S1, f_X7_writeStatement_222 n S a1 a2 a3 a4 = some S1 ∧ xf_m S0 v p S1 := by
  obtain ⟨S1, z1, z2, -⟩ := m_make (n := n) h a4 a1 a2 a3
  unfold f_X7_writeStatement_222
  rw [z1, x_b_s]
  exact ⟨S1, rfl, z2⟩
theorem m_ws212 (h : xf_m S0 v p S) (a1 a2 a3 a4 : Int32) : ∃ S1, f_X7_writeStatement_212 n S a1 a2 a3 a4 = some S1 ∧ xf_m S0 v p S1 := by
  unfold f_X7_writeStatement_212
  split
  · exact m_ws222 h _ _ _ _
  · exact m_ws222 h _ _ _ _
theorem m_ws195 (h : xf_m S0 v p S) (a1 a2 a3 : Int32) : ∃ S1, f_X7_writeStatement_195 n S a1 a2 a3 = some S1 ∧ xf_m S0 v p S1 := by
  unfold f_X7_writeStatement_195
  rw [m_next h, x_b2_s, if_pos (by decide)]
  exact m_ws212 h _ _ _ _
theorem m_ws265 (h : xf_m S0 v p S) (a1 a2 a3 a4 : Int32) : f_X7_writeStatement_265 n S a1 a2 a3 a4 = some S := by
  unfold f_X7_writeStatement_265
  rw [m_begin h, x_b_s]
theorem m_ws255 (h : xf_m S0 v p S) (a1 a2 a3 a4 : Int32) : ∃ S1, f_X7_writeStatement_255 n S a1 a2 a3 a4 = some S1 ∧ xf_m S0 v p S1 := by
  obtain ⟨S1, z1, z2, -⟩ := m_make (n := n) h 3 a2 a3 0
  unfold f_X7_writeStatement_255
  rw [z1, x_b_s, m_ws265 z2]
  exact ⟨S1, rfl, z2⟩
theorem m_ws148 (h : xf_m S0 v p S) (hn : 1000 ≤ n) (a1 a2 a3 a4 t : Int32) : ∃ S1, f_X7_writeStatement_148 n S a1 a2 a3 a4 t = some S1 ∧ xf_m S0 v p S1 := by
  unfold f_X7_writeStatement_148 f_X7_writeStatement_167
  rw [x_l_e]
  split
  · split
    · exact m_ws195 h _ _ _
    · split
      · exact m_ws195 h _ _ _
      · split
        · exact m_ws255 h _ _ _ _
        · split
          · exact m_ws255 h _ _ _ _
          · split
            · exact m_ws255 h _ _ _ _
            · rw [m_ws265 h]; exact ⟨S, rfl, h⟩
  · split
    · exact m_ws172 h hn _ _ _ _
    · split
      · exact m_ws172 h hn _ _ _ _
      · exact m_ws172 h hn _ _ _ _
theorem m_ws133 (h : xf_m S0 v p S) (hn : 1000 ≤ n) (a1 a2 a3 t : Int32) : ∃ S1, f_X7_writeStatement_133 n S a1 a2 a3 t = some S1 ∧ xf_m S0 v p S1 := by
  unfold f_X7_writeStatement_133
  split
  · exact m_ws148 h hn _ _ _ _ _
  · rw [m_testing h, x_b2_s]
    exact m_ws148 h hn _ _ _ _ _
end
