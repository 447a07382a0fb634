/-! READING: IF ELSES and their second BODIES -/
section
variable {n d : Nat} {kk en ow fm hi : Nat → Nat} {So Fr Be Pa Bo So' Pa' Bo' os sd inn : Nat → Int32}
theorem r_Y_new (h : r_Y n d ow So Pa Bo) (hz : r_Z n d kk en ow So Pa Bo os sd) (ho : r_ow n d kk ow fm So Fr Be Bo os sd) (hI : r_I n d ow hi Pa inn) (hd : 0 < d) (hd2 : d ≤ 61) (hPB : ∀ s, s < n → Pa' s = Pa s ∧ Bo' s = Bo s) (hSo : ∀ s, s < n → So' s = So s) (hPn : Pa' n = os (d - 1)) (hBn : Bo' n = sd (d - 1)) : (∀ x, x < n + 1 → ∀ e, e < x → So' e = 2 → tx_cnt Pa' Bo' (nI e) 1 x = 0 → (Pa' x = nI e ∧ Bo' x = 1) ∨ r_an Pa' Bo' e x) ∧ ∀ x, x < n + 1 → Bo' x = 1 → ∃ e, e < x ∧ Pa' x = nI e ∧ So' e = 2 := by
  refine ⟨fun x hx e he s2 c0 => ?_, fun x hx b1 => ?_⟩
  · have hc : tx_cnt Pa' Bo' (nI e) 1 x = tx_cnt Pa Bo (nI e) 1 x := tx_cnt_eq _ _ x (fun s hs => hPB s (by omega))
    rw [hc] at c0
    rw [hSo e (by omega)] at s2
    by_cases xn : x = n
    · subst xn
      obtain ⟨c, c1, c2, c3⟩ := h.1 e he s2 c0
      obtain ⟨q1, q2, q3, q4, q5, q6, -⟩ := ho.2 c c1 c2
      rcases q6 with q6 | ⟨q6, -⟩
      · right
        refine ⟨d - 1 - c, fun i => if i = 0 then x else ow (d - i), by omega, if_pos rfl, fun i hi => ?_, fun i hi => ?_, ?_, ?_⟩
        · (try simp only)
          split
          · exact Nat.le_refl _
          · exact Nat.le_of_lt (ho.2 (d - i) (by omega) (by omega)).1
        · have lt := hI.2.1 c (d - (i + 1)) c1 (by omega) (by omega)
          refine ⟨?_, ?_⟩
          · show Pa' (if i = 0 then x else ow (d - i)) = nI (if i + 1 = 0 then x else ow (d - (i + 1)))
            rw [if_neg (Nat.succ_ne_zero i)]
            by_cases i0 : i = 0
            · subst i0
              rw [if_pos rfl, hPn, (ho.2 (d - 1) (by omega) (by omega)).2.1]
            · rw [if_neg i0, (hPB _ (ho.2 (d - i) (by omega) (by omega)).1).1, (hI.1 (d - i) (by omega) (by omega)).2]
              unfold r_top
              rw [if_neg (by omega), show d - i - 1 = d - (i + 1) by omega]
          · show (if i + 1 = 0 then x else ow (d - (i + 1))) ≠ e
            rw [if_neg (Nat.succ_ne_zero i)]
            omega
        · show Pa' (if d - 1 - c = 0 then x else ow (d - (d - 1 - c))) = nI e
          by_cases k0 : d - 1 - c = 0
          · rw [if_pos k0, hPn, show d - 1 = c by omega, q2, c3]
          · rw [if_neg k0, show d - (d - 1 - c) = c + 1 by omega, (hPB _ (ho.2 (c + 1) (by omega) (by omega)).1).1, (hI.1 (c + 1) (by omega) (by omega)).2]
            unfold r_top
            rw [if_neg (by omega), Nat.add_sub_cancel, c3]
        · show Bo' (if d - 1 - c = 0 then x else ow (d - (d - 1 - c))) = 0
          by_cases k0 : d - 1 - c = 0
          · rw [if_pos k0, hBn, show d - 1 = c by omega, q6]
          · rw [if_neg k0, show d - (d - 1 - c) = c + 1 by omega, (hPB _ (ho.2 (c + 1) (by omega) (by omega)).1).2, (ho.2 (c + 1) (by omega) (by omega)).2.2.1, Nat.add_sub_cancel, q6]
      · by_cases e2 : c + 1 < d
        · have := hz.1 c e2 q6
          rw [q2, c3] at this
          omega
        · left
          rw [hPn, hBn, show d - 1 = c by omega, q2, c3, q6]
          exact ⟨rfl, rfl⟩
    · have xl : x < n := by omega
      rw [(hPB x xl).1, (hPB x xl).2]
      rcases h.2.1 x xl e he s2 c0 with q | ⟨k, g, k1, g0, g1, g2, g3, g4⟩
      · exact Or.inl q
      · refine Or.inr ⟨k, g, k1, g0, g1, fun i hi => ?_, ?_, ?_⟩
        · rw [(hPB (g i) (by have := g1 i (by omega); omega)).1]; exact g2 i hi
        · rw [(hPB (g k) (by have := g1 k (by omega); omega)).1]; exact g3
        · rw [(hPB (g k) (by have := g1 k (by omega); omega)).2]; exact g4
  · by_cases xn : x = n
    · subst xn
      rw [hBn] at b1
      by_cases d1 : d = 1
      · subst d1
        have := (ho.1 hd).2
        rw [show (1 : Nat) - 1 = 0 from rfl, this] at b1
        exact absurd b1 (by decide)
      · obtain ⟨q1, q2, q3, q4, q5, q6, -⟩ := ho.2 (d - 1) (by omega) (by omega)
        refine ⟨ow (d - 1), q1, by rw [hPn, q2], ?_⟩
        rw [hSo _ q1]
        rcases q6 with q6 | ⟨-, q6⟩
        · rw [q6] at b1; exact absurd b1 (by decide)
        · exact q6
    · have xl : x < n := by omega
      rw [(hPB x xl).2] at b1
      obtain ⟨e, e1, e2, e3⟩ := h.2.2.1 x xl b1
      exact ⟨e, e1, by rw [(hPB x xl).1]; exact e2, by rw [hSo e (by omega)]; exact e3⟩
theorem r_Y_b (ho : r_ow n d kk ow fm So Fr Be Bo os sd) (hd : 0 < d) (hn1 : n < 1000) (hPn : Pa' n = os (d - 1)) (hBn : Bo' n = sd (d - 1)) (q : Pa' n = -1) : Bo' n = -1 := by
  rw [hPn] at q
  rw [hBn]
  by_cases d1 : d = 1
  · subst d1
    exact (ho.1 hd).2
  · obtain ⟨q1, q2, -⟩ := ho.2 (d - 1) (by omega) (by omega)
    rw [q2] at q
    exact absurd q (nI_m1 (by omega))
theorem r_Y.leaf (h : r_Y n d ow So Pa Bo) (hz : r_Z n d kk en ow So Pa Bo os sd) (ho : r_ow n d kk ow fm So Fr Be Bo os sd) (hI : r_I n d ow hi Pa inn) (hd : 0 < d) (hd2 : d ≤ 61) (hPB : ∀ s, s < n → Pa' s = Pa s ∧ Bo' s = Bo s) (hSo : ∀ s, s < n → So' s = So s) (hPn : Pa' n = os (d - 1)) (hBn : Bo' n = sd (d - 1)) (hn1 : n < 1000) (hs0 : 0 ≤ So' n) (hs : ¬ So' n = 2) : r_Y (n + 1) d ow So' Pa' Bo' := by
  have yn := r_Y_new h hz ho hI hd hd2 hPB hSo hPn hBn
  refine ⟨fun e he s2 c0 => ?_, yn.1, yn.2, fun x hx => (if e : x = n then by rw [e]; exact ⟨hs0, r_Y_b ho hd hn1 hPn hBn⟩ else by rw [hSo x (by omega), (hPB x (by omega)).1, (hPB x (by omega)).2]; exact h.2.2.2 x (by omega))⟩
  have en : e ≠ n := fun q => hs (q ▸ s2)
  rw [tx_cnt_new hPB] at c0
  rw [hSo e (by omega)] at s2
  exact h.1 e (by omega) s2 (by omega)
theorem r_Y.opn (h : r_Y n d ow So Pa Bo) (hz : r_Z n d kk en ow So Pa Bo os sd) (ho : r_ow n d kk ow fm So Fr Be Bo os sd) (hI : r_I n d ow hi Pa inn) (hd : 0 < d) (hd2 : d ≤ 61) (hPB : ∀ s, s < n → Pa' s = Pa s ∧ Bo' s = Bo s) (hSo : ∀ s, s < n → So' s = So s) (hPn : Pa' n = os (d - 1)) (hBn : Bo' n = sd (d - 1)) (hn1 : n < 1000) (hs0 : 0 ≤ So' n) : r_Y (n + 1) (d + 1) (fun c => if c = d then n else ow c) So' Pa' Bo' := by
  have yn := r_Y_new h hz ho hI hd hd2 hPB hSo hPn hBn
  refine ⟨fun e he s2 c0 => ?_, yn.1, yn.2, fun x hx => (if e : x = n then by rw [e]; exact ⟨hs0, r_Y_b ho hd hn1 hPn hBn⟩ else by rw [hSo x (by omega), (hPB x (by omega)).1, (hPB x (by omega)).2]; exact h.2.2.2 x (by omega))⟩
  by_cases en : e = n
  · exact ⟨d, hd, by omega, (if_pos rfl).trans en.symm⟩
  · rw [tx_cnt_new hPB] at c0
    rw [hSo e (by omega)] at s2
    obtain ⟨c, c1, c2, c3⟩ := h.1 e (by omega) s2 (by omega)
    exact ⟨c, c1, by omega, (if_neg (by omega)).trans c3⟩
theorem r_Y.pop (h : r_Y n (d + 1) ow So Pa Bo) (hz : r_Z n (d + 1) kk en ow So Pa Bo os sd) (ho : r_ow n (d + 1) kk ow fm So Fr Be Bo os sd) (hke : kk d = en d) (hw : ¬ r_wt So ow sd d) : r_Y n d ow So Pa Bo := by
  refine ⟨fun e he s2 c0 => ?_, h.2⟩
  obtain ⟨c, c1, c2, c3⟩ := h.1 e he s2 c0
  by_cases e1 : c = d
  · subst e1
    obtain ⟨q1, q2, q3, q4, q5, q6, -⟩ := ho.2 c c1 c2
    rcases q6 with q6 | ⟨q6, -⟩
    · exact absurd ⟨by rw [c3]; exact s2, q6⟩ hw
    · have := hz.2.1 (by omega) q6 (by rw [Nat.add_sub_cancel, q2, c3]; exact c0)
      rw [Nat.add_sub_cancel] at this
      omega
  · exact ⟨c, c1, by omega, c3⟩
theorem r_Y.root (h : r_Y n 1 ow So Pa Bo) : r_Y n 0 ow So Pa Bo := ⟨fun e he s2 c0 => by
  obtain ⟨c, c1, c2, -⟩ := h.1 e he s2 c0
  omega, h.2⟩
end
