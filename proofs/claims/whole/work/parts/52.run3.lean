/-! run: both, turn by turn -/
def rr_fr (N d : Nat) (Sc Sm : x_S) : Prop := ∀ j, j < d → ∃ q L p, q < N ∧ iv_one L q Sc Sm ∧ iv_whole L q Sm ∧ p ≤ L ∧ g_ra Sc 306 j = some (q + 1) ∧ g_ar Sm 752 j = nI q ∧ g_ar Sc 307 j = nI p ∧ g_ar Sm 753 j = nI p
def rr (N lim d t st cl : Nat) (Sc Sm : x_S) : Prop := iv_N N Sc Sm ∧ d ≤ 8 ∧ lim ≤ 10000 ∧ g_sc Sc 305 = nI d ∧ g_sc Sc 300 = nI st ∧ g_sc Sc 301 = nI cl ∧ st ≤ lim ∧ cl ≤ st + 1 ∧ t + d = st + cl ∧ rr_fr N d Sc Sm
abbrev lp_c (n k : Nat) (z : x_S × Int32 × Int32 × Int32) : Option (Int32 × x_S) := x_loop (fun rec z => f_X3_start_42 n rec z.1 z.2.1 z.2.2.1 z.2.2.2) k z
abbrev lp_m (n k : Nat) (z : x_S × Int32 × Int32) : Option (Int32 × x_S) := x_loop (fun rec z => f_X7_run_89 n rec z.1 z.2.1 z.2.2) k z
theorem lc_go {n k t : Nat} {S S1 : x_S} {lim : Int32} (ht : t < 20003) (h : f_X3_turn n S lim = some (-1, S1)) : lp_c n (k + 1) (S, lim, -1, nI t) = lp_c n k (S1, lim, -1, nI (t + 1)) := by
  have c1 : ¬ (20003 : Int32) ≤ nI t := fun q => by rw [k_ge (by omega)] at q; have : (20003 : Int32).toInt = 20003 := rfl; omega
  show f_X3_start_42 n _ S lim (-1) (nI t) = _
  simp only [f_X3_start_42, if_neg c1, if_true, h, x_b2_s, nI_1]
  rfl
theorem lc_end {n k t : Nat} {S S1 : x_S} {lim v : Int32} (ht : t < 20003) (h : f_X3_turn n S lim = some (v, S1)) (hv : ¬ v = -1) : lp_c n (k + 2) (S, lim, -1, nI t) = some (v, S1) := by
  have c1 : ¬ (20003 : Int32) ≤ nI t := fun q => by rw [k_ge (by omega)] at q; have : (20003 : Int32).toInt = 20003 := rfl; omega
  show f_X3_start_42 n _ S lim (-1) (nI t) = _
  simp only [f_X3_start_42, if_neg c1, if_true, h, x_b2_s, nI_1]
  show f_X3_start_42 n _ S1 lim v (nI (t + 1)) = _
  unfold f_X3_start_42
  split
  all_goals first | rfl | rw [if_neg hv]
theorem rr_frame {N d : Nat} {Sc Sm Sc2 Sm2 : x_S} (h : rr_fr N d Sc Sm) (e1 : ∀ L q, iv_one L q Sc Sm → iv_one L q Sc2 Sm2) (e2 : ∀ L q, iv_whole L q Sm → iv_whole L q Sm2) (e3 : ∀ j, j < d → g_ra Sc2 306 j = g_ra Sc 306 j) (e4 : ∀ j, j < d → g_ar Sm2 752 j = g_ar Sm 752 j) (e5 : ∀ j, j < d → g_ar Sc2 307 j = g_ar Sc 307 j) (e6 : ∀ j, j < d → g_ar Sm2 753 j = g_ar Sm 753 j) : rr_fr N d Sc2 Sm2 := by
  intro j hj
  obtain ⟨q, L, p, a1, a2, a3, a4, a5, a6, a7, a8⟩ := h j hj
  exact ⟨q, L, p, a1, e1 _ _ a2, e2 _ _ a3, a4, (e3 j hj).trans a5, (e4 j hj).trans a6, (e5 j hj).trans a7, (e6 j hj).trans a8⟩
theorem rr_push {N d : Nat} {Sc Sm : x_S} (h : rr_fr N d Sc Sm) (q L p : Nat) (a1 : q < N) (a2 : iv_one L q Sc Sm) (a3 : iv_whole L q Sm) (a4 : p ≤ L) (a5 : g_ra Sc 306 d = some (q + 1)) (a6 : g_ar Sm 752 d = nI q) (a7 : g_ar Sc 307 d = nI p) (a8 : g_ar Sm 753 d = nI p) : rr_fr N (d + 1) Sc Sm := by
  intro j hj
  by_cases e : j = d
  · subst e
    exact ⟨q, L, p, a1, a2, a3, a4, a5, a6, a7, a8⟩
  · exact h j (by omega)
theorem rr_low {N d : Nat} {Sc Sm : x_S} (h : rr_fr N (d + 1) Sc Sm) : rr_fr N d Sc Sm := fun j hj => h j (by omega)
theorem ok_reg {a : Int32} {M : Nat} {c : Int32} (hM : M < 2 ^ 31) (hc : c = nI M) (h1 : 0 ≤ a) (h2 : a < c) : ∃ j, j < M ∧ a = nI j := by
  subst hc
  rcases k_arg a hM with (q | q) | q
  · exact absurd q (Int32.not_lt.mpr h1)
  · exact absurd h2 (Int32.not_lt.mpr q)
  · exact q
theorem run_sim (n : Nat) (hn : 1000 ≤ n) (N lim : Nat) : ∀ (μ t d st cl k k2 : Nat) (Sc Sm : x_S), 20004 ≤ t + μ → μ < k → μ < k2 → rr N lim d t st cl Sc Sm → ∃ v Sc1 Sm1, lp_c n k (Sc, nI lim, -1, nI t) = some (v, Sc1) ∧ lp_m n k2 (Sm, nI lim, nI d) = some (v, Sm1) ∧ INV Sc1 Sm1 := by
  intro μ
  induction μ using Nat.strongRecOn with
  | ind μ ih =>
  intro t d st cl k k2 Sc Sm hμ hk hk2 h
  obtain ⟨hN, hd8, hlim, h305, h300, h301, hst, hcl, hcnt, hfr⟩ := id h
  have ht : t ≤ 20001 := by omega
  obtain ⟨k, rfl⟩ : ∃ z, k = z + 2 := ⟨k - 2, by omega⟩
  obtain ⟨k2, rfl⟩ : ∃ z, k2 = z + 1 := ⟨k2 - 1, by omega⟩
  cases d with
  | zero =>
    exact ⟨0, Sc, Sm, lc_end (by omega) (t_over h305) (by decide), rfl, N, hN⟩
  | succ e =>
    obtain ⟨q, L, p, hq, hone, hwh, hp, f1, f2, f3, f4⟩ := hfr e (by omega)
    obtain ⟨i1, i2, i3, i4, i5, i6, i7⟩ := id hN
    obtain ⟨i11, i12, i13, i14, i15, i16, i17⟩ := id i1
    obtain ⟨r1, r2, ⟨o, o1, o2, o3, o4⟩, r4⟩ := id i5
    obtain ⟨l1, l2, l3, l4, l5⟩ := id hone
    have hnp : q + 1 < g_np Sc := by omega
    have hmst : g_sc Sm 710 = nI st := by rw [← r1]; exact h300
    have tc : tp_c e q L p st lim Sc := ⟨by omega, h305, f1, f3, hnp, l3, l1, hp, h300, hst, hlim⟩
    have tm : tp_m e q L p st lim Sm := ⟨by omega, f2, f4, by omega, l2, l1, hp, hmst, hst, hlim⟩
    by_cases hpL : p = L
    · -- the CALL is over
      have hc := lc_go (k := k + 1) (t := t) (by omega) (t_pop (n := n) tc hpL)
      have hm : lp_m n (k2 + 1) (Sm, nI lim, nI (e + 1)) = lp_m n k2 (Sm, nI lim, nI e) := m_pop tm hpL
      rw [hc, hm]
      exact ih (μ - 1) (by omega) (t + 1) e st cl (k + 1) k2 (s_sc Sc 305 (nI e)) Sm (by omega) (by omega) (by omega) ⟨⟨i1, i2, i3, i4, ⟨r1, r2, ⟨o, o1, o2, o3, o4⟩, r4⟩, i6, i7⟩, by omega, hlim, rfl, h300, h301, hst, hcl, by omega, rr_frame (rr_low hfr) (fun _ _ z => z) (fun _ _ z => z) (fun _ _ => rfl) (fun _ _ => rfl) (fun _ _ => rfl) (fun _ _ => rfl)⟩
    · have hpl : p < L := by omega
      by_cases hsl : st = lim
      · exact ⟨1, Sc, Sm, lc_end (by omega) (t_no tc hpl hsl) (by decide), m_no tm hpl hsl, N, hN⟩
      · have hsl2 : st < lim := by omega
        obtain ⟨a0, a1, a2, a3, hok⟩ := l4 p hpl
        have hgm := m_gen (n := n) (rec := fun z => lp_m n k2 z) tm hpl hsl2 rfl rfl rfl rfl
        have hgc : pf_c e q L p (s_sc Sc 300 (nI (st + 1))) (g_ar Sm 702 (60 * q + p)) (g_ar Sm 703 (60 * q + p)) (g_ar Sm 704 (60 * q + p)) (g_ar Sm 705 (60 * q + p)) := ⟨by omega, h305, hnp, l3, l1, hpl, a0, a1, a2, a3⟩
        have htu : f_X3_turn n Sc (nI lim) = f_X3_perform n (s_sc Sc 300 (nI (st + 1))) (q + 1) (nI p) := t_step tc hpl hsl2
        rw [p_gen hgc, x_l_e] at htu
        rw [x_l_e] at hgm
        have hlm : lp_m n (k2 + 1) (Sm, nI lim, nI (e + 1)) = f_X7_run_89 n (fun z => lp_m n k2 z) Sm (nI lim) (nI (e + 1)) := rfl
        rw [hgm] at hlm
        clear hgm
        -- the states behind the ACT's own place
        have mk : ∀ (Sc2 Sm2 : x_S) (p2 : Nat), f_X3_turn n Sc (nI lim) = some (-1, Sc2) → lp_m n (k2 + 1) (Sm, nI lim, nI (e + 1)) = lp_m n k2 (Sm2, nI lim, nI (e + 1)) → iv_N N Sc2 Sm2 → g_sc Sc2 305 = nI (e + 1) → g_sc Sc2 300 = nI (st + 1) → g_sc Sc2 301 = nI cl → p2 ≤ L → (∀ L q, iv_one L q Sc Sm → iv_one L q Sc2 Sm2) → (∀ L q, iv_whole L q Sm → iv_whole L q Sm2) → (∀ j, g_ra Sc2 306 j = g_ra Sc 306 j) → (∀ j, g_ar Sm2 752 j = g_ar Sm 752 j) → (∀ j, g_ar Sc2 307 j = if j = e then nI p2 else g_ar Sc 307 j) → (∀ j, g_ar Sm2 753 j = if j = e then nI p2 else g_ar Sm 753 j) → ∃ v Sc1 Sm1, lp_c n (k + 2) (Sc, nI lim, -1, nI t) = some (v, Sc1) ∧ lp_m n (k2 + 1) (Sm, nI lim, nI (e + 1)) = some (v, Sm1) ∧ INV Sc1 Sm1 := by
          intro Sc2 Sm2 p2 z1 z2 z3 z4 z5 z6 z7 z8 z9 z10 z11 z12 z13
          rw [lc_go (k := k + 1) (by omega) z1, z2]
          refine ih (μ - 1) (by omega) (t + 1) (e + 1) (st + 1) cl (k + 1) k2 Sc2 Sm2 (by omega) (by omega) (by omega) ⟨z3, hd8, hlim, z4, z5, z6, by omega, by omega, by omega, ?_⟩
          refine rr_push (rr_frame (rr_low hfr) z8 z9 (fun j _ => z10 j) (fun j _ => z11 j) (fun j hj => ?_) (fun j hj => ?_)) q L p2 hq (z8 _ _ hone) (z9 _ _ hwh) z7 ((z10 e).trans f1) ((z11 e).trans f2) (by rw [z12, if_pos rfl]) (by rw [z13, if_pos rfl])
          · rw [z12, if_neg (by omega)]
          · rw [z13, if_neg (by omega)]
        rcases hok with ⟨hk0, hb0, hc0⟩ | ⟨hk1, ha1, ha2, hc1⟩ | ⟨hk2', hb2, hc2, hc2a, hc2b⟩ | ⟨hk3, ha3, ha3b, hb3, hb3b, hc3, hc3b⟩ | ⟨hk4, ha4, hb4, hc4⟩ | ⟨hk5, ha5, ha5b, hb5, hc5⟩
        · -- SAY
          simp only [hk0, if_true] at htu hlm
          have q302 : g_sc (s_ar (s_sc Sc 300 (nI (st + 1))) 307 e (nI (p + 1))) 302 = nI o := o2
          have q712 : g_sc (s_ar (s_sc Sm 710 (nI (st + 1))) 753 e (nI (p + 1))) 712 = nI o := o3
          simp only [f_X3_say, x_l_e, q302] at htu
          simp only [x_l_e, q712] at hlm
          by_cases ho : o = 200
          · subst ho
            refine ⟨4, _, _, lc_end (by omega) htu (by decide), hlm, N, i1, i2, i3, i4, ⟨rfl, r2, ⟨200, o1, o2, o3, o4⟩, r4⟩, i6, i7⟩
          · have ho2 : o < 2 ^ 31 := by omega
            have b1 : nI o < (200 : Int32) := nI_lt (a := o) (b := 200) (by omega) (by decide)
            have b2 : ¬ nI o = (200 : Int32) := fun z => ho ((nI_eq (b := 200) ho2 (by decide)).mp z)
            have b3 := k_in2 (show o < 200 by omega) ho2
            have b4 := nI_clamp ho2
            simp only [if_pos b1, b4, x_gt b3, q_sc_ar, nI_1] at htu
            rw [show g_sc (s_sc Sc 300 (nI (st + 1))) 302 = nI o from o2, nI_1] at htu
            simp only [if_neg b2, b4, x_gt b3, nI_1] at hlm
            refine mk _ _ (p + 1) htu hlm ⟨i1, i2, i3, i4, ⟨rfl, r2, ⟨o + 1, by omega, rfl, rfl, fun i hi => ?_⟩, r4⟩, i6, i7⟩ h305 rfl h301 (by omega) (fun _ _ z => z) (fun _ _ z => z) (fun _ => rfl) (fun _ => rfl) (fun j => ?_) (fun j => ?_)
            · simp only [q_ar_sc, q_ar_ar, true_and, Nat.reduceEqDiff, false_and, if_false]
              by_cases e9 : i = o
              · simp [e9]
              · simp only [if_neg e9]
                exact o4 i (by omega)
            · simp only [q_ar_sc, q_ar_ar, true_and, Nat.reduceEqDiff, false_and, if_false]
            · simp only [q_ar_sc, q_ar_ar, true_and, Nat.reduceEqDiff, false_and, if_false]
        · -- ADD
          obtain ⟨a, ha, hA⟩ := ok_reg (M := 4) (by decide) rfl ha1 ha2
          have a22 : a < 2 ^ 31 := by omega
          have b3 := k_in2 ha a22
          have b4 := nI_clamp a22
          simp only [hk1, if_neg i_10, if_true, hA, b4, x_gt b3, x_l_e] at htu hlm
          refine mk _ _ (p + 1) htu hlm ⟨i1, i2, i3, i4, ⟨rfl, r2, ⟨o, o1, o2, o3, o4⟩, fun i hi => ?_⟩, i6, i7⟩ h305 rfl h301 (by omega) (fun _ _ z => z) (fun _ _ z => z) (fun _ => rfl) (fun _ => rfl) (fun j => ?_) (fun j => ?_)
          · simp only [q_ar_sc, q_ar_ar, true_and, Nat.reduceEqDiff, false_and, if_false]
            by_cases e9 : i = a
            · subst e9
              simp only [if_true]
              rw [r4 i hi]
            · simp only [if_neg e9]
              exact r4 i hi
          · simp only [q_ar_sc, q_ar_ar, true_and, Nat.reduceEqDiff, false_and, if_false]
          · simp only [q_ar_sc, q_ar_ar, true_and, Nat.reduceEqDiff, false_and, if_false]
        · -- GO
          obtain ⟨c, hc, hC⟩ := ok_reg (M := 61) (c := 61) (by decide) rfl hc2a (by rw [Int32.le_iff_toInt_le] at hc2b; rw [Int32.lt_iff_toInt_lt]; have : (60 : Int32).toInt = 60 := rfl; have : (61 : Int32).toInt = 61 := rfl; omega)
          have hcL : c ≤ L := by
            have := hwh p hpl
            rw [hC] at this
            exact (nI_leI (by omega) (by omega)).mp this
          simp only [hk2', if_neg (show ¬ (2 : Int32) = 0 by decide), if_neg (show ¬ (2 : Int32) = 1 by decide), if_true, hC] at htu hlm
          refine mk _ _ c htu hlm ⟨i1, i2, i3, i4, ⟨rfl, r2, ⟨o, o1, o2, o3, o4⟩, r4⟩, i6, i7⟩ h305 rfl h301 hcL (fun _ _ z => z) (fun _ _ z => z) (fun _ => rfl) (fun _ => rfl) (fun j => ?_) (fun j => ?_)
          · simp only [q_ar_sc, q_ar_ar, true_and, Nat.reduceEqDiff, false_and, if_false]
            by_cases e9 : j = e <;> simp [e9]
          · simp only [q_ar_sc, q_ar_ar, true_and, Nat.reduceEqDiff, false_and, if_false]
            by_cases e9 : j = e <;> simp [e9]
        · -- TEST
          obtain ⟨a, ha, hA⟩ := ok_reg (M := 4) (by decide) rfl ha3 ha3b
          obtain ⟨c, hc, hC⟩ := ok_reg (M := 61) (c := 61) (by decide) rfl hc3 (by rw [Int32.le_iff_toInt_le] at hc3b; rw [Int32.lt_iff_toInt_lt]; have : (60 : Int32).toInt = 60 := rfl; have : (61 : Int32).toInt = 61 := rfl; omega)
          have hcL : c ≤ L := by
            have := hwh p hpl
            rw [hC] at this
            exact (nI_leI (by omega) (by omega)).mp this
          have a22 : a < 2 ^ 31 := by omega
          have b3 := k_in2 ha a22
          have b4 := nI_clamp a22
          have r4a : g_ar (s_ar (s_sc Sc 300 (nI (st + 1))) 307 e (nI (p + 1))) 304 a = g_ar (s_ar (s_sc Sm 710 (nI (st + 1))) 753 e (nI (p + 1))) 714 a := r4 a ha
          obtain ⟨v, hv, hv2⟩ := e_so2 n (g_ar (s_ar (s_sc Sm 710 (nI (st + 1))) 753 e (nI (p + 1))) 714 a) (g_ar Sm 704 (60 * q + p))
          simp only [hk3, if_neg (show ¬ (3 : Int32) = 0 by decide), if_neg (show ¬ (3 : Int32) = 1 by decide), if_neg (show ¬ (3 : Int32) = 2 by decide), if_true, hA, b4, x_gt b3, x_l_e, hC, r4a, hv, x_b_s] at htu hlm
          rcases hv2 with rfl | rfl
          · simp only [if_true] at htu hlm
            refine mk _ _ (p + 1) htu hlm ⟨i1, i2, i3, i4, ⟨rfl, r2, ⟨o, o1, o2, o3, o4⟩, r4⟩, i6, i7⟩ h305 rfl h301 (by omega) (fun _ _ z => z) (fun _ _ z => z) (fun _ => rfl) (fun _ => rfl) (fun j => ?_) (fun j => ?_)
            · simp only [q_ar_sc, q_ar_ar, true_and, Nat.reduceEqDiff, false_and, if_false]
            · simp only [q_ar_sc, q_ar_ar, true_and, Nat.reduceEqDiff, false_and, if_false]
          · simp only [if_neg i_10] at htu hlm
            refine mk _ _ c htu hlm ⟨i1, i2, i3, i4, ⟨rfl, r2, ⟨o, o1, o2, o3, o4⟩, r4⟩, i6, i7⟩ h305 rfl h301 hcL (fun _ _ z => z) (fun _ _ z => z) (fun _ => rfl) (fun _ => rfl) (fun j => ?_) (fun j => ?_)
            · simp only [q_ar_sc, q_ar_ar, true_and, Nat.reduceEqDiff, false_and, if_false]
              by_cases e9 : j = e <;> simp [e9]
            · simp only [q_ar_sc, q_ar_ar, true_and, Nat.reduceEqDiff, false_and, if_false]
              by_cases e9 : j = e <;> simp [e9]
        · -- DONE
          simp only [hk4, if_neg (show ¬ (4 : Int32) = 0 by decide), if_neg (show ¬ (4 : Int32) = 1 by decide), if_neg (show ¬ (4 : Int32) = 2 by decide), if_neg (show ¬ (4 : Int32) = 3 by decide), if_true] at htu hlm
          rw [lc_go (k := k + 1) (t := t) (by omega) htu, hlm]
          have tc2 : tp_c e q L L (st + 1) lim (s_ar (s_ar (s_sc Sc 300 (nI (st + 1))) 307 e (nI (p + 1))) 307 e (nI L)) := ⟨by omega, h305, f1, by simp [q_ar_ar], hnp, l3, l1, Nat.le_refl _, rfl, by omega, hlim⟩
          rw [lc_go (k := k) (t := t + 1) (by omega) (t_pop (n := n) tc2 rfl)]
          refine ih (μ - 2) (by omega) (t + 1 + 1) e (st + 1) cl k k2 _ _ (by omega) (by omega) (by omega) ⟨⟨i1, i2, i3, i4, ⟨rfl, r2, ⟨o, o1, o2, o3, o4⟩, r4⟩, i6, i7⟩, by omega, hlim, rfl, rfl, h301, by omega, by omega, by omega, rr_frame (rr_low hfr) (fun _ _ z => z) (fun _ _ z => z) (fun _ _ => rfl) (fun _ _ => rfl) (fun j hj => ?_) (fun j hj => ?_)⟩
          · simp only [q_ar_sc, q_ar_ar, true_and, if_neg (show ¬ j = e by omega)]
          · simp only [q_ar_sc, q_ar_ar, true_and, if_neg (show ¬ j = e by omega)]
        · -- CALL
          obtain ⟨a, ha, hA⟩ := ok_reg (M := 12) (by decide) rfl ha5 ha5b
          have a22 : a < 2 ^ 31 := by omega
          have b3 := k_in2 ha a22
          have b4 := nI_clamp a22
          have i1m : iv_rt N (s_ar (s_sc Sc 300 (nI (st + 1))) 307 e (nI (p + 1))) (s_ar (s_sc Sm 710 (nI (st + 1))) 753 e (nI (p + 1))) := i1
          have hA2 : g_ar (s_ar (s_sc Sm 710 (nI (st + 1))) 753 e (nI (p + 1))) 703 (60 * q + p) = nI a := hA
          have hinv : iv_N N (s_ar (s_sc Sc 300 (nI (st + 1))) 307 e (nI (p + 1))) (s_ar (s_sc Sm 710 (nI (st + 1))) 753 e (nI (p + 1))) := ⟨i1, i2, i3, i4, ⟨rfl, r2, ⟨o, o1, o2, o3, o4⟩, r4⟩, i6, i7⟩
          simp only [hk5, if_neg (show ¬ (5 : Int32) = 0 by decide), if_neg (show ¬ (5 : Int32) = 1 by decide), if_neg (show ¬ (5 : Int32) = 2 by decide), if_neg (show ¬ (5 : Int32) = 3 by decide), if_neg (show ¬ (5 : Int32) = 4 by decide), if_true, hA, b4, x_gt b3, x_l_e] at htu hlm
          by_cases haN : a < N
          · have g600 : g_ra (s_ar (s_sc Sc 300 (nI (st + 1))) 307 e (nI (p + 1))) 600 a = some (a + 1) := i15 a haN
            obtain ⟨La, hLa⟩ := i17 a haN
            have npa : a + 1 < g_np (s_ar (s_sc Sc 300 (nI (st + 1))) 307 e (nI (p + 1))) := by
              show a + 1 < g_np Sc
              omega
            have hLa2 : iv_one La a (s_ar (s_sc Sc 300 (nI (st + 1))) 307 e (nI (p + 1))) (s_ar (s_sc Sm 710 (nI (st + 1))) 753 e (nI (p + 1))) := hLa
            rw [g600, x_o_s] at htu
            rw [e_isR n i1m haN, x_b2_s, if_neg i_10, hA2] at hlm
            unfold f_X3_callOf at htu
            rw [x_gt npa, x_l_e] at htu
            rcases e_wh2 n hn ha hLa2 with ⟨w1, w2, w3⟩ | ⟨w1, w2, w3⟩
            · rw [w2, if_neg i_10, x_l_e] at htu
              rw [w3, x_b2_s, if_neg i_10] at hlm
              have g305 : g_sc (s_ar (s_sc Sc 300 (nI (st + 1))) 307 e (nI (p + 1))) 305 = nI (e + 1) := h305
              rw [g305] at htu
              by_cases he8 : e + 1 = 8
              · have b5 : ¬ nI (e + 1) < (8 : Int32) := by rw [he8]; decide
                have b6 : nI (e + 1) = (8 : Int32) := by rw [he8]; rfl
                rw [if_neg b5] at htu
                rw [if_pos b6] at hlm
                exact ⟨3, _, _, lc_end (by omega) htu (by decide), hlm, N, hinv⟩
              · have e12 : e + 1 < 2 ^ 31 := by omega
                have b5 : nI (e + 1) < (8 : Int32) := nI_lt (a := e + 1) (b := 8) (by omega) (by decide)
                have b6 : ¬ nI (e + 1) = (8 : Int32) := fun z => he8 ((nI_eq (b := 8) e12 (by decide)).mp z)
                have d3 := k_in2 (show e + 1 < 8 by omega) e12
                have d4 := nI_clamp e12
                rw [if_pos b5] at htu
                have npb : a + 1 < g_np (s_sc Sc 300 (nI (st + 1))) := npa
                simp only [f_X3_enter, x_l_e, g305, x_gt npa, x_gt npb, d4, x_gt d3, q_sc_ra, q_sc_ar, q_sc_sc, Nat.reduceEqDiff, if_false, h305, nI_1, x_b_s, h301, q_np_ra, q_np_ar] at htu
                rw [if_neg b6] at hlm
                simp only [x_gt d3] at hlm
                have q711 : g_sc (s_ar (s_sc Sm 710 (nI (st + 1))) 753 e (nI (p + 1))) 711 = nI cl := r2.symm.trans h301
                rw [q711, nI_1] at hlm
                rw [lc_go (k := k + 1) (t := t) (by omega) htu, hlm]
                refine ih (μ - 1) (by omega) (t + 1) (e + 2) (st + 1) (cl + 1) (k + 1) k2 _ _ (by omega) (by omega) (by omega) ⟨⟨i1, ⟨i2.1, fun x j i hi => ?_⟩, i3, i4, ⟨rfl, rfl, ⟨o, o1, o2, o3, o4⟩, r4⟩, i6, i7⟩, by omega, hlim, rfl, rfl, rfl, by omega, by omega, by omega, ?_⟩
                · simp only [q_ra_sc, q_ra_ar, q_ra_ra] at hi
                  by_cases e9 : x = 306 ∧ j = e + 1
                  · rw [if_pos e9] at hi
                    have := Option.some.inj hi
                    show i < g_np Sc
                    omega
                  · rw [if_neg e9] at hi
                    exact i2.2 x j i hi
                · refine rr_push (rr_push (rr_frame (rr_low hfr) (fun _ _ z => z) (fun _ _ z => z) (fun j hj => ?_) (fun j hj => ?_) (fun j hj => ?_) (fun j hj => ?_)) q L (p + 1) hq hone hwh (by omega) ?_ ?_ ?_ ?_) a La 0 haN hLa w1 (Nat.zero_le _) ?_ ?_ ?_ ?_
                  · simp only [q_ra_sc, q_ra_ar, q_ra_ra, true_and, if_neg (show ¬ j = e + 1 by omega)]
                  · simp only [q_ar_sc, q_ar_ar, q_ar_ra, true_and, Nat.reduceEqDiff, false_and, if_false, if_neg (show ¬ j = e + 1 by omega), if_neg (show ¬ j = e by omega)]
                  · simp only [q_ar_sc, q_ar_ar, q_ar_ra, true_and, Nat.reduceEqDiff, false_and, if_false, if_neg (show ¬ j = e + 1 by omega), if_neg (show ¬ j = e by omega)]
                  · simp only [q_ar_sc, q_ar_ar, q_ar_ra, true_and, Nat.reduceEqDiff, false_and, if_false, if_neg (show ¬ j = e + 1 by omega), if_neg (show ¬ j = e by omega)]
                  · simp only [q_ra_sc, q_ra_ar, q_ra_ra, true_and, if_neg (show ¬ e = e + 1 by omega)]; exact f1
                  · simp only [q_ar_sc, q_ar_ar, q_ar_ra, true_and, Nat.reduceEqDiff, false_and, if_false, if_neg (show ¬ e = e + 1 by omega)]; exact f2
                  · simp only [q_ar_sc, q_ar_ar, q_ar_ra, true_and, Nat.reduceEqDiff, false_and, if_false, if_neg (show ¬ e = e + 1 by omega), if_true]
                  · simp only [q_ar_sc, q_ar_ar, q_ar_ra, true_and, Nat.reduceEqDiff, false_and, if_false, if_neg (show ¬ e = e + 1 by omega), if_true]
                  · simp only [q_ra_sc, q_ra_ar, q_ra_ra, true_and, if_true]
                  · simp only [q_ar_sc, q_ar_ar, q_ar_ra, true_and, Nat.reduceEqDiff, false_and, if_false, if_true]; exact hA
                  · simp only [q_ar_sc, q_ar_ar, q_ar_ra, true_and, Nat.reduceEqDiff, false_and, if_false, if_true]; rfl
                  · simp only [q_ar_sc, q_ar_ar, q_ar_ra, true_and, Nat.reduceEqDiff, false_and, if_false, if_true]; rfl
            · rw [w2, if_pos rfl] at htu
              rw [w3, x_b2_s, if_pos rfl] at hlm
              exact ⟨2, _, _, lc_end (by omega) htu (by decide), hlm, N, hinv⟩
          · have g600 : g_ra (s_ar (s_sc Sc 300 (nI (st + 1))) 307 e (nI (p + 1))) 600 a = none := i16 a (by omega)
            rw [g600, x_o_n] at htu
            rw [e_isR_no n i1m (Or.inr (nI_le (by omega) (by omega))), x_b2_s, if_pos rfl] at hlm
            exact ⟨2, _, _, lc_end (by omega) htu (by decide), hlm, N, hinv⟩
