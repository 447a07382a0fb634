/-! what the class's tree must be for a ROUTINE with these ACTS: that of the reference's reading, wherever these ACTS stand -/
def fr_m (S S1 : x_S) : Prop := (∀ x, x ≤ 714 → g_sc S1 x = g_sc S x) ∧ ∀ x y, x ≤ 714 → g_ar S1 x y = g_ar S x y
def w_lp (o : Int32) : Prop := o = 3 ∨ o = 4 ∨ o = 5
def r_cmp (o : Int32) : Prop := 1 ≤ o ∧ o ≤ 5
def r_top (d : Nat) (ow : Nat → Nat) : Int32 := if d = 1 then -1 else nI (ow (d - 1))
def r_op (d : Nat) (ow : Nat → Nat) (s : Nat) : Prop := ∃ c, 0 < c ∧ c < d ∧ ow c = s
def r_in (d : Nat) (ow hi : Nat → Nat) (s x : Nat) : Prop := s < x ∧ (r_op d ow s ∨ x ≤ hi s)
def r_I (n d : Nat) (ow hi : Nat → Nat) (Pa inn : Nat → Int32) : Prop := (∀ c, 0 < c → c < d → ow c < n ∧ Pa (ow c) = r_top c ow) ∧ (∀ c c', 0 < c → c < c' → c' < d → ow c < ow c') ∧ (∀ s, s < n → ¬ r_op d ow s → s ≤ hi s ∧ hi s < n ∧ inn s = nI (hi s - s) ∧ ∀ c, 0 < c → c < d → ¬ (s < ow c ∧ ow c ≤ hi s)) ∧ (∀ x, x < n → Pa x = -1 ∨ ∃ p, p < x ∧ Pa x = nI p) ∧ ∀ x, x < n → ∀ s, r_in d ow hi s x ↔ ∃ p, p < x ∧ Pa x = nI p ∧ (s = p ∨ r_in d ow hi s p)
def r_D (n d : Nat) (ow dp : Nat → Nat) (Pa So : Nat → Int32) (D : Nat) : Prop := (∀ s, s < n → (Pa s = -1 ∧ dp s = 1) ∨ ∃ p, p < s ∧ Pa s = nI p ∧ dp s = dp p + 1) ∧ (∀ c, 0 < c → c < d → ow c < n ∧ dp (ow c) = c) ∧ (∀ s, s < n → dp s ≤ D ∧ (r_cmp (So s) → dp s + 1 ≤ D)) ∧ d ≤ D ∧ 1 ≤ D ∧ (D = 1 ∨ ∃ s, s < n ∧ r_cmp (So s) ∧ dp s + 1 = D)
def r_J (So : Nat → Int32) : Nat → Nat
  | 0 => 0
  | s + 1 => r_J So s + (if So s = 8 ∨ So s = 11 then 1 else 0)
def r_F (d : Nat) (kk en : Nat → Nat) (wt : Nat → Prop) (i : Nat) : Prop := (∃ c, c < d ∧ kk c ≤ i ∧ i < en c) ∨ ∃ c, c + 1 < d ∧ wt (c + 1) ∧ en (c + 1) < i ∧ i < kk c
def r_M (So Fr Be Go : Nat → Int32) (s i : Nat) : Prop := (¬ (So s = 3 ∨ So s = 5) ∧ Fr s = nI i) ∨ (w_lp (So s) ∧ Be s = nI (i + 1)) ∨ (So s = 2 ∧ Go s = nI (i + 1))
def r_C (L n d : Nat) (kk en : Nat → Nat) (wt : Nat → Prop) (So Fr Be Go St : Nat → Int32) : Prop := ∀ i, i < L → (r_F d kk en wt i ∧ ∀ s, s < n → ¬ r_M So Fr Be Go s i) ∨ (¬ r_F d kk en wt i ∧ ∃ s, s < n ∧ St i = nI s ∧ r_M So Fr Be Go s i ∧ ∀ s', s' < n → r_M So Fr Be Go s' i → s' = s)
abbrev tx_T : Type := Int32 × Int32 × Int32
def tx_cnt (Pa Bo : Nat → Int32) (a b : Int32) : Nat → Nat
  | 0 => 0
  | s + 1 => tx_cnt Pa Bo a b s + (if Pa s = a ∧ Bo s = b then 1 else 0)
def tx_v (Pa Bo : Nat → Int32) (n : Nat) (t : tx_T) : Int32 := if t.1 = 1 then nI (tx_cnt Pa Bo t.2.1 t.2.2 n) else t.2.1
def tx_pre (Pa Bo : Nat → Int32) (s : Nat) : List tx_T := if Bo s = 1 ∧ tx_cnt Pa Bo (Pa s) 1 s = 0 then [(1, Pa s, 1)] else []
def tx_tok (So TA TB Go : Nat → Int32) (s : Nat) : List tx_T := (0, So s, 0) :: ((if So s = 0 then [(0, Go s, 0)] else []) ++ ((if So s = 3 ∨ (6 ≤ So s ∧ So s ≤ 8) then [] else [(0, TA s, 0), (0, TB s, 0)]) ++ ((if So s = 8 ∨ So s = 11 then [(0, Go s, 0)] else []) ++ (if 1 ≤ So s ∧ So s ≤ 5 then [(1, nI s, 0)] else []))))
def tx_L (So TA TB Go Pa Bo : Nat → Int32) : Nat → List tx_T
  | 0 => [(1, -1, -1)]
  | s + 1 => tx_L So TA TB Go Pa Bo s ++ (tx_pre Pa Bo s ++ tx_tok So TA TB Go s)
/-- the way up from x leads to e out of its first BODY -/
def r_an (Pa Bo : Nat → Int32) (e x : Nat) : Prop := ∃ (k : Nat) (g : Nat → Nat), k ≤ 60 ∧ g 0 = x ∧ (∀ i, i ≤ k → g i ≤ x) ∧ (∀ i, i < k → Pa (g i) = nI (g (i + 1)) ∧ g (i + 1) ≠ e) ∧ Pa (g k) = nI e ∧ Bo (g k) = 0
/-- IF ELSES: those without a second BODY so far are being read; when it begins -/
def r_Y (n d : Nat) (ow : Nat → Nat) (So Pa Bo : Nat → Int32) : Prop := (∀ e, e < n → So e = 2 → tx_cnt Pa Bo (nI e) 1 n = 0 → r_op d ow e) ∧ (∀ x, x < n → ∀ e, e < x → So e = 2 → tx_cnt Pa Bo (nI e) 1 x = 0 → (Pa x = nI e ∧ Bo x = 1) ∨ r_an Pa Bo e x) ∧ (∀ x, x < n → Bo x = 1 → ∃ e, e < x ∧ Pa x = nI e ∧ So e = 2) ∧ ∀ x, x < n → 0 ≤ So x ∧ (Pa x = -1 → Bo x = -1)
def rd_R (L : Nat) (n w j d : Int32) (t0 t1 t2 t3 t4 t5 t6 t7 : Nat → Int32) (S : x_S) : Prop := ∃ (N D : Nat) (ow hi dp kk en : Nat → Nat) (wt : Nat → Prop), n = nI N ∧ N ≤ 60 ∧ g_sc S 715 = nI N ∧ (∀ s, s < N → g_ar S 716 s = t0 s ∧ g_ar S 717 s = t1 s ∧ g_ar S 718 s = t2 s ∧ g_ar S 719 s = t3 s ∧ g_ar S 720 s = t4 s) ∧ r_I N 0 ow hi t3 t5 ∧ (r_D N 0 ow dp t3 t0 D ∧ d = nI D) ∧ j = nI (r_J t0 N) ∧ r_C L N 0 kk en wt t0 t1 t2 (fun i => g_ar S 723 i) t6 ∧ ((tx_L t0 (fun i => g_ar S 721 i) (fun i => g_ar S 722 i) (fun i => g_ar S 723 i) t3 t4 N).length ≤ 241 ∧ w = nI (tx_L t0 (fun i => g_ar S 721 i) (fun i => g_ar S 722 i) (fun i => g_ar S 723 i) t3 t4 N).length ∧ ∀ i t, (tx_L t0 (fun i => g_ar S 721 i) (fun i => g_ar S 722 i) (fun i => g_ar S 723 i) t3 t4 N)[i]? = some t → t7 i = tx_v t3 t4 N t) ∧ r_Y N 0 ow t0 t3 t4
def rd_P (L : Nat) (K A B C : Nat → Int32) (n w j d : Int32) (t0 t1 t2 t3 t4 t5 t6 t7 : Nat → Int32) : Prop := ∀ (m r : Nat) (S : x_S), 1000 ≤ m → r < 12 → g_ar S 701 r = nI L → (∀ i, i < L → g_ar S 702 (60 * r + i) = K i ∧ g_ar S 703 (60 * r + i) = A i ∧ g_ar S 704 (60 * r + i) = B i ∧ g_ar S 705 (60 * r + i) = C i) → ∃ S1, f_X7_read m S (nI r) = some S1 ∧ fr_m S S1 ∧ rd_R L n w j d t0 t1 t2 t3 t4 t5 t6 t7 S1
