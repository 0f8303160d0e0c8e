/-! ===== orders: the pure side, and the next order ===== -/
/-- all rests behind pre, of n in all, by which each next one may stand there -/
def dfs (ok : List Nat → Nat → Bool) (n : Nat) : Nat → List Nat → List (List Nat)
  | 0, _ => [[]]
  | m + 1, pre => (List.range n).flatMap (fun b => if ok pre b then (dfs ok n m (pre ++ [b])).map (fun l => b :: l) else [])
def gall (g : List Nat → Nat → Bool) : List Nat → List Nat → Bool
  | _, [] => true
  | pre, b :: l => g pre b && gall g (pre ++ [b]) l
theorem dfs_filter (ok g : List Nat → Nat → Bool) (n : Nat) : ∀ m pre, dfs (fun p b => ok p b && g p b) n m pre = (dfs ok n m pre).filter (gall g pre) := by
  intro m
  induction m with
  | zero => intro pre; rfl
  | succ m ih =>
    intro pre
    show (List.range n).flatMap _ = ((List.range n).flatMap _).filter _
    rw [List.filter_flatMap]
    congr 1
    funext b
    by_cases h1 : ok pre b = true
    · by_cases h2 : g pre b = true
      · simp only [h1, h2, Bool.and_self, ↓reduceIte, List.filter_map]
        rw [ih]
        congr 2
        funext l
        show gall g (pre ++ [b]) l = (g pre b && gall g (pre ++ [b]) l)
        rw [h2, Bool.true_and]
      · simp only [h1, h2, Bool.and_false, ↓reduceIte, List.filter_map, Bool.false_eq_true]
        symm
        rw [List.map_eq_nil_iff, List.filter_eq_nil_iff]
        intro l _
        show ¬ (g pre b && gall g (pre ++ [b]) l) = true
        simp [h2]
    · simp only [h1, Bool.false_and, ↓reduceIte, Bool.false_eq_true, List.filter_nil]
def prm (n : Nat) : List (List Nat) := dfs (fun p b => !p.contains b) n n []
def nxK (q : Nat → Nat) : Nat → Option Nat
  | 0 => none
  | k + 1 => if q (k + 1) < q k then nxK q k else some k
def nxJ (q : Nat → Nat) (k : Nat) : Nat → Nat
  | 0 => 0
  | j + 1 => if q (j + 1) < q k then nxJ q k j else j + 1
def swp (q : Nat → Nat) (a b : Nat) : Nat → Nat := fun i => if i = b then q a else if i = a then q b else q i
def nxR (q : Nat → Nat) : Nat → Nat → Nat → Nat → Nat
  | 0, _, _ => q
  | f + 1, a, b => if a < b then nxR (swp q a b) f (a + 1) (b - 1) else q
def nx (q : Nat → Nat) (n : Nat) : Option (Nat → Nat) := match nxK q (n - 1) with
  | none => none
  | some k => some (nxR (swp q k (nxJ q k (n - 1))) 5 (k + 1) (n - 1))
def nxl (n : Nat) (l : List Nat) : Option (List Nat) := (nx (fun i => l.getD i 0) n).map (fun q => (List.range n).map q)
def chn (n : Nat) : List (List Nat) → Bool
  | [] => true
  | [l] => decide (nxl n l = none)
  | l :: l' :: Ls => decide (nxl n l = some l') && chn n (l' :: Ls)
theorem prm_chain : ∀ n, n < 6 → chn n (prm n) = true := by decide +kernel
theorem prm_head : ∀ n, n < 6 → (prm n).head? = some (List.range n) := by decide +kernel
theorem prm_len : ∀ n, n < 6 → (prm n).length ≤ 120 := by decide +kernel
theorem prm_ok : ∀ n, n < 6 → ∀ l, l ∈ prm n → l.length = n ∧ (∀ p, p < n → l.getD p 0 < n ∧ l.idxOf (l.getD p 0) = p) ∧ (∀ b, b < n → l.idxOf b < n ∧ l.getD (l.idxOf b) 0 = b) := by decide +kernel
theorem exchO {S : zS} {q : Nat → Nat} {n a b : Nat} (hn : n ≤ 5) (ha : a < n) (hb : b < n) (hS : ∀ i, i < n → S.1 33 i = nI (q i)) : ∃ T, f_X12_exchangeOrder (nI a) (nI b) S = some T ∧ kp [33] S T ∧ ∀ i, i < n → T.1 33 i = nI (swp q a b i) := by
  unfold f_X12_exchangeOrder
  rw [if_pos (zinN (show a < 5 by omega) (by omega)), zlet_def, if_pos (zinN (show b < 5 by omega) (by omega)), if_pos (zinN (show a < 5 by omega) (by omega)), zlet_def, if_pos (zinN (show b < 5 by omega) (by omega)), zlet_def, nI_clamp (show a < 2 ^ 31 by omega), nI_clamp (show b < 2 ^ 31 by omega)]
  refine ⟨_, rfl, kp_trans (kp_put (by decide)) (kp_put (by decide)), fun i hi => ?_⟩
  rw [zput1_eq, zput1_eq]
  unfold swp
  by_cases h1 : i = b
  · rw [if_pos h1, h1, upd_at]; exact hS a ha
  · rw [if_neg h1, upd_ne _ _ _ _ h1]
    by_cases h2 : i = a
    · rw [if_pos h2, h2, upd_at]; exact hS b hb
    · rw [if_neg h2, upd_ne _ _ _ _ h2]; exact hS i hi
theorem revO {n : Nat} (hn : n ≤ 5) : ∀ (f a b qn : Nat) (q : Nat → Nat) (S : zS), a ≤ n → b < n → b ≤ a + f → f < qn → (∀ i, i < n → S.1 33 i = nI (q i)) → ∃ T, f_X12_nextOrder_L78 qn (nI a) (nI b) S = some (1, T) ∧ kp [33] S T ∧ ∀ i, i < n → T.1 33 i = nI (nxR q f a b i) := by
  intro f
  induction f with
  | zero =>
    intro a b qn q S ha hb hab hf hS
    obtain ⟨k, rfl⟩ : ∃ k, qn = k + 1 := ⟨qn - 1, by omega⟩
    refine ⟨S, ?_, kp_rfl _ _, hS⟩
    rw [f_X12_nextOrder_L78, if_neg (nI_nlt (by omega) (by omega))]
  | succ f ih =>
    intro a b qn q S ha hb hab hf hS
    obtain ⟨k, rfl⟩ : ∃ k, qn = k + 1 := ⟨qn - 1, by omega⟩
    rw [f_X12_nextOrder_L78]
    by_cases h : a < b
    · obtain ⟨T, eT, kT, hT⟩ := exchO hn (show a < n by omega) hb hS
      obtain ⟨c, rfl⟩ : ∃ c, b = c + 1 := ⟨b - 1, by omega⟩
      rw [if_pos (nI_lt h (by omega)), eT, zu_def, zlet_def, zlet_def, nI_1, pk_m1]
      obtain ⟨U, eU, kU, hU⟩ := ih (a + 1) c k (swp q a (c + 1)) T (by omega) (by omega) (by omega) (by omega) hT
      refine ⟨U, eU, kp_trans kT kU, fun i hi => ?_⟩
      rw [hU i hi]
      show _ = nI ((if a < c + 1 then nxR (swp q a (c + 1)) f (a + 1) (c + 1 - 1) else q) i)
      rw [if_pos h, Nat.add_sub_cancel]
    · refine ⟨S, ?_, kp_rfl _ _, fun i hi => ?_⟩
      · rw [if_neg (nI_nlt (by omega) (by omega))]
      · show _ = nI ((if a < b then nxR (swp q a b) f (a + 1) (b - 1) else q) i)
        rw [if_neg h]
        exact hS i hi
theorem jO {n k : Nat} {q : Nat → Nat} {S : zS} (hn : n ≤ 5) (hq : ∀ i, i < n → q i < 5) (hS : ∀ i, i < n → S.1 33 i = nI (q i)) (hk : k + 1 < n) (hk2 : ¬ q (k + 1) < q k) : ∀ (j fu : Nat), k + 1 ≤ j → j < n → j < fu → k + 1 ≤ nxJ q k j ∧ nxJ q k j ≤ j ∧ f_X12_nextOrder_L41 fu (nI n) (nI k) (nI j) S = zu (f_X12_exchangeOrder (nI k) (nI (nxJ q k j)) S) fun T5 => f_X12_nextOrder_L78 zN (nI (k + 1)) (nI (n - 1)) T5 := by
  intro j
  induction j with
  | zero => intro fu h1 h2; omega
  | succ j ih =>
    intro fu h1 h2 h3
    obtain ⟨g, rfl⟩ : ∃ g, fu = g + 1 := ⟨fu - 1, by omega⟩
    have e : f_X12_nextOrder_L41 (g + 1) (nI n) (nI k) (nI (j + 1)) S = if q (j + 1) < q k then f_X12_nextOrder_L41 g (nI n) (nI k) (nI j) S else zu (f_X12_exchangeOrder (nI k) (nI (j + 1)) S) fun T5 => f_X12_nextOrder_L78 zN (nI (k + 1)) (nI (n - 1)) T5 := by
      rw [f_X12_nextOrder_L41, if_pos (zinN (show j + 1 < 5 by omega) (by omega)), if_pos (zinN (show k < 5 by omega) (by omega)), nI_clamp (show j + 1 < 2 ^ 31 by omega), nI_clamp (show k < 2 ^ 31 by omega), hS (j + 1) h2, hS k (by omega), zlet_def, pk_m1]
      have hq1 := hq (j + 1) h2
      have hq2 := hq k (by omega)
      simp only [zlet_def, nI_1, nI_ltI (show q (j + 1) < 2 ^ 31 by omega) (show q k < 2 ^ 31 by omega)]
      rw [show nI n - 1 = nI (n - 1) from pk_sub (b := 1) (by omega)]
    rw [e]
    by_cases h : q (j + 1) < q k
    · have hj : k + 1 ≤ j := by
        have : j ≠ k := fun z => hk2 (z ▸ h)
        omega
      obtain ⟨a1, a2, a3⟩ := ih g hj (by omega) (by omega)
      have en : nxJ q k (j + 1) = nxJ q k j := by show (if q (j + 1) < q k then nxJ q k j else j + 1) = _; rw [if_pos h]
      rw [en, if_pos h]
      exact ⟨a1, by omega, a3⟩
    · have en : nxJ q k (j + 1) = j + 1 := by show (if q (j + 1) < q k then nxJ q k j else j + 1) = _; rw [if_neg h]
      rw [en, if_neg h]
      exact ⟨h1, Nat.le_refl _, rfl⟩
theorem kO {n : Nat} {q : Nat → Nat} {S : zS} (hn : n ≤ 5) (hq : ∀ i, i < n → q i < 5) (hS : ∀ i, i < n → S.1 33 i = nI (q i)) : ∀ (m fu : Nat), m < n → m < fu → (nxK q m = none ∧ f_X12_nextOrder_L4 fu (nI n) (nI m - 1) S = some (0, S)) ∨ ∃ k, nxK q m = some k ∧ k < m ∧ ¬ q (k + 1) < q k ∧ f_X12_nextOrder_L4 fu (nI n) (nI m - 1) S = f_X12_nextOrder_L41 zN (nI n) (nI k) (nI (n - 1)) S := by
  intro m
  induction m with
  | zero =>
    intro fu h1 h2
    obtain ⟨g, rfl⟩ : ∃ g, fu = g + 1 := ⟨fu - 1, by omega⟩
    refine Or.inl ⟨rfl, ?_⟩
    have h0 : nI 0 - 1 < 0 := by decide
    rw [f_X12_nextOrder_L4, if_pos h0]
    unfold f_X12_nextOrder_B31
    rw [if_pos h0]
  | succ m ih =>
    intro fu h1 h2
    obtain ⟨g, rfl⟩ : ∃ g, fu = g + 1 := ⟨fu - 1, by omega⟩
    have hq1 := hq (m + 1) h1
    have hq2 := hq m (by omega)
    have e : f_X12_nextOrder_L4 (g + 1) (nI n) (nI (m + 1) - 1) S = if q (m + 1) < q m then f_X12_nextOrder_L4 g (nI n) (nI m - 1) S else f_X12_nextOrder_L41 zN (nI n) (nI m) (nI (n - 1)) S := by
      rw [nI_pred, f_X12_nextOrder_L4, if_neg (nI_not_neg (by omega)), if_pos (zinN (show m < 5 by omega) (by omega)), nI_1, if_pos (zinN (show m + 1 < 5 by omega) (by omega)), nI_clamp (show m < 2 ^ 31 by omega), nI_clamp (show m + 1 < 2 ^ 31 by omega), hS m (by omega), hS (m + 1) h1, zlet_def, show nI m + -1 = nI m - 1 from (Int32.sub_eq_add_neg _ _).symm]
      unfold f_X12_nextOrder_B31
      rw [if_neg (nI_not_neg (by omega)), zlet_def, show nI n - 1 = nI (n - 1) from pk_sub (b := 1) (by omega)]
      simp only [nI_ltI (show q (m + 1) < 2 ^ 31 by omega) (show q m < 2 ^ 31 by omega)]
    rw [e]
    by_cases h : q (m + 1) < q m
    · have en : nxK q (m + 1) = nxK q m := by show (if q (m + 1) < q m then nxK q m else some m) = _; rw [if_pos h]
      rw [en, if_pos h]
      rcases ih g (by omega) (by omega) with ⟨a1, a2⟩ | ⟨k, a1, a2, a3, a4⟩
      · exact Or.inl ⟨a1, a2⟩
      · exact Or.inr ⟨k, a1, by omega, a3, a4⟩
    · have en : nxK q (m + 1) = some m := by show (if q (m + 1) < q m then nxK q m else some m) = _; rw [if_neg h]
      rw [en, if_neg h]
      exact Or.inr ⟨m, rfl, by omega, h, rfl⟩
theorem nextM {n : Nat} {q : Nat → Nat} {S : zS} (hn : n ≤ 5) (hq : ∀ i, i < n → q i < 5) (hS : ∀ i, i < n → S.1 33 i = nI (q i)) : (nx q n = none ∧ f_X12_nextOrder (nI n) S = some (0, S)) ∨ ∃ q' T, nx q n = some q' ∧ f_X12_nextOrder (nI n) S = some (1, T) ∧ kp [33] S T ∧ ∀ i, i < n → T.1 33 i = nI (q' i) := by
  unfold f_X12_nextOrder
  rw [zlet_def]
  by_cases h0 : n = 0
  · subst h0
    left
    refine ⟨rfl, ?_⟩
    have h2 : nI 0 - 2 < 0 := by decide
    rw [show zN = 9999 + 1 from rfl, f_X12_nextOrder_L4, if_pos h2]
    unfold f_X12_nextOrder_B31
    rw [if_pos h2]
  · have e2 : nI n - 2 = nI (n - 1) - 1 := by
      obtain ⟨m, rfl⟩ : ∃ m, n = m + 1 := ⟨n - 1, by omega⟩
      rw [show m + 1 - 1 = m by omega, ← nI_pred m]
      generalize nI (m + 1) = x
      rw [Int32.sub_sub]
      rfl
    rw [e2]
    rcases kO hn hq hS (n - 1) zN (by omega) (by show n - 1 < 10000; omega) with ⟨a1, a2⟩ | ⟨k, a1, a2, a3, a4⟩
    · left
      exact ⟨by unfold nx; rw [a1], a2⟩
    · right
      obtain ⟨b1, b2, b3⟩ := jO hn hq hS (show k + 1 < n by omega) a3 (n - 1) zN (by omega) (by omega) (by show n - 1 < 10000; omega)
      obtain ⟨T, eT, kT, hT⟩ := exchO hn (show k < n by omega) (show nxJ q k (n - 1) < n by omega) hS
      obtain ⟨U, eU, kU, hU⟩ := revO hn 5 (k + 1) (n - 1) zN (swp q k (nxJ q k (n - 1))) T (by omega) (by omega) (by omega) (by decide) hT
      refine ⟨_, U, ?_, ?_, kp_trans kT kU, hU⟩
      · unfold nx; rw [a1]
      · rw [a4, b3, eT, zu_def, eU]
