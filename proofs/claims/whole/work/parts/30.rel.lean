/-! ===== what ties the two stores together ===== -/
/-- the tape: n bytes told; every place holds the same byte on both sides -/
def rT (xt mt : Int32) (X M : Nat → Int32) : Prop := (∃ n : Nat, n ≤ 1600 ∧ xt = nI n ∧ mt = nI n) ∧ ∀ i, i < 1600 → ∃ c : Nat, c < 256 ∧ M i = nI c ∧ X i = (nI c).toInt8.toInt32
/-- what lies there -/
def rL (xn mn : Int32) (X M : Nat → Int32) : Prop := ∃ n : Nat, n ≤ 3 ∧ xn = nI n ∧ mn = nI n ∧ ∀ i, i < n → X i = M i
/-- a ring: bill a told against b, ahead or behind, told at t, untold at u (or -1) -/
def rR1 (a b : Nat) (ah : Bool) (t : Nat) (u : Int32) : Prop := a < 5 ∧ b < 5 ∧ a ≠ b ∧ t ≤ 100000 ∧ (u = -1 ∨ ∃ v : Nat, v ≤ 100000 ∧ u = nI v)
def rR (xn xt mn mt : Int32) (X48 X49 X50 X51 M28 M29 M30 M31 M32 : Nat → Int32) : Prop := (∃ t : Nat, t ≤ 100000 ∧ xt = nI t ∧ mt = nI t) ∧ ∃ n : Nat, n ≤ 30 ∧ xn = nI n ∧ mn = nI n ∧
  ∀ i, i < n → ∃ (a b : Nat) (ah : Bool) (t : Nat) (u : Int32), rR1 a b ah t u ∧ M28 i = nI a ∧ M29 i = nI b ∧ M32 i = (if ah then 1 else 0) ∧ M30 i = nI t ∧ M31 i = u ∧ X48 i = nI (if ah then a else b) ∧ X49 i = nI (if ah then b else a) ∧ X50 i = nI t ∧ X51 i = u
/-! the growth formula: the class's code, told by what it pushes, asks, does -/
def mstep (c : Int32) : Int32 := if ¬ c < 0 then 0 else if ¬ c < -5 then 1 else if c = -6 then 2 else 3
def marg (c : Int32) : Int32 := if ¬ c < 0 then c else if ¬ c < -5 then -1 - c else if c = -6 then 0 else
  if c = -7 then 124 else if c = -8 then 38 else if c = -9 then 60 else if c = -10 then 62 else if c = -11 then 61 else if c = -12 then 43 else if c = -13 then 45 else if c = -14 then 42 else if c = -15 then 47 else 37
/-- how many values stand behind the first i steps -/
def fdep (C : Nat → Int32) : Nat → Int
  | 0 => 0
  | i + 1 => fdep C i + (if ¬ C i < -5 then 1 else if C i = -6 then 0 else -1)
def rFm (xu xl mu ml mg : Int32) (X M5 M6 : Nat → Int32) : Prop := ∃ len un : Nat, len ≤ 272 ∧ un ≤ 60 ∧ xu = nI un ∧ mu = nI un ∧ xl = nI len ∧ ml = nI len ∧ mg = (if len = 0 then 0 else 1) ∧ (len ≠ 0 → fdep X len = 1) ∧
  ∀ i, i < len → M5 i = mstep (X i) ∧ M6 i = marg (X i) ∧ (∃ v : Int, X i = Int32.ofInt v ∧ -16 ≤ v ∧ v ≤ 9999) ∧ 0 ≤ fdep X i ∧ fdep X i ≤ 30 ∧ (X i = -6 → 1 ≤ fdep X i) ∧ (X i < -6 → 2 ≤ fdep X i)
/-- a small number, told as an int of the machine -/
def isI (lo hi : Int) (x : Int32) : Prop := ∃ v : Int, lo ≤ v ∧ v ≤ hi ∧ x = Int32.ofInt v
/-- the hedge that was told -/
def rH (st pl tp pa : Nat) (X5 X6 X7 X8 : Nat → Int32) (mst mpl mtp mpa mfr mfo : Int32) (M11 M14 M15 M17 : Nat → Int32) : Prop :=
  2 ≤ st ∧ st ≤ 12 ∧ pl ≤ 4 ∧ tp ≤ 4 ∧ pa ≤ 3 ∧ X5 0 = nI st ∧ mst = nI st ∧ X5 1 = nI pl ∧ mpl = nI pl ∧ X5 2 = nI tp ∧ mtp = nI tp ∧ X5 3 = nI pa ∧ mpa = nI pa ∧
  isI 0 100 mfr ∧ X5 9 = mfr ∧ isI 1 99 mfo ∧ X5 10 = mfo ∧ (∃ hb : Nat, hb < 16 ∧ X5 6 = nI hb ∧ ∀ p, p < pl → M17 p = if hb.testBit p then 1 else 0) ∧
  (∀ p, p < pl → isI 1 99 (M11 p) ∧ X6 p = M11 p) ∧ ∀ p t, p < pa → t < tp → isI 0 9 (M15 (4 * p + t)) ∧ X8 (4 * p + t) = M15 (4 * p + t) ∧ (M15 (4 * p + t) ≠ 0 → isI (-9) 9 (M14 (4 * p + t)) ∧ X7 (4 * p + t) = M14 (4 * p + t))
/-- a state of the bills, as the reference keeps it: c of them -/
def okN (st pl tp c : Nat) (N : Nat → Int32) : Prop := c ≤ 12 ∧ N 96 = nI c ∧ isI 0 999 (N 97) ∧ isI 0 999 (N 98) ∧ ∀ b, b < c → isI 0 99 (N (8 * b)) ∧ (∃ s : Nat, s < st ∧ N (8 * b + 2) = nI s) ∧ (∃ p : Nat, p < pl ∧ N (8 * b + 3) = nI p) ∧ isI (-1) (tp - 1) (N (8 * b + 4)) ∧ isI (-9) 9 (N (8 * b + 5)) ∧ isI (-1) (b - 1) (N (8 * b + 6)) ∧ isI (-1) (b - 1) (N (8 * b + 7))
/-- the class's row of what changes, and its rows of what stays, of such a state -/
def rG (c : Nat) (N row : Nat → Int32) : Prop := row 0 = N 96 ∧ row 1 = N 97 ∧ row 2 = N 98 ∧ ∀ b, b < c → row (3 + b) = N (8 * b) ∧ row (15 + b) = N (8 * b + 1)
def rB (c : Nat) (N sk pl tp sy am rp : Nat → Int32) : Prop := ∀ b, b < c → sk b = N (8 * b + 2) ∧ pl b = N (8 * b + 3) ∧ tp b = N (8 * b + 4) ∧ sy b = N (8 * b + 5) ∧ am b = N (8 * b + 6) ∧ rp b = N (8 * b + 7)
/-- the order of reading: by stake, then by number -/
def ordF (sk : Nat → Int32) : List Nat := (List.range 12).flatMap (fun s => (List.range 12).filter (fun b => sk b = nI s))
def rO (sk sp : Nat → Int32) : Prop := (∀ b, b < 12 → ∃ s : Nat, s < 12 ∧ sk b = nI s) ∧ ∀ b, b < 12 → ∃ s : Nat, s < 12 ∧ sp b = nI s
/-- now, and the states before and behind it -/
def rA (st pl tp : Nat) (X37 X38 X39 X14 X15 X16 X17 X18 X19 X20 X43 X44 M19 M21 : Nat → Int32) (ma mu : Int32) : Prop := ∃ (d u f : Nat) (h : Nat → Nat → Int32) (c : Nat → Nat), d + u ≤ 40 ∧ f < 41 ∧ X43 0 = nI d ∧ X43 1 = nI u ∧ X43 2 = nI f ∧ ma = nI d ∧ mu = nI u ∧
  (∀ j, j ≤ d + u → okN st pl tp (c j) (h j) ∧ rG (c j) (h j) (fun i => X44 (((f + j) % 41) * 27 + i)) ∧ rB (c j) (h j) X14 X15 X16 X17 X18 X19) ∧
  (∀ i j, i ≤ j → j ≤ d + u → c i ≤ c j) ∧ (∀ i, i < 99 → M19 i = h d i) ∧ rG (c d) (h d) (fun i => if i < 3 then X37 i else if i < 15 then X38 (i - 3) else X39 (i - 15)) ∧
  (∀ j i, j < d → i < 99 → M21 (99 * j + i) = h j i) ∧ (∀ j i, d ≤ j → j < d + u → i < 99 → M21 (99 * j + i) = h (j + 1) i) ∧ ((∀ i, i < 12 → X20 i = nI ((ordF X14).getD i 0)) ∨ c (d + u) = 0)
/-- the boxes -/
def rI (st pl tp : Nat) (xf : Int32) (X46 M36 M37 : Nat → Int32) : Prop := ∃ fb : Nat, fb < 8 ∧ xf = nI fb ∧ ∀ k, k < 3 → M36 k = (if fb.testBit k then 1 else 0) ∧ (fb.testBit k = true → ∃ (c : Nat) (N : Nat → Int32), okN st pl tp c N ∧ (∀ i, i < 99 → M37 (99 * k + i) = N i) ∧
  rB c N (fun b => X46 (99 * k + b)) (fun b => X46 (99 * k + 12 + b)) (fun b => X46 (99 * k + 24 + b)) (fun b => X46 (99 * k + 36 + b)) (fun b => X46 (99 * k + 48 + b)) (fun b => X46 (99 * k + 60 + b)) ∧ rG c N (fun i => X46 (99 * k + 72 + i)) ∧ ∀ b, b < 12 → ∃ s : Nat, s < 12 ∧ X46 (99 * k + b) = nI s)
def zRel (X M : zS) : Prop := rT (X.1 0 1) (M.1 0 1) (X.1 1) (M.1 1) ∧ (X.1 2 0 = M.1 0 2 ∧ X.1 2 1 = M.1 0 3) ∧ rL (X.1 0 15) (M.1 0 60) (X.1 66) (M.1 23) ∧
  rR (X.1 47 0) (X.1 47 1) (M.1 0 72) (M.1 0 73) (X.1 48) (X.1 49) (X.1 50) (X.1 51) (M.1 28) (M.1 29) (M.1 30) (M.1 31) (M.1 32) ∧
  rFm (X.1 9 0) (X.1 9 1) (M.1 0 21) (M.1 0 18) (M.1 0 52) (X.1 10) (M.1 5) (M.1 6) ∧ (∀ i, i < 24 → X.2 4 i = zres.getD i 0) ∧ rO (X.1 14) (X.1 30) ∧
  ∃ st pl tp pa : Nat, rH st pl tp pa (X.1 5) (X.1 6) (X.1 7) (X.1 8) (M.1 0 42) (M.1 0 43) (M.1 0 44) (M.1 0 45) (M.1 0 46) (M.1 0 47) (M.1 11) (M.1 14) (M.1 15) (M.1 17) ∧
    rA st pl tp (X.1 37) (X.1 38) (X.1 39) (X.1 14) (X.1 15) (X.1 16) (X.1 17) (X.1 18) (X.1 19) (X.1 20) (X.1 43) (X.1 44) (M.1 19) (M.1 21) (M.1 0 56) (M.1 0 57) ∧ rI st pl tp (X.1 45 0) (X.1 46) (M.1 36) (M.1 37)
/-! reading what was written -/
theorem zput1 (S : zS) (k i k' i' : Nat) (x : Int32) : (zput S k i x).1 k' i' = if k' = k ∧ i' = i then x else S.1 k' i' := by
  show (if k' = k then upd (S.1 k) i x else S.1 k') i' = _
  by_cases h : k' = k
  · subst h
    rw [if_pos rfl]
    show (if i' = i then x else S.1 k' i') = _
    by_cases h2 : i' = i
    · rw [if_pos h2, if_pos ⟨rfl, h2⟩]
    · rw [if_neg h2, if_neg (fun z => h2 z.2)]
  · rw [if_neg h, if_neg (fun z => h z.1)]
theorem zput1_ne (S : zS) (k i k' : Nat) (x : Int32) (h : k' ≠ k) : (zput S k i x).1 k' = S.1 k' := (zput_o S k i x k' h).1
theorem zput1_eq (S : zS) (k i : Nat) (x : Int32) : (zput S k i x).1 k = upd (S.1 k) i x := zput_s S k i x
theorem zput2 (S : zS) (k i : Nat) (x : Int32) : (zput S k i x).2 = S.2 := rfl
theorem zputL1 (S : zS) (k i : Nat) (x : Int64) : (zputL S k i x).1 = S.1 := rfl
theorem upd_at (f : Nat → Int32) (k : Nat) (x : Int32) : upd f k x k = x := if_pos rfl
theorem upd_ne (f : Nat → Int32) (k j : Nat) (x : Int32) (h : j ≠ k) : upd f k x j = f j := if_neg h
/-! ints of the machine against numbers -/
theorem nI_neg1 {n : Nat} (h : n < 2 ^ 31) : ¬ nI n = -1 := fun e => by
  have := congrArg Int32.toInt e
  rw [nI_toInt h] at this
  have h2 : (-1 : Int32).toInt = -1 := by decide
  rw [h2] at this
  omega
theorem nI_not_neg {n : Nat} (h : n < 2 ^ 31) : ¬ nI n < 0 := nI_pos h
