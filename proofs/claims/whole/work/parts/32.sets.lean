/-! rows on bits, shifts and unsigned numbers, to paste: each family out of a closed proof of our own, whole with what it rests on; each by itself clean at Lean in its own claim (generation 39, form 5). Take a family whole -/
/-! ===== Int32 by its bits: bt x i ===== -/
def bt (x : Int32) (i : Nat) : Bool := x.toBitVec.getLsbD i
theorem b_ext {x y : Int32} (h : ∀ i, i < 32 → bt x i = bt y i) : x = y := Int32.toBitVec_inj.mp (BitVec.eq_of_getLsbD_eq (fun i hi => h i hi))
theorem b_or (x y : Int32) (i : Nat) : bt (x ||| y) i = (bt x i || bt y i) := by unfold bt; rw [Int32.toBitVec_or, BitVec.getLsbD_or]
theorem b_and (x y : Int32) (i : Nat) : bt (x &&& y) i = (bt x i && bt y i) := by unfold bt; rw [Int32.toBitVec_and, BitVec.getLsbD_and]
theorem b_xor (x y : Int32) (i : Nat) : bt (x ^^^ y) i = (bt x i ^^ bt y i) := by unfold bt; rw [Int32.toBitVec_xor, BitVec.getLsbD_xor]
theorem b_big {x : Int32} {i : Nat} (h : 32 ≤ i) : bt x i = false := BitVec.getLsbD_of_ge _ _ h
theorem b_255 (i : Nat) : bt 255 i = decide (i < 8) := by
  rcases Nat.lt_or_ge i 32 with h | h
  · exact (by decide +kernel : ∀ i, i < 32 → bt 255 i = decide (i < 8)) i h
  · rw [b_big h, decide_eq_false (by omega)]
theorem b_65535 (i : Nat) : bt 65535 i = decide (i < 16) := by
  rcases Nat.lt_or_ge i 32 with h | h
  · exact (by decide +kernel : ∀ i, i < 32 → bt 65535 i = decide (i < 16)) i h
  · rw [b_big h, decide_eq_false (by omega)]
theorem b_m1 : ∀ i, i < 32 → bt (-1) i = true := by decide +kernel
theorem b_0 (i : Nat) : bt 0 i = false := BitVec.getLsbD_zero
theorem s_l : ∀ n, n < 32 → ((nI n &&& 31).toBitVec.smod 32).toNat = n := by decide +kernel
theorem s_u : ∀ n, n < 32 → (((nI n).toUInt32 &&& Int32.toUInt32 31).toBitVec % 32).toNat = n := by decide +kernel
theorem b_shl (n : Nat) (hn : n < 32) (x : Int32) {i : Nat} (hi : i < 32) : bt (x <<< (nI n &&& 31)) i = (decide (n ≤ i) && bt x (i - n)) := by
  unfold bt
  rw [Int32.toBitVec_shiftLeft]
  show (x.toBitVec <<< ((nI n &&& 31).toBitVec.smod 32).toNat).getLsbD i = _
  rw [s_l n hn, BitVec.getLsbD_shiftLeft]
  rcases Nat.lt_or_ge i n with h | h
  · simp [h, Nat.not_le.mpr h]
  · simp [hi, h, Nat.not_lt.mpr h]
theorem b_ushr (n : Nat) (hn : n < 32) (x : Int32) (i : Nat) : bt ((x.toUInt32 >>> ((nI n).toUInt32 &&& Int32.toUInt32 31)).toInt32) i = bt x (n + i) := by
  show (x.toUInt32 >>> ((nI n).toUInt32 &&& Int32.toUInt32 31)).toBitVec.getLsbD i = x.toUInt32.toBitVec.getLsbD (n + i)
  rw [UInt32.toBitVec_shiftRight]
  show (x.toUInt32.toBitVec >>> (((nI n).toUInt32 &&& Int32.toUInt32 31).toBitVec % 32).toNat).getLsbD i = _
  rw [s_u n hn, BitVec.getLsbD_ushiftRight]
theorem b_sshr (n : Nat) (hn : n < 32) (x : Int32) {i : Nat} (hi : i < 32) : bt (x >>> (nI n &&& 31)) i = if n + i < 32 then bt x (n + i) else bt x 31 := by
  unfold bt
  rw [Int32.toBitVec_shiftRight]
  show (x.toBitVec.sshiftRight ((nI n &&& 31).toBitVec.smod 32).toNat).getLsbD i = _
  rw [s_l n hn, BitVec.getLsbD_sshiftRight, BitVec.msb_eq_getLsbD_last]
  simp [hi]
/-! ===== sets of bits, folds, loops ===== -/
def foldN {α : Type} (g : α → Nat → α) : Nat → Nat → α → α
  | _, 0, acc => acc
  | b, m + 1, acc => foldN g (b + 1) m (g acc b)
theorem foldN_snoc {α : Type} (g : α → Nat → α) : ∀ (m b : Nat) (acc : α), foldN g b (m + 1) acc = g (foldN g b m acc) (b + m)
  | 0, b, acc => rfl
  | m + 1, b, acc => by
    show foldN g (b + 1) (m + 1) (g acc b) = g (foldN g (b + 1) m (g acc b)) (b + (m + 1))
    rw [foldN_snoc g m (b + 1) (g acc b), show b + 1 + m = b + (m + 1) by omega]
theorem foldN_congr {α : Type} {g g' : α → Nat → α} : ∀ (m b : Nat) (acc : α), (∀ (a : α) (i : Nat), b ≤ i → i < b + m → g a i = g' a i) → foldN g b m acc = foldN g' b m acc
  | 0, _, _, _ => rfl
  | m + 1, b, acc, h => by
    show foldN g (b + 1) m (g acc b) = foldN g' (b + 1) m (g' acc b)
    rw [h acc b (Nat.le_refl _) (by omega)]
    exact foldN_congr m (b + 1) _ (fun a i h1 h2 => h a i (by omega) (by omega))
theorem foldN_id {α : Type} {g : α → Nat → α} : ∀ (m b : Nat) (acc : α), (∀ (a : α) (i : Nat), b ≤ i → i < b + m → g a i = a) → foldN g b m acc = acc
  | 0, _, _, _ => rfl
  | m + 1, b, acc, h => by
    show foldN g (b + 1) m (g acc b) = acc
    rw [h acc b (Nat.le_refl _) (by omega)]
    exact foldN_id m (b + 1) acc (fun a i h1 h2 => h a i (by omega) (by omega))
theorem foldN_add {α : Type} (g : α → Nat → α) : ∀ (m k b : Nat) (acc : α), foldN g b (m + k) acc = foldN g (b + m) k (foldN g b m acc)
  | 0, k, b, acc => by rw [Nat.zero_add]; rfl
  | m + 1, k, b, acc => by
    rw [show m + 1 + k = (m + k) + 1 by omega]
    show foldN g (b + 1) (m + k) (g acc b) = foldN g (b + (m + 1)) k (foldN g (b + 1) m (g acc b))
    rw [foldN_add g m k (b + 1), show b + 1 + m = b + (m + 1) by omega]
/-- a loop over b = 0 .. c - 1 that changes one number, the store untouched -/
theorem loopN {f : Nat → Int32 → Int32 → zS → zO} {S : zS} {g : Int32 → Nat → Int32} {c : Nat} (h1 : ∀ n acc b, b < c → f (n + 1) acc (nI b) S = f n (g acc b) (nI (b + 1)) S) (h2 : ∀ n acc, f (n + 1) acc (nI c) S = some (acc, S)) : ∀ (m b n : Nat) (acc : Int32), b + m = c → m < n → f n acc (nI b) S = some (foldN g b m acc, S) := by
  intro m
  induction m with
  | zero =>
    intro b n acc hb hn
    obtain ⟨k, rfl⟩ : ∃ k, n = k + 1 := ⟨n - 1, by omega⟩
    have : b = c := by omega
    subst this
    exact h2 k acc
  | succ m ih =>
    intro b n acc hb hn
    obtain ⟨k, rfl⟩ : ∃ k, n = k + 1 := ⟨n - 1, by omega⟩
    rw [h1 k acc b (by omega), ih (b + 1) k _ (by omega) (by omega)]
    rfl
theorem b_one (j : Nat) : bt 1 j = decide (j = 0) := by
  by_cases h : j < 32
  · exact (by decide +kernel : ∀ j, j < 32 → bt 1 j = decide (j = 0)) j h
  · rw [b_big (by omega)]
    simp; omega
theorem b_bit {b i : Nat} (hb : b < 32) (hi : i < 32) : bt (1 <<< (nI b &&& 31)) i = decide (i = b) := by
  rw [b_shl b hb 1 hi, b_one]
  by_cases h : b ≤ i
  · simp only [h, decide_true, Bool.true_and]
    congr 1
    exact propext (by omega)
  · simp only [h, decide_false, Bool.false_and]
    symm
    simp
    omega
/-- the bit at b, as the machine asks for it -/
theorem b_ask (x : Int32) {b : Nat} (hb : b < 31) : (x >>> (nI b &&& 31)) &&& 1 = if bt x b then 1 else 0 := by
  refine b_ext fun i hi => ?_
  rw [b_and, b_sshr b (by omega) x hi, b_one]
  by_cases h0 : i = 0
  · subst h0
    rw [if_pos (by omega)]
    simp only [Nat.add_zero, decide_true, Bool.and_true]
    cases bt x b <;> rfl
  · simp only [h0, decide_false, Bool.and_false]
    cases bt x b
    · exact (b_0 i).symm
    · show false = bt 1 i
      rw [b_one]; simp [h0]
theorem b_ask0 (x : Int32) {b : Nat} (hb : b < 31) : ((x >>> (nI b &&& 31)) &&& 1 = 0) = (bt x b = false) := by
  rw [b_ask x hb]
  cases bt x b <;> simp
theorem b_ask1 (x : Int32) {b : Nat} (hb : b < 31) : ((x >>> (nI b &&& 31)) &&& 1 = 1) = (bt x b = true) := by
  rw [b_ask x hb]
  cases bt x b <;> simp
def stF (p : Nat → Bool) (acc : Int32) (b : Nat) : Int32 := if p b then acc ||| (1 <<< (nI b &&& 31)) else acc
/-- the set of the numbers below c of which p holds -/
def mkS (p : Nat → Bool) (c : Nat) : Int32 := foldN (stF p) 0 c 0
theorem bt_mkS (p : Nat → Bool) {i : Nat} (hi : i < 32) : ∀ c, c ≤ 32 → bt (mkS p c) i = (decide (i < c) && p i) := by
  intro c
  induction c with
  | zero => intro _; rw [show mkS p 0 = 0 from rfl, b_0]; simp
  | succ c ih =>
    intro hc
    rw [mkS, foldN_snoc, Nat.zero_add]
    show bt (if p c then mkS p c ||| (1 <<< (nI c &&& 31)) else mkS p c) i = _
    by_cases hp : p c = true
    · rw [if_pos hp, b_or, ih (by omega), b_bit (by omega) hi]
      by_cases h1 : i = c
      · subst h1; simp [hp]
      · have h2 : (i < c + 1) = (i < c) := propext (by omega)
        simp [h1, h2]
    · rw [if_neg hp, ih (by omega)]
      by_cases h1 : i = c
      · subst h1; simp [hp]
      · have h2 : (i < c + 1) = (i < c) := propext (by omega)
        simp [h2]
theorem mkS_of {x : Int32} {p : Nat → Bool} {c : Nat} (hc : c ≤ 32) (h : ∀ i, i < 32 → bt x i = (decide (i < c) && p i)) : x = mkS p c := b_ext fun i hi => by rw [h i hi, bt_mkS p hi c hc]
theorem mkS_congr {p q : Nat → Bool} {c : Nat} (h : ∀ b, b < c → p b = q b) : mkS p c = mkS q c := foldN_congr c 0 0 fun a i _ hi => by
  unfold stF
  rw [h i (by omega)]
/-! what lives, what is repealed, what stands -/
def repS (lv : Nat → Bool) (rp : Nat → Int32) (c : Nat) : Int32 := foldN (fun acc b => if lv b = true ∧ ¬ rp b < 0 then acc ||| (1 <<< (rp b &&& 31)) else acc) 0 c 0
def stdS (lv : Nat → Bool) (am rp : Nat → Int32) (c : Nat) : Int32 := foldN (fun acc b => if bt (mkS lv c &&& (repS lv rp c ^^^ (-1))) b = true ∧ (am b < 0 ∨ (acc >>> (am b &&& 31)) &&& 1 = 1) then acc ||| (1 <<< (nI b &&& 31)) else acc) 0 c 0
theorem and1_01 (x : Int32) : x &&& 1 = 0 ∨ x &&& 1 = 1 := by
  cases h : bt x 0 with
  | true =>
    right
    refine b_ext fun i _ => ?_
    rw [b_and, b_one]
    by_cases h0 : i = 0
    · subst h0; simp [h]
    · simp [h0]
  | false =>
    left
    refine b_ext fun i _ => ?_
    rw [b_and, b_one, b_0]
    by_cases h0 : i = 0
    · subst h0; simp [h]
    · simp [h0]
theorem and1_ne (x : Int32) : (¬ x &&& 1 = 0) = (x &&& 1 = 1) := by
  rcases and1_01 x with h | h
  · rw [h]; simp
  · rw [h]; simp
theorem and1_ne1 (x : Int32) : (¬ x &&& 1 = 1) = (x &&& 1 = 0) := by
  rcases and1_01 x with h | h
  · rw [h]; simp
  · rw [h]; simp
theorem repX {S : zS} {lv : Nat → Bool} {rp : Nat → Int32} {c : Nat} (hc : c ≤ 12) {x : Int32} (hx : ∀ i, i < 32 → bt x i = (decide (i < c) && lv i)) (hr : ∀ b, b < c → S.1 19 b = rp b) : f_X1_repealedBy_13 x S = some (repS lv rp c, S) := by
  have h := loopN (f := fun n acc b S => f_X1_repealedBy_13_L4 n x acc b S) (S := S) (c := 12) (g := fun acc b => if b < c ∧ lv b = true ∧ ¬ rp b < 0 then acc ||| (1 <<< (rp b &&& 31)) else acc) (fun n acc b hb => by
    have h12 : nI b < 12 := nI_lt (b := 12) hb (by omega)
    have hz : zin (nI b) 12 = True := zin_T hb (by omega)
    show f_X1_repealedBy_13_L4 (n + 1) x acc (nI b) S = _
    rw [f_X1_repealedBy_13_L4]
    simp only [h12, hz, ↓reduceIte, zlet_def, nI_1, b_ask0 x (show b < 31 by omega), hx b (by omega), nI_clamp (show b < 2 ^ 31 by omega)]
    by_cases hbc : b < c
    · rw [hr b hbc]
      cases hl : lv b with
      | false => simp [hbc]
      | true =>
        by_cases hn : rp b < 0
        · simp [hbc, hn]
        · simp [hbc, hn]
    · simp [hbc]) (fun n acc => by
    show f_X1_repealedBy_13_L4 (n + 1) x acc (nI 12) S = _
    rw [f_X1_repealedBy_13_L4, if_neg (by decide)]) 12 0 zN 0 rfl (by decide)
  rw [show f_X1_repealedBy_13 x S = f_X1_repealedBy_13_L4 zN x 0 (nI 0) S from rfl]
  refine h.trans ?_
  refine congrArg (fun z => some (z, S)) ?_
  rw [show (12 : Nat) = c + (12 - c) by omega, foldN_add, Nat.zero_add, foldN_id (12 - c) c _ (fun a i h1 h2 => if_neg (by omega))]
  exact foldN_congr c 0 0 fun a i _ hi => by simp [show i < c by omega]
theorem stdX {S : zS} {lv : Nat → Bool} {am rp : Nat → Int32} {c : Nat} (hc : c ≤ 12) {x : Int32} (hx : ∀ i, i < 32 → bt x i = (decide (i < c) && lv i)) (hr : ∀ b, b < c → S.1 19 b = rp b) (ha : ∀ b, b < c → S.1 18 b = am b) : f_X1_standing_13 x S = some (stdS lv am rp c, S) := by
  unfold f_X1_standing_13
  rw [repX hc hx hr, zb_def, zlet_def, mkS_of (show c ≤ 32 by omega) hx]
  have hm : ∀ i, i < 32 → c ≤ i → bt (mkS lv c &&& (repS lv rp c ^^^ (-1))) i = false := fun i hi hci => by
    rw [b_and, bt_mkS lv hi c (by omega)]
    simp [show ¬ i < c by omega]
  generalize hM : mkS lv c &&& (repS lv rp c ^^^ (-1)) = M at hm ⊢
  have h := loopN (f := fun n acc b S => f_X1_standing_13_L15 n M acc b S) (S := S) (c := 12) (g := fun acc b => if b < c ∧ bt M b = true ∧ (am b < 0 ∨ (acc >>> (am b &&& 31)) &&& 1 = 1) then acc ||| (1 <<< (nI b &&& 31)) else acc) (fun n acc b hb => by
    have h12 : nI b < 12 := nI_lt (b := 12) hb (by omega)
    have hz : zin (nI b) 12 = True := zin_T hb (by omega)
    show f_X1_standing_13_L15 (n + 1) M acc (nI b) S = _
    rw [f_X1_standing_13_L15]
    simp only [h12, hz, ↓reduceIte, zlet_def, nI_1, b_ask0 M (show b < 31 by omega), nI_clamp (show b < 2 ^ 31 by omega), f_X1_standing_13_B55]
    by_cases hbc : b < c
    · rw [ha b hbc]
      cases hl : bt M b with
      | false => simp
      | true =>
        by_cases hn : am b < 0
        · simp [hbc, hn]
        · by_cases h1 : (acc >>> (am b &&& 31)) &&& 1 = 0
          · simp [hbc, hn, h1]
          · have h2 := (and1_ne _).mp h1
            simp [hbc, hn, h2]
    · rw [hm b (by omega) (by omega)]
      simp [hbc]) (fun n acc => by
    show f_X1_standing_13_L15 (n + 1) M acc (nI 12) S = _
    rw [f_X1_standing_13_L15, if_neg (by decide)]) 12 0 zN 0 rfl (by decide)
  refine h.trans ?_
  refine congrArg (fun z => some (z, S)) ?_
  rw [show (12 : Nat) = c + (12 - c) by omega, foldN_add, Nat.zero_add, foldN_id (12 - c) c _ (fun a i h1 h2 => if_neg (by omega))]
  unfold stdS
  rw [hM]
  exact foldN_congr c 0 0 fun a i _ hi => by simp [show i < c by omega]
