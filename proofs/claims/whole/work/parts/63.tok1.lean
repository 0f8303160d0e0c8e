/-! ===== bytes, words ===== -/
/-- a byte as the class's tape gives it -/
def bI (c : Nat) : Int32 := (nI c).toInt8.toInt32
theorem bI_32 : ∀ c, c < 256 → (bI c = 32 ↔ c = 32) := by decide +kernel
theorem bI_10 : ∀ c, c < 256 → (bI c = 10 ↔ c = 10) := by decide +kernel
def isLt (c : Nat) : Bool := decide (97 ≤ c) && decide (c ≤ 122)
def isDg (c : Nat) : Bool := decide (48 ≤ c) && decide (c ≤ 57)
def sgs : List Nat := [59, 40, 41, 60, 62, 61, 43, 45, 42, 47, 37]
theorem bI_lt : ∀ c, c < 256 → ((bI c < 97 ∨ 122 < bI c) ↔ isLt c = false) := by decide +kernel
theorem bI_dg : ∀ c, c < 256 → ((bI c < 48 ∨ 57 < bI c) ↔ isDg c = false) := by decide +kernel
theorem nI_ltr : ∀ c, c < 256 → ((nI c < 97 ∨ 122 < nI c) ↔ isLt c = false) := by decide +kernel
theorem nI_dgt : ∀ c, c < 256 → ((nI c < 48 ∨ 57 < nI c) ↔ isDg c = false) := by decide +kernel
theorem bI_let : ∀ c, c < 256 → isLt c = true → bI c - 97 + 1 = nI (c - 96) := by decide +kernel
theorem bI_num : ∀ c, c < 256 → isDg c = true → bI c - 48 = nI (c - 48) := by decide +kernel
theorem bI_255 : ∀ c, c < 256 → bI c &&& 255 = nI c := by decide +kernel
theorem bI_chr : ∀ c, c < 256 → (Int32.toUInt32 (nI c) % 65536).toInt32 = nI c := by decide +kernel
/-! the signs -/
theorem idxL {S : zS} {y : Int32} : ∀ (m i q : Nat), i + m = 11 → m < q → ∃ r, f_J1_indexOfChar_4cfef_1010_L7 q 11 y (nI i) S = some (r, S) ∧ (r < 0 ↔ ∀ j, i ≤ j → j < 11 → ¬ zsby 0 (nI j) = y) := by
  intro m
  induction m with
  | zero =>
    intro i q hi hq
    obtain ⟨q, rfl⟩ : ∃ k, q = k + 1 := ⟨q - 1, by omega⟩
    have : i = 11 := by omega
    subst this
    refine ⟨-1, ?_, ?_⟩
    · rw [f_J1_indexOfChar_4cfef_1010_L7, if_neg (by decide)]
    · constructor
      · intro _ j h1 h2; omega
      · intro _; decide
  | succ m ih =>
    intro i q hi hq
    obtain ⟨q, rfl⟩ : ∃ k, q = k + 1 := ⟨q - 1, by omega⟩
    obtain ⟨r, e, hr⟩ := ih (i + 1) q (by omega) (by omega)
    rw [f_J1_indexOfChar_4cfef_1010_L7, if_pos (show nI i < 11 from nI_lt (b := 11) (by omega) (by omega)), if_pos (zinN (by omega) (by omega)), zlet_def, nI_1]
    by_cases h : zsby 0 (nI i) = y
    · rw [if_pos h]
      refine ⟨nI i, rfl, ?_⟩
      constructor
      · intro z; exact absurd z (nI_not_neg (by omega))
      · intro z; exact absurd h (z i (by omega) (by omega))
    · rw [if_neg h]
      refine ⟨r, e, hr.trans ?_⟩
      constructor
      · intro z j h1 h2
        by_cases hj : j = i
        · subst hj; exact h
        · exact z j (by omega) h2
      · intro z j h1 h2; exact z j (by omega) h2
theorem sg_tab : ∀ c, c < 256 → ((∀ j, j < 11 → ¬ zsby 0 (nI j) = bI c) ↔ ¬ c ∈ sgs) := by decide +kernel
theorem chr_in : ∀ c, c < 256 → ¬ nI c < 0 ∧ ¬ 255 < nI c := by decide +kernel
theorem idxX {S : zS} {c : Nat} (hc : c < 256) : ∃ r, f_J0_indexOf_0f7a4_1000 (nI c) S = some (r, S) ∧ (r < 0 ↔ ¬ c ∈ sgs) := by
  obtain ⟨r, e, hr⟩ := idxL (S := S) (y := bI c) 11 0 zN rfl (by decide)
  refine ⟨r, ?_, ?_⟩
  · unfold f_J0_indexOf_0f7a4_1000 f_J0_indexOf_7cf53_1000 f_J0_isLatin1_aae02_1000 f_J0_length_8abf5_1000 f_J0_coder_7d493_1000
    rw [if_neg (by decide), if_pos rfl, zb_def, if_neg (by decide), if_neg (by decide), zb_def, zb_def]
    unfold f_J1_indexOf_4cfef_1010 f_J1_canEncode_9a6ad
    rw [if_neg (chr_in c hc).1, if_neg (chr_in c hc).2, zb_def, if_neg (by decide), zlet_def, zlet_def, if_pos (by decide)]
    unfold f_J1_indexOfChar_4cfef_1010
    rw [zlet_def]
    rw [show f_J1_indexOfChar_4cfef_1010_L7 zN (zmin (11 >>> ((0 : Int32) &&& 31)) 11) ((nI c).toInt8.toInt32) (zmax 0 0) S = f_J1_indexOfChar_4cfef_1010_L7 zN 11 (bI c) (nI 0) S by
      rw [show zmin (11 >>> ((0 : Int32) &&& 31)) 11 = 11 by decide, show zmax 0 0 = nI 0 by decide]; rfl, e, zb_def, zb_def, zb_def]
  · rw [hr, ← sg_tab c hc]
    exact ⟨fun z j h => z j (by omega) h, fun z j _ h => z j h⟩
def gS (x : Int32) : Int32 := if x = 59 then 1 else if x = 40 then 1 else if x = 41 then 1 else if x = 60 then 1 else if x = 62 then 1 else if x = 61 then 1 else if x = 43 then 1 else if x = 45 then 1 else if x = 42 then 1 else if x = 47 then 1 else if x = 37 then 1 else 0
theorem gS_eq (x : Int32) (S : zS) : f_X12_isSign x S = some (gS x, S) := by
  unfold f_X12_isSign gS
  repeat (first | rfl | split)
theorem gS_tab : ∀ c, c < 256 → gS (nI c) = if c ∈ sgs then 1 else 0 := by decide +kernel
theorem isLtM {c : Nat} (hc : c < 256) (S : zS) : f_X12_isLetter (nI c) S = some (if isLt c then 1 else 0, S) := by
  unfold f_X12_isLetter
  have h := nI_ltr c hc
  by_cases h1 : nI c < 97
  · rw [if_pos h1, h.mp (Or.inl h1)]; rfl
  · rw [if_neg h1]
    by_cases h2 : 122 < nI c
    · rw [if_pos h2, h.mp (Or.inr h2)]; rfl
    · rw [if_neg h2, if_pos]
      cases hl : isLt c with
      | true => rfl
      | false => exact absurd (h.mpr hl) (fun z => z.elim h1 h2)
theorem isDgM {c : Nat} (hc : c < 256) (S : zS) : f_X12_isDigit (nI c) S = some (if isDg c then 1 else 0, S) := by
  unfold f_X12_isDigit
  have h := nI_dgt c hc
  by_cases h1 : nI c < 48
  · rw [if_pos h1, h.mp (Or.inl h1)]; rfl
  · rw [if_neg h1]
    by_cases h2 : 57 < nI c
    · rw [if_pos h2, h.mp (Or.inr h2)]; rfl
    · rw [if_neg h2, if_pos]
      cases hl : isDg c with
      | true => rfl
      | false => exact absurd (h.mpr hl) (fun z => z.elim h1 h2)
theorem isLtM1 (S : zS) : f_X12_isLetter (-1) S = some (0, S) := rfl
theorem isDgM1 (S : zS) : f_X12_isDigit (-1) S = some (0, S) := rfl
/-! words: five bits a letter, and eight -/
def E5 (f : Nat → Nat) : Nat → Nat
  | 0 => 0
  | k + 1 => E5 f k * 32 + (f k - 96)
def E8 (f : Nat → Nat) : Nat → Nat
  | 0 => 0
  | k + 1 => E8 f k * 256 + f k
def lets (f : Nat → Nat) (k : Nat) : Prop := ∀ i, i < k → isLt (f i) = true
theorem lt_rng {c : Nat} (h : isLt c = true) : 97 ≤ c ∧ c ≤ 122 := by simpa [isLt] using h
theorem E5_lt {f : Nat → Nat} : ∀ k, lets f k → E5 f k < 32 ^ k
  | 0, _ => by show (0 : Nat) < 1; omega
  | k + 1, h => by
    have h1 := E5_lt k (fun i hi => h i (by omega))
    have h2 := lt_rng (h k (by omega))
    show E5 f k * 32 + (f k - 96) < 32 ^ (k + 1)
    rw [Nat.pow_succ]
    omega
theorem E8_lt {f : Nat → Nat} : ∀ k, lets f k → E8 f k < 256 ^ k
  | 0, _ => by show (0 : Nat) < 1; omega
  | k + 1, h => by
    have h1 := E8_lt k (fun i hi => h i (by omega))
    have h2 := lt_rng (h k (by omega))
    show E8 f k * 256 + f k < 256 ^ (k + 1)
    rw [Nat.pow_succ]
    omega
theorem E58 {f g : Nat → Nat} : ∀ k j, lets f k → lets g j → (E5 f k = E5 g j ↔ E8 f k = E8 g j)
  | 0, 0, _, _ => ⟨fun _ => rfl, fun _ => rfl⟩
  | 0, j + 1, _, h => by
    have h2 := lt_rng (h j (by omega))
    show 0 = E5 g j * 32 + (g j - 96) ↔ 0 = E8 g j * 256 + g j
    omega
  | k + 1, 0, h, _ => by
    have h2 := lt_rng (h k (by omega))
    show E5 f k * 32 + (f k - 96) = 0 ↔ E8 f k * 256 + f k = 0
    omega
  | k + 1, j + 1, h, h' => by
    have h1 := lt_rng (h k (by omega))
    have h2 := lt_rng (h' j (by omega))
    have ih := E58 k j (fun i hi => h i (by omega)) (fun i hi => h' i (by omega))
    show E5 f k * 32 + (f k - 96) = E5 g j * 32 + (g j - 96) ↔ E8 f k * 256 + f k = E8 g j * 256 + g j
    constructor
    · intro e
      have e1 : E5 f k = E5 g j := by omega
      have e2 : f k = g j := by omega
      rw [ih.mp e1, e2]
    · intro e
      have e1 : E8 f k = E8 g j := by omega
      have e2 : f k = g j := by omega
      rw [ih.mpr e1, e2]
def nL (n : Nat) : Int64 := Int64.ofNat n
theorem nL_eq {a b : Nat} (ha : a < 2 ^ 64) (hb : b < 2 ^ 64) : nL a = nL b ↔ a = b := by
  constructor
  · intro h
    have := congrArg (fun x : Int64 => x.toBitVec.toNat) h
    have e : ∀ n : Nat, (nL n).toBitVec.toNat = n % 2 ^ 64 := fun n => by
      show (BitVec.ofNat 64 n).toNat = _
      rw [BitVec.toNat_ofNat]
    simp only [e] at this
    rwa [Nat.mod_eq_of_lt ha, Nat.mod_eq_of_lt hb] at this
  · intro h; rw [h]
theorem nL_shl (a d s : Nat) (hs : s = 5 ∨ s = 8) (hd : d < 2 ^ s) : (nL a <<< (Int32.toInt64 (nI s) &&& 63)) ||| Int32.toInt64 (nI d) = nL (a * 2 ^ s + d) := by
  have hd8 : d < 256 := by rcases hs with rfl | rfl <;> omega
  have e1 : Int32.toInt64 (nI d) = nL d := (by decide +kernel : ∀ d, d < 256 → Int32.toInt64 (nI d) = nL d) d hd8
  rw [e1]
  refine Int64.toBitVec_inj.mp ?_
  rw [Int64.toBitVec_or, Int64.toBitVec_shiftLeft]
  have e2 : ((Int32.toInt64 (nI s) &&& 63).toBitVec.smod 64).toNat = s := by rcases hs with rfl | rfl <;> decide
  show (BitVec.ofNat 64 a <<< ((Int32.toInt64 (nI s) &&& 63).toBitVec.smod 64).toNat) ||| BitVec.ofNat 64 d = BitVec.ofNat 64 (a * 2 ^ s + d)
  rw [e2]
  refine BitVec.eq_of_toNat_eq ?_
  rw [BitVec.toNat_or, BitVec.toNat_shiftLeft, BitVec.toNat_ofNat, BitVec.toNat_ofNat, BitVec.toNat_ofNat]
  have e3 : d % 2 ^ 64 = d := Nat.mod_eq_of_lt (by omega)
  rw [e3, Nat.shiftLeft_eq]
  have hs64 : s ≤ 64 := by omega
  have e4 : (a % 2 ^ 64 * 2 ^ s) % 2 ^ 64 = (a * 2 ^ s) % 2 ^ 64 := by rw [Nat.mod_mul_mod]
  rw [e4]
  have e5 : (a * 2 ^ s) % 2 ^ 64 = ((a * 2 ^ s) % 2 ^ 64 / 2 ^ s) * 2 ^ s := by
    have : 2 ^ s ∣ (a * 2 ^ s) % 2 ^ 64 := (Nat.dvd_mod_iff (Nat.pow_dvd_pow 2 hs64)).mpr (Nat.dvd_mul_left _ _)
    exact (Nat.div_mul_cancel this).symm
  have e6 : (a * 2 ^ s) % 2 ^ 64 ||| d = (a * 2 ^ s) % 2 ^ 64 + d := by
    rw [e5, ← Nat.shiftLeft_eq, ← Nat.shiftLeft_add_eq_or_of_lt hd]
  rw [e6]
  have hlt : (a * 2 ^ s) % 2 ^ 64 + d < 2 ^ 64 := by
    have h1 : (a * 2 ^ s) % 2 ^ 64 < 2 ^ 64 := Nat.mod_lt _ (by decide)
    rcases hs with rfl | rfl <;> omega
  rw [← Nat.mod_eq_of_lt hlt, Nat.mod_add_mod]
/-- the same word on both sides -/
def wr (x m : Int64) : Prop := ∃ (k : Nat) (f : Nat → Nat), k ≤ 8 ∧ lets f k ∧ x = nL (E5 f k) ∧ m = nL (E8 f k)
theorem wr_eq {x m x' m' : Int64} (h : wr x m) (h' : wr x' m') : x = x' ↔ m = m' := by
  obtain ⟨k, f, hk, hf, rfl, rfl⟩ := h
  obtain ⟨j, g, hj, hg, rfl, rfl⟩ := h'
  have p1 : ∀ k, k ≤ 8 → 32 ^ k ≤ 2 ^ 64 := fun k hk => Nat.le_trans (Nat.pow_le_pow_right (by decide) hk) (by decide)
  have p2 : ∀ k, k ≤ 8 → 256 ^ k ≤ 2 ^ 64 := fun k hk => Nat.le_trans (Nat.pow_le_pow_right (by decide) hk) (by decide)
  rw [nL_eq (Nat.lt_of_lt_of_le (E5_lt k hf) (p1 k hk)) (Nat.lt_of_lt_of_le (E5_lt j hg) (p1 j hj)), nL_eq (Nat.lt_of_lt_of_le (E8_lt k hf) (p2 k hk)) (Nat.lt_of_lt_of_le (E8_lt j hg) (p2 j hj))]
  exact E58 k j hf hg
/-- the reserved words, as letters -/
def rwL : List (List Nat) := [[115, 116, 97, 107, 101, 115], [112, 108, 97, 110, 116], [116, 111, 112, 105, 99], [98, 105, 108, 108], [112, 97, 114, 116, 121], [119, 97, 110, 116, 115], [103, 114, 111, 119], [102, 114, 111, 115, 116], [100, 114, 97, 119], [108, 105, 102, 101], [104, 97, 114, 100, 121], [111, 102], [97, 116], [115, 97, 121, 115], [97, 109, 101, 110, 100, 115], [114, 101, 112, 101, 97, 108, 115], [98, 121], [111, 114], [97, 110, 100], [110, 111, 116], [97, 103, 101], [115, 116, 97, 107, 101], [110, 101, 97, 114], [121, 101, 97, 114]]
def rwM : List Int64 := [126943687828851, 482854661748, 500085844323, 1651076204, 482671228025, 512735736947, 1735552887, 440006570868, 1685217655, 1818846821, 448311485561, 28518, 24948, 1935767923, 107122481063027, 32199680756640883, 25209, 28530, 6385252, 7237492, 6383461, 495873780581, 1852137842, 2036687218]
theorem rw_tab : ∀ i, i < 24 → ((rwL.getD i []).length ≤ 8 ∧ (∀ j, j < (rwL.getD i []).length → isLt ((rwL.getD i []).getD j 0) = true) ∧ zres.getD i 0 = nL (E5 (fun j => (rwL.getD i []).getD j 0) (rwL.getD i []).length) ∧ rwM.getD i 0 = nL (E8 (fun j => (rwL.getD i []).getD j 0) (rwL.getD i []).length)) := by decide +kernel
theorem wr_res {i : Nat} (hi : i < 24) : wr (zres.getD i 0) (rwM.getD i 0) := ⟨_, _, (rw_tab i hi).1, (rw_tab i hi).2.1, (rw_tab i hi).2.2.1, (rw_tab i hi).2.2.2⟩
theorem res_inj : ∀ i, i < 24 → ∀ j, j < 24 → zres.getD i 0 = zres.getD j 0 → i = j := by decide +kernel
/-- the number of a reserved word, or NONE -/
def rsv (x : Int64) : Int32 := foldN (fun acc i => if zres.getD i 0 = x then nI i else acc) 0 24 (-1)
theorem rsv_m (x : Int64) : ∀ m, m ≤ 24 → (foldN (fun acc i => if zres.getD i 0 = x then nI i else acc) 0 m (-1) = -1 ∧ ∀ i, i < m → ¬ zres.getD i 0 = x) ∨ ∃ i, i < m ∧ zres.getD i 0 = x ∧ foldN (fun acc i => if zres.getD i 0 = x then nI i else acc) 0 m (-1) = nI i
  | 0, _ => Or.inl ⟨rfl, fun i hi => absurd hi (by omega)⟩
  | m + 1, hm => by
    rw [foldN_snoc, Nat.zero_add]
    by_cases h : zres.getD m 0 = x
    · rw [if_pos h]
      exact Or.inr ⟨m, by omega, h, rfl⟩
    · rw [if_neg h]
      rcases rsv_m x m (by omega) with ⟨h1, h2⟩ | ⟨i, h1, h2, h3⟩
      · refine Or.inl ⟨h1, fun i hi => ?_⟩
        by_cases him : i = m
        · subst him; exact h
        · exact h2 i (by omega)
      · exact Or.inr ⟨i, by omega, h2, h3⟩
theorem rsv_k (x : Int64) {k : Nat} (hk : k < 24) : rsv x = nI k ↔ zres.getD k 0 = x := by
  rcases rsv_m x 24 (by omega) with ⟨h1, h2⟩ | ⟨i, h1, h2, h3⟩
  · unfold rsv
    rw [h1]
    constructor
    · intro z; exact absurd z.symm (nI_neg1 (by omega))
    · intro z; exact absurd z (h2 k hk)
  · unfold rsv
    rw [h3, nI_eq (by omega) (by omega)]
    constructor
    · intro z; subst z; exact h2
    · intro z; exact res_inj i h1 k hk (h2.trans z.symm)
theorem rsv_n (x : Int64) : rsv x = -1 ↔ ∀ i, i < 24 → ¬ zres.getD i 0 = x := by
  rcases rsv_m x 24 (by omega) with ⟨h1, h2⟩ | ⟨i, h1, h2, h3⟩
  · unfold rsv
    rw [h1]
    exact ⟨fun _ => h2, fun _ => rfl⟩
  · unfold rsv
    rw [h3]
    constructor
    · intro z; exact absurd z (nI_neg1 (by omega))
    · intro z; exact absurd h2 (z i h1)
