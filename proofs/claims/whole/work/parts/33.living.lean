theorem livX37 {S : zS} {c : Nat} (hc : c ≤ 12) (e : S.1 37 0 = nI c) : f_X3_livingBits_37 S = some (mkS (fun b => decide (0 < S.1 38 b)) c, S) := by
  have h := loopN (f := f_X3_livingBits_37_L4) (S := S) (c := c) (g := stF (fun b => decide (0 < S.1 38 b))) (fun n acc b hb => by
    have h1 : nI b < nI c := nI_lt hb (by omega)
    have h12 : nI b < 12 := nI_lt (b := 12) (by omega) (by omega)
    have hz : zin (nI b) 12 = True := zin_T (by omega) (by omega)
    rw [f_X3_livingBits_37_L4, e]
    simp only [h1, h12, hz, ↓reduceIte, zlet_def, nI_1, nI_clamp (show b < 2 ^ 31 by omega)]
    by_cases hl : 0 < S.1 38 b
    · simp [hl, stF]
    · simp [hl, stF]) (fun n acc => by
    rw [f_X3_livingBits_37_L4, e, if_neg (nI_nlt (Nat.le_refl c) (by omega))]) c 0 zN 0 (by omega) (by show c < 10000; omega)
  exact h
theorem livX40 {S : zS} {c : Nat} (hc : c ≤ 12) (e : S.1 40 0 = nI c) : f_X3_livingBits_40 S = some (mkS (fun b => decide (0 < S.1 41 b)) c, S) := by
  have h := loopN (f := f_X3_livingBits_40_L4) (S := S) (c := c) (g := stF (fun b => decide (0 < S.1 41 b))) (fun n acc b hb => by
    have h1 : nI b < nI c := nI_lt hb (by omega)
    have h12 : nI b < 12 := nI_lt (b := 12) (by omega) (by omega)
    have hz : zin (nI b) 12 = True := zin_T (by omega) (by omega)
    rw [f_X3_livingBits_40_L4, e]
    simp only [h1, h12, hz, ↓reduceIte, zlet_def, nI_1, nI_clamp (show b < 2 ^ 31 by omega)]
    by_cases hl : 0 < S.1 41 b
    · simp [hl, stF]
    · simp [hl, stF]) (fun n acc => by
    rw [f_X3_livingBits_40_L4, e, if_neg (nI_nlt (Nat.le_refl c) (by omega))]) c 0 zN 0 (by omega) (by show c < 10000; omega)
  exact h
theorem livX60 {S : zS} {c : Nat} (hc : c ≤ 12) (e : S.1 60 0 = nI c) : f_X3_livingBits_60 S = some (mkS (fun b => decide (0 < S.1 61 b)) c, S) := by
  have h := loopN (f := f_X3_livingBits_60_L4) (S := S) (c := c) (g := stF (fun b => decide (0 < S.1 61 b))) (fun n acc b hb => by
    have h1 : nI b < nI c := nI_lt hb (by omega)
    have h12 : nI b < 12 := nI_lt (b := 12) (by omega) (by omega)
    have hz : zin (nI b) 12 = True := zin_T (by omega) (by omega)
    rw [f_X3_livingBits_60_L4, e]
    simp only [h1, h12, hz, ↓reduceIte, zlet_def, nI_1, nI_clamp (show b < 2 ^ 31 by omega)]
    by_cases hl : 0 < S.1 61 b
    · simp [hl, stF]
    · simp [hl, stF]) (fun n acc => by
    rw [f_X3_livingBits_60_L4, e, if_neg (nI_nlt (Nat.le_refl c) (by omega))]) c 0 zN 0 (by omega) (by show c < 10000; omega)
  exact h
/-! the reference's air -/
theorem nI_8 (b k : Nat) : 8 * nI b + nI k = nI (8 * b + k) := by
  rw [show (8 : Int32) = nI 8 from rfl, pk_mul, nI_add]
theorem ofM {S : zS} {b k : Nat} (h : 8 * b + k < 99) : f_X12_of (nI b) (nI k) S = some (S.1 20 (8 * b + k), S) := by
  unfold f_X12_of
  rw [nI_8, if_pos (show zin (nI (8 * b + k)) 99 from vp_in_nI h (by omega)), nI_clamp (by omega)]
theorem of0 {S : zS} {b : Nat} (h : b < 12) : f_X12_of (nI b) 0 S = some (S.1 20 (8 * b), S) := ofM (k := 0) (by omega)
theorem of1 {S : zS} {b : Nat} (h : b < 12) : f_X12_of (nI b) 1 S = some (S.1 20 (8 * b + 1), S) := ofM (k := 1) (by omega)
theorem of2 {S : zS} {b : Nat} (h : b < 12) : f_X12_of (nI b) 2 S = some (S.1 20 (8 * b + 2), S) := ofM (k := 2) (by omega)
theorem of3 {S : zS} {b : Nat} (h : b < 12) : f_X12_of (nI b) 3 S = some (S.1 20 (8 * b + 3), S) := ofM (k := 3) (by omega)
theorem of4 {S : zS} {b : Nat} (h : b < 12) : f_X12_of (nI b) 4 S = some (S.1 20 (8 * b + 4), S) := ofM (k := 4) (by omega)
theorem of5 {S : zS} {b : Nat} (h : b < 12) : f_X12_of (nI b) 5 S = some (S.1 20 (8 * b + 5), S) := ofM (k := 5) (by omega)
theorem of6 {S : zS} {b : Nat} (h : b < 12) : f_X12_of (nI b) 6 S = some (S.1 20 (8 * b + 6), S) := ofM (k := 6) (by omega)
theorem of7 {S : zS} {b : Nat} (h : b < 12) : f_X12_of (nI b) 7 S = some (S.1 20 (8 * b + 7), S) := ofM (k := 7) (by omega)
/-- what lives in a state that the reference keeps -/
def liv (N : Nat → Int32) (b : Nat) : Bool := decide (0 < N (8 * b))
theorem livesM {S : zS} {b : Nat} (h : b < 12) : f_X12_lives (nI b) S = some (if liv (S.1 20) b then 1 else 0, S) := by
  unfold f_X12_lives liv
  rw [of0 h, zb_def]
  by_cases hl : 0 < S.1 20 (8 * b)
  · simp [hl]
  · simp [hl]
theorem truthM (P : Prop) [Decidable P] (S : zS) : f_X12_truth (if P then 1 else 0) S = some (if P then 1 else 0, S) := by
  unfold f_X12_truth
  by_cases h : P
  · simp [h]
  · simp [h]
theorem billsM {S : zS} {c : Nat} (e : S.1 20 96 = nI c) : f_X12_bills S = some (nI c, S) := by
  unfold f_X12_bills
  rw [show Int32.toNatClampNeg 96 = 96 from rfl, e]
theorem shl01 (p : Bool) (acc : Int32) {b : Nat} (hb : b < 31) : acc ||| ((if p then (1 : Int32) else 0) <<< (nI b &&& 31)) = if p then acc ||| (1 <<< (nI b &&& 31)) else acc := by
  cases p with
  | true => rfl
  | false =>
    refine b_ext fun i hi => ?_
    simp only [Bool.false_eq_true, ↓reduceIte]
    rw [b_or, b_shl b (by omega) 0 hi, b_0]
    simp
theorem livM {S : zS} {c : Nat} (hc : c ≤ 12) (e : S.1 20 96 = nI c) : f_X12_livingSet S = some (mkS (liv (S.1 20)) c, S) := by
  have h := loopN (f := f_X12_livingSet_L4) (S := S) (c := c) (g := stF (liv (S.1 20))) (fun n acc b hb => by
    have h1 : nI b < nI c := nI_lt hb (by omega)
    rw [f_X12_livingSet_L4, billsM e, zb_def, if_pos h1, livesM (by omega), zb_def, truthM, zb_def, zlet_def, zlet_def, nI_1, shl01 _ _ (by omega)]
    rfl) (fun n acc => by
    rw [f_X12_livingSet_L4, billsM e, zb_def, if_neg (nI_nlt (Nat.le_refl c) (by omega))]) c 0 zN 0 (by omega) (by show c < 10000; omega)
  exact h
theorem repM {S : zS} {c : Nat} (hc : c ≤ 12) (e : S.1 20 96 = nI c) : f_X12_repealedSet S = some (repS (liv (S.1 20)) (fun b => S.1 20 (8 * b + 7)) c, S) := by
  have h := loopN (f := f_X12_repealedSet_L4) (S := S) (c := c) (g := fun acc b => if liv (S.1 20) b = true ∧ ¬ S.1 20 (8 * b + 7) < 0 then acc ||| (1 <<< (S.1 20 (8 * b + 7) &&& 31)) else acc) (fun n acc b hb => by
    have h1 : nI b < nI c := nI_lt hb (by omega)
    rw [f_X12_repealedSet_L4, billsM e, zb_def, if_pos h1, livesM (by omega), zb_def, z01]
    simp only [of7 (S := S) (show b < 12 by omega), zb_def, zlet_def, nI_1]
    cases hl : liv (S.1 20) b with
    | false => simp
    | true =>
      by_cases hn : S.1 20 (8 * b + 7) < 0
      · simp [hn]
      · simp [hn]) (fun n acc => by
    rw [f_X12_repealedSet_L4, billsM e, zb_def, if_neg (nI_nlt (Nat.le_refl c) (by omega))]) c 0 zN 0 (by omega) (by show c < 10000; omega)
  exact h
/-- what stands in a state that the reference keeps -/
def stdN (N : Nat → Int32) (c : Nat) : Int32 := stdS (liv N) (fun b => N (8 * b + 6)) (fun b => N (8 * b + 7)) c
theorem stdM {S : zS} {c : Nat} (hc : c ≤ 12) (e : S.1 20 96 = nI c) : f_X12_standing S = some (stdN (S.1 20) c, S) := by
  unfold f_X12_standing
  rw [livM hc e, zb_def, repM hc e, zb_def, zlet_def]
  generalize hM : mkS (liv (S.1 20)) c &&& (repS (liv (S.1 20)) (fun b => S.1 20 (8 * b + 7)) c ^^^ (-1)) = M
  have h := loopN (f := fun n acc b S => f_X12_standing_L16 n acc M b S) (S := S) (c := c) (g := fun acc b => if bt M b = true ∧ (S.1 20 (8 * b + 6) < 0 ∨ (acc >>> (S.1 20 (8 * b + 6) &&& 31)) &&& 1 = 1) then acc ||| (1 <<< (nI b &&& 31)) else acc) (fun n acc b hb => by
    have h1 : nI b < nI c := nI_lt hb (by omega)
    show f_X12_standing_L16 (n + 1) acc M (nI b) S = _
    rw [f_X12_standing_L16, billsM e, zb_def, if_pos h1]
    simp only [of6 (S := S) (show b < 12 by omega), zb_def, zlet_def, nI_1, b_ask1 M (show b < 31 by omega), f_X12_standing_B58]
    cases hl : bt M b with
    | false => simp
    | true =>
      by_cases hn : S.1 20 (8 * b + 6) < 0
      · simp [hn]
      · by_cases h1 : (acc >>> (S.1 20 (8 * b + 6) &&& 31)) &&& 1 = 1
        · simp [hn, h1]
        · simp [hn, h1]) (fun n acc => by
    show f_X12_standing_L16 (n + 1) acc M (nI c) S = _
    rw [f_X12_standing_L16, billsM e, zb_def, if_neg (nI_nlt (Nat.le_refl c) (by omega))]) c 0 zN 0 (by omega) (by show c < 10000; omega)
  refine h.trans ?_
  unfold stdN stdS
  rw [hM]
/-- load(): the air is what is now -/
def zld (S : zS) (i : Nat) : zS := (fun k => if k = 20 then fun j => if i ≤ j ∧ j < 99 then S.1 19 j else S.1 20 j else S.1 k, S.2)
theorem loadM (S : zS) : f_X12_load S = some (zld S 0) := by
  have key : ∀ (m i n : Nat) (S : zS), i + m = 99 → m < n → f_X12_load_L2 n (nI i) S = some (zld S i) := by
    intro m
    induction m with
    | zero =>
      intro i n S hi hn
      obtain ⟨k, rfl⟩ : ∃ k, n = k + 1 := ⟨n - 1, by omega⟩
      have : i = 99 := by omega
      subst this
      rw [f_X12_load_L2, if_neg (by decide)]
      refine congrArg some (Prod.ext (funext fun k => ?_) rfl)
      show S.1 k = if k = 20 then _ else S.1 k
      by_cases hk : k = 20
      · rw [if_pos hk, hk]
        funext j
        rw [if_neg (by omega)]
      · rw [if_neg hk]
    | succ m ih =>
      intro i n S hi hn
      obtain ⟨k, rfl⟩ : ∃ k, n = k + 1 := ⟨n - 1, by omega⟩
      have h99 : nI i < 99 := nI_lt (b := 99) (by omega) (by omega)
      have hz : zin (nI i) 99 := vp_in_nI (by omega) (by omega)
      rw [f_X12_load_L2, if_pos h99, if_pos hz, if_pos hz, zlet_def, zlet_def, nI_1, nI_clamp (by omega), ih (i + 1) k _ (by omega) (by omega)]
      refine congrArg some (Prod.ext (funext fun k => ?_) rfl)
      show (if k = 20 then (fun j => if i + 1 ≤ j ∧ j < 99 then (zput S 20 i (S.1 19 i)).1 19 j else (zput S 20 i (S.1 19 i)).1 20 j) else (zput S 20 i (S.1 19 i)).1 k) = if k = 20 then (fun j => if i ≤ j ∧ j < 99 then S.1 19 j else S.1 20 j) else S.1 k
      by_cases hk : k = 20
      · rw [if_pos hk, if_pos hk]
        funext j
        rw [zput1_ne S 20 i 19 _ (by decide), zput1_eq]
        by_cases hj : j = i
        · subst hj
          rw [if_neg (by omega), if_pos (by omega), upd_at]
        · rw [upd_ne _ _ _ _ hj]
          by_cases h1 : i + 1 ≤ j ∧ j < 99
          · rw [if_pos h1, if_pos (by omega)]
          · rw [if_neg h1, if_neg (by omega)]
      · rw [if_neg hk, if_neg hk, zput1_ne _ _ _ _ _ hk]
  exact key 99 0 zN S rfl (by decide)
theorem zld_at (S : zS) {i : Nat} (h : i < 99) : (zld S 0).1 20 i = S.1 19 i := by
  show (if 0 ≤ i ∧ i < 99 then S.1 19 i else S.1 20 i) = _
  rw [if_pos ⟨by omega, h⟩]
theorem zld_rel {X S : zS} (h : zRel X S) : zRel X (zld S 0) := h
theorem liv_congr {N N' : Nat → Int32} {c : Nat} (h : ∀ i, i < 99 → N i = N' i) (hc : c ≤ 12) : ∀ b, b < c → liv N b = liv N' b := fun b hb => by
  unfold liv
  rw [h (8 * b) (by omega)]
theorem repS_congr {lv lv' : Nat → Bool} {rp rp' : Nat → Int32} {c : Nat} (h1 : ∀ b, b < c → lv b = lv' b) (h2 : ∀ b, b < c → rp b = rp' b) : repS lv rp c = repS lv' rp' c := foldN_congr c 0 0 fun a i _ hi => by
  rw [h1 i (by omega), h2 i (by omega)]
theorem stdS_congr {lv lv' : Nat → Bool} {am am' rp rp' : Nat → Int32} {c : Nat} (h1 : ∀ b, b < c → lv b = lv' b) (h2 : ∀ b, b < c → am b = am' b) (h3 : ∀ b, b < c → rp b = rp' b) : stdS lv am rp c = stdS lv' am' rp' c := by
  unfold stdS
  rw [mkS_congr h1, repS_congr h1 h3]
  exact foldN_congr c 0 0 fun a i _ hi => by rw [h2 i (by omega)]
theorem stdN_congr {N N' : Nat → Int32} {c : Nat} (h : ∀ i, i < 99 → N i = N' i) (hc : c ≤ 12) : stdN N c = stdN N' c := stdS_congr (liv_congr h hc) (fun b hb => h _ (by omega)) (fun b hb => h _ (by omega))
/-- what stands now: both sides -/
theorem stdNowX {S : zS} {N : Nat → Int32} {st pl tp c : Nat} (hN : okN st pl tp c N) (hB : rB c N (S.1 14) (S.1 15) (S.1 16) (S.1 17) (S.1 18) (S.1 19)) (e : S.1 37 0 = nI c) (hl : ∀ b, b < c → S.1 38 b = N (8 * b)) : f_X11_standingNow S = some (stdN N c, S) ∧ f_X3_livingBits_37 S = some (mkS (liv N) c, S) := by
  have hlv : mkS (fun b => decide (0 < S.1 38 b)) c = mkS (liv N) c := mkS_congr fun b hb => by
    unfold liv
    rw [hl b hb]
  have h1 := livX37 hN.1 e
  rw [hlv] at h1
  refine ⟨?_, h1⟩
  unfold f_X11_standingNow
  rw [h1, zb_def, stdX (lv := liv N) (am := fun b => N (8 * b + 6)) (rp := fun b => N (8 * b + 7)) hN.1 (fun i hi => bt_mkS _ hi c (by have := hN.1; omega)) (fun b hb => (hB b hb).2.2.2.2.2) (fun b hb => (hB b hb).2.2.2.2.1), zb_def]
  rfl
theorem stdNowM {S : zS} {c : Nat} (hc : c ≤ 12) (e : S.1 19 96 = nI c) : f_X12_standing (zld S 0) = some (stdN (S.1 19) c, zld S 0) := by
  rw [stdM hc ((zld_at S (by omega)).trans e), stdN_congr (fun i hi => zld_at S hi) hc]
theorem livNowM {S : zS} {c : Nat} (hc : c ≤ 12) (e : S.1 19 96 = nI c) : f_X12_livingSet (zld S 0) = some (mkS (liv (S.1 19)) c, zld S 0) := by
  rw [livM hc ((zld_at S (by omega)).trans e), mkS_congr (liv_congr (fun i hi => zld_at S hi) hc)]
theorem op_stands : zSt0 zRel f_X11_stands f_X12_stands := by
  intro Sx Sm h
  obtain ⟨-, -, -, -, -, -, -, st, pl, tp, pa, hH, hA, hI⟩ := id h
  obtain ⟨c, hN, hB, e0, e1, e2, hl⟩ := ac_now hA
  unfold f_X11_stands f_X12_stands
  rw [(stdNowX hN hB e0 (fun b hb => (hl b hb).1)).1, loadM, zb_def, zu_def, stdNowM hN.1 hN.2.1, zb_def]
  exact ⟨_, _, _, rfl, rfl, zld_rel h⟩
