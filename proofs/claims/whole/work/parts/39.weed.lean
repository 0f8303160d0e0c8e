/-! ===== counting a set; weed ===== -/
theorem bt_nI (n : Nat) {i : Nat} (hi : i < 32) : bt (nI n) i = n.testBit i := by
  show (BitVec.ofNat 32 n).getLsbD i = _
  rw [BitVec.getLsbD_ofNat]
  simp [hi]
/-- how many are in it, as the reference counts -/
def memF (x : Int32) : Int32 := foldN (fun acc k => acc + ((x >>> (nI k &&& 31)) &&& 1)) 0 12 0
theorem memM (x : Int32) (S : zS) : f_X12_members x S = some (memF x, S) := by
  exact loopN (f := fun n acc k S => f_X12_members_L4 n x acc k S) (S := S) (c := 12) (g := fun acc k => acc + ((x >>> (nI k &&& 31)) &&& 1)) (fun n acc k hk => by
    have h12 : nI k < 12 := nI_lt (b := 12) hk (by omega)
    show f_X12_members_L4 (n + 1) x acc (nI k) S = _
    rw [f_X12_members_L4, if_pos h12, zlet_def, zlet_def, nI_1]) (fun n acc => by
    show f_X12_members_L4 (n + 1) x acc (nI 12) S = _
    rw [f_X12_members_L4, if_neg (by decide)]) 12 0 zN 0 rfl (by decide)
def cnt (n : Nat) : Nat := sumN (fun k => if n.testBit k then 1 else 0) 12
theorem memF_nI (n : Nat) : memF (nI n) = nI (cnt n) := by
  have := fold_cnt (g := fun acc k => acc + ((nI n >>> (nI k &&& 31)) &&& 1)) (f := fun k => if n.testBit k then 1 else 0) (n := 12) (fun j k hk => by
    show nI j + ((nI n >>> (nI k &&& 31)) &&& 1) = _
    rw [b_ask (nI n) (by omega), bt_nI n (by omega)]
    by_cases h : n.testBit k = true
    · rw [if_pos h, if_pos h, nI_1]
    · rw [if_neg h, if_neg h]
      show nI j + nI 0 = _
      rw [nI_add]) 12 0 (Nat.le_refl _)
  rw [Nat.zero_add] at this
  exact this
theorem cnt_le (n : Nat) : cnt n ≤ 12 := by
  have : cnt n ≤ sumN (fun _ => 1) 12 := sumN_mono 12 fun i _ => by split <;> omega
  exact this
def bcF (x0 : Int32) : Int32 :=
  let v1 := x0 - ((zushr x0 1) &&& 1431655765)
  let v2 := (v1 &&& 858993459) + ((zushr v1 2) &&& 858993459)
  let v3 := (v2 + (zushr v2 4)) &&& 252645135
  let v4 := v3 + (zushr v3 8)
  let v5 := v4 + (zushr v4 16)
  v5 &&& 63
theorem bcX (x : Int32) (S : zS) : f_J6_bitCount_0f7a4 x S = some (bcF x, S) := rfl
theorem bc_tab : ∀ a, a < 64 → ∀ b, b < 64 → bcF (nI (64 * a + b)) = nI (cnt (64 * a + b)) := by decide +kernel
theorem bc_nI {n : Nat} (h : n < 4096) : bcF (nI n) = nI (cnt n) := by
  have := bc_tab (n / 64) (by omega) (n % 64) (by omega)
  rwa [Nat.div_add_mod] at this
/-- a set of bills is a number below 4096 -/
theorem set_nI {x : Int32} {c : Nat} (hc : c ≤ 12) (h : ∀ i, i < 32 → c ≤ i → bt x i = false) : ∃ n : Nat, n < 2 ^ c ∧ x = nI n ∧ n < 4096 := by
  have hp : 2 ^ c ≤ 2 ^ 12 := Nat.pow_le_pow_right (by omega) hc
  have e : x &&& ((1 <<< (nI c &&& 31)) - 1) = x := b_ext fun i hi => by
    rw [b_and, all_bits c (by omega) i hi]
    by_cases hic : i < c
    · simp [hic]
    · simp [hic, h i hi (by omega)]
  rw [pk_and x c (all_tn c (by omega))] at e
  have hlt : x.toBitVec.toNat % 2 ^ c < 2 ^ c := Nat.mod_lt _ (Nat.pow_pos (by omega))
  exact ⟨_, hlt, e.symm, by omega⟩
theorem mem_bc {x : Int32} (h : ∀ i, i < 32 → 12 ≤ i → bt x i = false) : bcF x = memF x := by
  obtain ⟨n, -, rfl, hn⟩ := set_nI (Nat.le_refl 12) h
  rw [bc_nI hn, memF_nI]
/-! which sets clear the hedge -/
def wdC (N : Nat → Int32) (c n : Nat) : Bool := decide (clN N (stdS (fun i => liv N i && !n.testBit i) (fun i => N (8 * i + 6)) (fun i => N (8 * i + 7)) c) = 0)
theorem wdC_congr {N : Nat → Int32} {c n m : Nat} (h : ∀ i, i < c → (liv N i && !n.testBit i) = (liv N i && !m.testBit i)) : wdC N c n = wdC N c m := by
  unfold wdC
  rw [stdS_congr (lv := fun i => liv N i && !n.testBit i) (lv' := fun i => liv N i && !m.testBit i) h (fun _ _ => rfl) (fun _ _ => rfl)]
def wkI (N : Nat → Int32) (n b : Nat) (A : Nat → Int32) : Prop := (∀ i, i < 99 → i % 8 ≠ 0 ∨ 96 ≤ i → A i = N i) ∧ ∀ k, k < 12 → liv A k = (liv N k && !(decide (k < b) && n.testBit k))
theorem wk_cl {N A : Nat → Int32} {n c : Nat} (hc : c ≤ 12) (h : wkI N n c A) : clN A (stdN A c) = clN N (stdS (fun i => liv N i && !n.testBit i) (fun i => N (8 * i + 6)) (fun i => N (8 * i + 7)) c) := by
  obtain ⟨h1, h2⟩ := h
  rw [clN_congr (fun i hi h8 => h1 i (by omega) (Or.inl h8))]
  unfold stdN
  rw [stdS_congr (lv := liv A) (lv' := fun i => liv N i && !n.testBit i) (am' := fun i => N (8 * i + 6)) (rp' := fun i => N (8 * i + 7)) (fun b hb => by rw [h2 b (by omega)]; simp [hb]) (fun b hb => h1 _ (by omega) (Or.inl (by omega))) (fun b hb => h1 _ (by omega) (Or.inl (by omega)))]
theorem wk_step {N A : Nat → Int32} {n b : Nat} (hb : b < 12) (h : wkI N n b A) : (n.testBit b = true → wkI N n (b + 1) (upd A (8 * b) 0)) ∧ (n.testBit b = false → wkI N n (b + 1) A) := by
  obtain ⟨h1, h2⟩ := h
  constructor
  · intro hn
    refine ⟨fun i hi h8 => ?_, fun k hk => ?_⟩
    · rw [upd_ne _ _ _ _ (by omega)]; exact h1 i hi h8
    · by_cases hkb : k = b
      · subst hkb
        unfold liv
        rw [upd_at]
        simp [hn]
      · have : liv (upd A (8 * b) 0) k = liv A k := by unfold liv; rw [upd_ne _ _ _ _ (by omega)]
        rw [this, h2 k hk]
        have e : (k < b) = (k < b + 1) := propext (by omega)
        simp [e]
  · intro hn
    refine ⟨h1, fun k hk => ?_⟩
    rw [h2 k hk]
    by_cases hkb : k = b
    · subst hkb; simp [hn]
    · have e : (k < b) = (k < b + 1) := propext (by omega)
      simp [e]
/-- one set tried by the reference -/
theorem weed_try {S : zS} {c n : Nat} {x1 x2 : Int32} (hc : c ≤ 12) (e96 : S.1 19 96 = nI c) (K : Int32 → Int32 → Int32 → zS → Option (Int32 × zS)) : ∃ T, f_X12_weed_B46 K x1 x2 (nI n) S = K x1 (if wdC (S.1 19) c n then nI n else x2) (nI (n + 1)) T ∧ mKeep S T := by
  unfold f_X12_weed_B46
  rw [loadM, zu_def]
  refine loopI (f := fun q (T : zS) b => f_X12_weed_L53 K q x1 x2 (nI n) (nI b) T) (fun b T => mKeep S T ∧ wkI (S.1 19) n b (T.1 20)) (fun o => ∃ T, o = K x1 (if wdC (S.1 19) c n then nI n else x2) (nI (n + 1)) T ∧ mKeep S T) (c := c) ?_ ?_ c 0 zN (zld S 0) (by omega) (by show c < 10000; omega) ⟨mKeep_zld S, fun i hi _ => zld_at S hi, fun k hk => ?_⟩
  · rintro q T b hb ⟨hk, hw⟩
    have e20 : T.1 20 96 = nI c := (hw.1 96 (by omega) (Or.inr (by omega))).trans e96
    show ∃ a1, f_X12_weed_L53 K (q + 1) x1 x2 (nI n) (nI b) T = f_X12_weed_L53 K q x1 x2 (nI n) (nI (b + 1)) a1 ∧ _
    rw [f_X12_weed_L53, billsM e20, zb_def, if_pos (nI_lt hb (by omega))]
    simp only [b_ask1 (nI n) (show b < 31 by omega), bt_nI n (show b < 32 by omega), killM (S := T) (show b < 12 by omega), zu_def, zlet_def, nI_1]
    by_cases hn : n.testBit b = true
    · rw [if_pos hn]
      exact ⟨_, rfl, mKeep_trans hk (mKeep_put (by decide)), (wk_step (by omega) hw).1 hn⟩
    · rw [if_neg hn]
      exact ⟨_, rfl, hk, (wk_step (by omega) hw).2 (by simpa using hn)⟩
  · rintro q T ⟨hk, hw⟩
    have e20 : T.1 20 96 = nI c := (hw.1 96 (by omega) (Or.inr (by omega))).trans e96
    refine ⟨T, ?_, hk⟩
    show f_X12_weed_L53 K (q + 1) x1 x2 (nI n) (nI c) T = _
    rw [f_X12_weed_L53, billsM e20, zb_def, if_neg (nI_nlt (Nat.le_refl c) (by omega)), clashM hc e20, zb_def, wk_cl hc hw, zlet_def, zlet_def, nI_1]
    unfold wdC
    by_cases h0 : clN (S.1 19) (stdS (fun i => liv (S.1 19) i && !n.testBit i) (fun i => S.1 19 (8 * i + 6)) (fun i => S.1 19 (8 * i + 7)) c) = 0
    · rw [if_pos h0, if_pos (decide_eq_true h0)]
    · rw [if_neg h0, if_neg (by rw [decide_eq_true_eq]; exact h0)]
  · have : liv ((zld S 0).1 20) k = liv (S.1 19) k := by unfold liv; rw [zld_at S (by omega)]
    rw [this]; simp
/-- what the reference has found after n sets -/
def wdI (N : Nat → Int32) (c n : Nat) (best : Int32) : Prop := (best = -1 ∧ ∀ m, m < n → wdC N c m = false) ∨ ∃ B, best = nI B ∧ B < n ∧ wdC N c B = true ∧ ∀ m, m < n → wdC N c m = true → cnt B < cnt m ∨ cnt B = cnt m ∧ B ≤ m
theorem weedM {S : zS} {c : Nat} {w : Int32} (hc : c ≤ 12) (e96 : S.1 19 96 = nI c) : ∃ T best, f_X12_weed_L15 zN w (-1) 0 S = (if w = 0 then some (memF best, T) else some (best, T)) ∧ mKeep S T ∧ wdI (S.1 19) c (2 ^ c) best := by
  have hp : 2 ^ c ≤ 2 ^ 12 := Nat.pow_le_pow_right (by omega) hc
  have hsh : (1 : Int32) <<< (nI c &&& 31) = nI (2 ^ c) := (by decide +kernel : ∀ c, c < 13 → (1 : Int32) <<< (nI c &&& 31) = nI (2 ^ c)) c (by omega)
  refine loopI (f := fun q (a : Int32 × zS) n => f_X12_weed_L15 q w a.1 (nI n) a.2) (fun n a => mKeep S a.2 ∧ wdI (S.1 19) c n a.1) (fun o => ∃ T best, o = (if w = 0 then some (memF best, T) else some (best, T)) ∧ mKeep S T ∧ wdI (S.1 19) c (2 ^ c) best) (c := 2 ^ c) ?_ ?_ (2 ^ c) 0 zN (-1, S) (by omega) (by show 2 ^ c < 10000; omega) ⟨mKeep_rfl S, Or.inl ⟨rfl, fun m hm => absurd hm (by omega)⟩⟩
  · rintro q ⟨best, T⟩ n hn ⟨hk, hi⟩
    dsimp only at hk hi ⊢
    have eT : T.1 19 = S.1 19 := hk.2 19 (by decide)
    rw [f_X12_weed_L15, eT, show Int32.toNatClampNeg 96 = 96 from rfl, e96, hsh, if_pos (nI_lt hn (by omega))]
    obtain ⟨T', eq', hk'⟩ := weed_try (S := T) (c := c) (n := n) (x1 := w) (x2 := best) hc (by rw [eT]; exact e96) (f_X12_weed_L15 q)
    rw [eT] at eq'
    rcases hi with ⟨rfl, hno⟩ | ⟨B, rfl, hB, hcB, hmin⟩
    · rw [if_pos (by decide), eq']
      refine ⟨(_, T'), rfl, mKeep_trans hk hk', ?_⟩
      show wdI (S.1 19) c (n + 1) (if wdC (S.1 19) c n = true then nI n else -1)
      by_cases hw : wdC (S.1 19) c n = true
      · rw [if_pos hw]
        refine Or.inr ⟨n, rfl, by omega, hw, fun m hm hcm => ?_⟩
        by_cases hmn : m = n
        · subst hmn; exact Or.inr ⟨rfl, Nat.le_refl _⟩
        · rw [hno m (by omega)] at hcm; exact absurd hcm (by decide)
      · rw [if_neg hw]
        refine Or.inl ⟨rfl, fun m hm => ?_⟩
        by_cases hmn : m = n
        · subst hmn; simpa using hw
        · exact hno m (by omega)
    · rw [if_neg (nI_not_neg (by omega)), memM, zb_def, memM, zb_def, memF_nI, memF_nI, nI_1]
      have hlt : nI (cnt n) < nI (cnt B) ↔ cnt n < cnt B := nI_ltI (by have := cnt_le n; omega) (by have := cnt_le B; omega)
      by_cases hcn : cnt n < cnt B
      · rw [if_pos (hlt.mpr hcn), eq']
        refine ⟨(_, T'), rfl, mKeep_trans hk hk', ?_⟩
        show wdI (S.1 19) c (n + 1) (if wdC (S.1 19) c n = true then nI n else nI B)
        by_cases hw : wdC (S.1 19) c n = true
        · rw [if_pos hw]
          refine Or.inr ⟨n, rfl, by omega, hw, fun m hm hcm => ?_⟩
          by_cases hmn : m = n
          · subst hmn; exact Or.inr ⟨rfl, Nat.le_refl _⟩
          · have := hmin m (by omega) hcm
            left; omega
        · rw [if_neg hw]
          refine Or.inr ⟨B, rfl, by omega, hcB, fun m hm hcm => ?_⟩
          by_cases hmn : m = n
          · subst hmn; exact absurd hcm hw
          · exact hmin m (by omega) hcm
      · rw [if_neg (fun z => hcn (hlt.mp z)), zlet_def]
        refine ⟨(nI B, T), rfl, hk, Or.inr ⟨B, rfl, by omega, hcB, fun m hm hcm => ?_⟩⟩
        by_cases hmn : m = n
        · subst hmn; omega
        · exact hmin m (by omega) hcm
  · rintro q ⟨best, T⟩ ⟨hk, hi⟩
    dsimp only at hk hi ⊢
    have eT : T.1 19 = S.1 19 := hk.2 19 (by decide)
    refine ⟨T, best, ?_, hk, hi⟩
    rw [f_X12_weed_L15, eT, show Int32.toNatClampNeg 96 = 96 from rfl, e96, hsh, if_neg (nI_nlt (Nat.le_refl _) (by omega)), memM, zb_def]
/-! the class's search -/
theorem clearX {S : zS} {N : Nat → Int32} {c l n : Nat} (hc : c ≤ 12) (hB : rB c N (S.1 14) (S.1 15) (S.1 16) (S.1 17) (S.1 18) (S.1 19)) (hl : mkS (liv N) c = nI l) : f_X11_isClear (nI l &&& (nI n ^^^ (-1))) S = some (if wdC N c n then 1 else 0, S) := by
  unfold f_X11_isClear
  rw [stdX (c := c) (lv := fun i => liv N i && !n.testBit i) (am := fun i => N (8 * i + 6)) (rp := fun i => N (8 * i + 7)) hc (fun i hi => by
    rw [← hl, b_and, bt_mkS _ hi c (by omega), b_xor, b_m1 i hi, bt_nI n hi]
    cases decide (i < c) <;> simp) (fun b hb => (hB b hb).2.2.2.2.2) (fun b hb => (hB b hb).2.2.2.2.1), zb_def, clashX, zb_def, clash_rd hB (std_hi _ _ _ (by omega))]
  unfold wdC
  by_cases h0 : clN N (stdS (fun i => liv N i && !n.testBit i) (fun i => N (8 * i + 6)) (fun i => N (8 * i + 7)) c) = 0
  · rw [if_pos h0, if_pos (decide_eq_true h0)]
  · rw [if_neg h0, if_neg (by rw [decide_eq_true_eq]; exact h0)]
def wSub (n l : Nat) : Prop := ∀ i, i < 32 → n.testBit i = true → l.testBit i = true
theorem sub_iff (n l : Nat) : nI n &&& (nI l ^^^ (-1)) = 0 ↔ wSub n l := by
  constructor
  · intro h i hi hn
    have := congrArg (fun z => bt z i) h
    simp only [b_and, b_xor, b_0, b_m1 i hi, bt_nI n hi, bt_nI l hi, hn] at this
    simpa using this
  · intro h
    refine b_ext fun i hi => ?_
    rw [b_and, b_xor, b_0, b_m1 i hi, bt_nI n hi, bt_nI l hi]
    cases hn : n.testBit i
    · rfl
    · rw [h i hi hn]; rfl
/-- the first good set of size k, from n on, or on with K -/
theorem weed_in {S : zS} {N : Nat → Int32} {c l k : Nat} (hc : c ≤ 12) (hl4 : l < 4096) (hk : k ≤ 12) (hB : rB c N (S.1 14) (S.1 15) (S.1 16) (S.1 17) (S.1 18) (S.1 19)) (hl : mkS (liv N) c = nI l) (K : Int32 → Int32 → zS → Option (Int32 × zS)) : ∀ (m n q : Nat), n + m = l + 1 → m < q → (∃ W, n ≤ W ∧ W ≤ l ∧ wSub W l ∧ cnt W = k ∧ wdC N c W = true ∧ (∀ j, n ≤ j → j < W → ¬ (wSub j l ∧ cnt j = k ∧ wdC N c j = true)) ∧ f_X11_fewestWeeds_L18 K q (nI l) (nI k) (nI n) S = some (nI W, S)) ∨ ((∀ j, n ≤ j → j ≤ l → ¬ (wSub j l ∧ cnt j = k ∧ wdC N c j = true)) ∧ f_X11_fewestWeeds_L18 K q (nI l) (nI k) (nI n) S = K (nI l) (nI (k + 1)) S) := by
  intro m
  induction m with
  | zero =>
    intro n q hn hq
    obtain ⟨q, rfl⟩ : ∃ k, q = k + 1 := ⟨q - 1, by omega⟩
    right
    refine ⟨fun j h1 h2 => absurd h2 (by omega), ?_⟩
    rw [f_X11_fewestWeeds_L18, if_pos (nI_lt (by omega) (by omega)), zlet_def, nI_1]
  | succ m ih =>
    intro n q hn hq
    obtain ⟨q, rfl⟩ : ∃ k, q = k + 1 := ⟨q - 1, by omega⟩
    have ih := ih (n + 1) q (by omega) (by omega)
    have hskip : ¬ (wSub n l ∧ cnt n = k ∧ wdC N c n = true) → f_X11_fewestWeeds_L18 K (q + 1) (nI l) (nI k) (nI n) S = f_X11_fewestWeeds_L18 K q (nI l) (nI k) (nI (n + 1)) S → (∃ W, n ≤ W ∧ W ≤ l ∧ wSub W l ∧ cnt W = k ∧ wdC N c W = true ∧ (∀ j, n ≤ j → j < W → ¬ (wSub j l ∧ cnt j = k ∧ wdC N c j = true)) ∧ f_X11_fewestWeeds_L18 K (q + 1) (nI l) (nI k) (nI n) S = some (nI W, S)) ∨ ((∀ j, n ≤ j → j ≤ l → ¬ (wSub j l ∧ cnt j = k ∧ wdC N c j = true)) ∧ f_X11_fewestWeeds_L18 K (q + 1) (nI l) (nI k) (nI n) S = K (nI l) (nI (k + 1)) S) := by
      intro hg e
      rw [e]
      rcases ih with ⟨W, h1, h2, h3, h4, h5, h6, h7⟩ | ⟨h1, h2⟩
      · refine Or.inl ⟨W, by omega, h2, h3, h4, h5, fun j j1 j2 => ?_, h7⟩
        by_cases hj : j = n
        · subst hj; exact hg
        · exact h6 j (by omega) j2
      · refine Or.inr ⟨fun j j1 j2 => ?_, h2⟩
        by_cases hj : j = n
        · subst hj; exact hg
        · exact h1 j (by omega) j2
    have hbody : f_X11_fewestWeeds_L18 K (q + 1) (nI l) (nI k) (nI n) S = if nI n &&& (nI l ^^^ (-1)) = 0 then (if nI (cnt n) = nI k then (if wdC N c n = true then some (nI n, S) else f_X11_fewestWeeds_L18 K q (nI l) (nI k) (nI (n + 1)) S) else f_X11_fewestWeeds_L18 K q (nI l) (nI k) (nI (n + 1)) S) else f_X11_fewestWeeds_L18 K q (nI l) (nI k) (nI (n + 1)) S := by
      conv => lhs; rw [f_X11_fewestWeeds_L18]
      rw [if_neg (nI_nlt (by omega) (by omega)), bcX, zb_def, bc_nI (by omega), clearX hc hB hl, zb_def, z01]
      simp only [zlet_def, nI_1]
    by_cases h1 : nI n &&& (nI l ^^^ (-1)) = 0
    · by_cases h2 : nI (cnt n) = nI k
      · by_cases h3 : wdC N c n = true
        · rw [if_pos h1, if_pos h2, if_pos h3] at hbody
          refine Or.inl ⟨n, Nat.le_refl _, by omega, (sub_iff n l).mp h1, (nI_eq (by have := cnt_le n; omega) (by omega)).mp h2, h3, fun j j1 j2 => absurd j2 (by omega), hbody⟩
        · rw [if_pos h1, if_pos h2, if_neg h3] at hbody
          exact hskip (fun z => h3 z.2.2) hbody
      · rw [if_pos h1, if_neg h2] at hbody
        exact hskip (fun z => h2 (by rw [z.2.1])) hbody
    · rw [if_neg h1] at hbody
      exact hskip (fun z => h1 ((sub_iff n l).mpr z.1)) hbody
theorem weedX {S : zS} {N : Nat → Int32} {c l : Nat} (hc : c ≤ 12) (hl4 : l < 4096) (hB : rB c N (S.1 14) (S.1 15) (S.1 16) (S.1 17) (S.1 18) (S.1 19)) (hl : mkS (liv N) c = nI l) (hgood : wdC N c l = true) : ∃ W, f_X11_fewestWeeds_L10 zN (nI l) 0 S = some (nI W, S) ∧ W ≤ l ∧ wSub W l ∧ wdC N c W = true ∧ ∀ m, m ≤ l → wSub m l → wdC N c m = true → cnt W < cnt m ∨ cnt W = cnt m ∧ W ≤ m := by
  have key : ∀ (r k q : Nat), k + r = cnt l → r < q → (∀ m, m ≤ l → wSub m l → wdC N c m = true → k ≤ cnt m) → ∃ W, f_X11_fewestWeeds_L10 q (nI l) (nI k) S = some (nI W, S) ∧ W ≤ l ∧ wSub W l ∧ wdC N c W = true ∧ ∀ m, m ≤ l → wSub m l → wdC N c m = true → cnt W < cnt m ∨ cnt W = cnt m ∧ W ≤ m := by
    intro r
    induction r with
    | zero =>
      intro k q hk hq hall
      obtain ⟨q, rfl⟩ : ∃ k, q = k + 1 := ⟨q - 1, by omega⟩
      have hk12 : k ≤ 12 := by have := cnt_le l; omega
      rw [f_X11_fewestWeeds_L10, if_neg (show ¬ (12 : Int32) < nI k from nI_nlt (a := 12) hk12 (by omega))]
      rcases weed_in hc hl4 hk12 hB hl (f_X11_fewestWeeds_L10 q) (l + 1) 0 zN (by omega) (by show l + 1 < 10000; omega) with ⟨W, h1, h2, h3, h4, h5, h6, h7⟩ | ⟨h1, h2⟩
      · refine ⟨W, h7, h2, h3, h5, fun m m1 m2 m3 => ?_⟩
        have := hall m m1 m2 m3
        by_cases hme : cnt m = k
        · right
          refine ⟨by omega, Nat.not_lt.mp fun z => h6 m (by omega) z ⟨m2, hme, m3⟩⟩
        · left; omega
      · exact absurd ⟨fun _ _ h => h, by omega, hgood⟩ (h1 l (by omega) (Nat.le_refl _))
    | succ r ih =>
      intro k q hk hq hall
      obtain ⟨q, rfl⟩ : ∃ k, q = k + 1 := ⟨q - 1, by omega⟩
      have hk12 : k ≤ 12 := by have := cnt_le l; omega
      rw [f_X11_fewestWeeds_L10, if_neg (show ¬ (12 : Int32) < nI k from nI_nlt (a := 12) hk12 (by omega))]
      rcases weed_in hc hl4 hk12 hB hl (f_X11_fewestWeeds_L10 q) (l + 1) 0 zN (by omega) (by show l + 1 < 10000; omega) with ⟨W, h1, h2, h3, h4, h5, h6, h7⟩ | ⟨h1, h2⟩
      · refine ⟨W, h7, h2, h3, h5, fun m m1 m2 m3 => ?_⟩
        have := hall m m1 m2 m3
        by_cases hme : cnt m = k
        · right
          refine ⟨by omega, Nat.not_lt.mp fun z => h6 m (by omega) z ⟨m2, hme, m3⟩⟩
        · left; omega
      · have e := ih (k + 1) q (by omega) (by omega) (fun m m1 m2 m3 => by
          have := hall m m1 m2 m3
          have : ¬ cnt m = k := fun z => h1 m (by omega) m1 ⟨m2, z, m3⟩
          omega)
        rw [show f_X11_fewestWeeds_L18 (f_X11_fewestWeeds_L10 q) zN (nI l) (nI k) 0 S = f_X11_fewestWeeds_L10 q (nI l) (nI (k + 1)) S from h2]
        exact e
  exact key (cnt l) 0 zN (by omega) (by show cnt l < 10000; have := cnt_le l; omega) (fun m _ _ _ => Nat.zero_le _)
theorem stdS_none {am rp : Nat → Int32} {c : Nat} {lv : Nat → Bool} (hc : c ≤ 32) (h : ∀ i, i < c → lv i = false) : stdS lv am rp c = 0 := by
  have h0 : mkS lv c = 0 := (mkS_of (x := 0) hc fun i hi => by
    rw [b_0]
    by_cases hic : i < c
    · rw [h i hic]; simp
    · simp [hic]).symm
  unfold stdS
  refine foldN_id c 0 0 fun acc b _ _ => if_neg fun z => ?_
  rw [h0] at z
  have := z.1
  rw [b_and, b_0] at this
  exact absurd this (by simp)
theorem clN_0 (N : Nat → Int32) : clN N 0 = 0 := by
  unfold clN clA
  refine (foldN_id 12 0 0 fun acc a _ _ => foldN_id 12 0 acc fun acc b _ _ => if_neg fun z => ?_)
  rw [Bool.and_eq_true] at z
  have := (clP_iff.mp z.2).1
  rw [b_0] at this
  exact absurd this (by decide)
theorem op_weed : zSt1 zRel f_X11_weed f_X12_weed := by
  intro w Sx Sm h
  obtain ⟨-, -, -, -, -, -, hO, st, pl, tp, pa, hH, hA, hI⟩ := id h
  obtain ⟨c, hN, hB, e0, e1, e2, hl⟩ := ac_now hA
  have hc := hN.1
  show zSame _ _
  unfold f_X11_weed f_X12_weed f_X11_fewestWeeds
  rw [isIn_spec, zb_def]
  by_cases c1 : w < 0
  · rw [if_pos c1, if_pos c1, if_pos rfl]
    exact zsame h
  · rw [if_neg c1, if_neg c1]
    by_cases c2 : (1 : Int32) < w
    · rw [if_pos c2, if_pos c2, if_pos rfl]
      exact zsame h
    · rw [if_neg c2, if_neg c2, if_neg (by decide), (stdNowX hN hB e0 (fun b hb => (hl b hb).1)).2, zb_def]
      obtain ⟨l, hl2, hle, hl4⟩ := set_nI (x := mkS (liv (Sm.1 19)) c) hc (fun i hi hci => by rw [bt_mkS _ hi c (by omega)]; simp [show ¬ i < c by omega])
      have hlb : ∀ i, i < 32 → l.testBit i = (decide (i < c) && liv (Sm.1 19) i) := fun i hi => by rw [← bt_nI l hi, ← hle, bt_mkS _ hi c (by omega)]
      have hgood : wdC (Sm.1 19) c l = true := by
        unfold wdC
        rw [stdS_none (by omega) (fun i hi => by rw [hlb i (by omega)]; cases liv (Sm.1 19) i <;> simp [hi]), clN_0]
        rfl
      obtain ⟨W, w1, w2, w3, w4, w5⟩ := weedX hc hl4 hB hle hgood
      obtain ⟨T, best, m1, m2, m3⟩ := weedM (S := Sm) (w := w) hc hN.2.1
      rw [hle, w1, zb_def, m1]
      have hbest : best = nI W := by
        rcases m3 with ⟨-, hno⟩ | ⟨B, rfl, hBl, hcB, hmin⟩
        · have := hno l hl2
          rw [hgood] at this
          exact absurd this (by decide)
        · have hb' : wdC (Sm.1 19) c (B &&& l) = true := by
            rw [wdC_congr (m := B)]
            · exact hcB
            · intro i hi
              rw [Nat.testBit_and, hlb i (by omega)]
              cases liv (Sm.1 19) i <;> simp [hi]
          have hle1 : B &&& l ≤ B := Nat.and_le_left
          have hle2 : B &&& l ≤ l := Nat.and_le_right
          have hcm : cnt (B &&& l) ≤ cnt B := sumN_mono 12 fun i _ => by
            rw [Nat.testBit_and]
            cases B.testBit i <;> cases l.testBit i <;> simp
          have hk := hmin (B &&& l) (by omega) hb'
          have hBe : B &&& l = B := by omega
          have hsub : wSub B l := fun i hi hb => by
            have := congrArg (fun z => Nat.testBit z i) hBe
            simp only [Nat.testBit_and, hb, Bool.true_and] at this
            exact this
          have q1 := w5 B (by omega) hsub hcB
          have q2 := hmin W (by omega) w4
          have : B = W := by omega
          rw [this]
      subst hbest
      rw [bcX, zb_def, bc_nI (by omega), memF_nI]
      by_cases hw0 : w = 0
      · rw [if_pos hw0, if_pos hw0]
        exact zsame (zRel_m m2 h)
      · rw [if_neg hw0, if_neg hw0]
        exact zsame (zRel_m m2 h)
