/-! ===== joy ===== -/
theorem i_add {a b : Int32} (h1 : -1000000 ≤ a.toInt) (h2 : a.toInt ≤ 1000000) (h3 : -1000000 ≤ b.toInt) (h4 : b.toInt ≤ 1000000) : (a + b).toInt = a.toInt + b.toInt := by
  rw [Int32.toInt_add, Int.bmod_eq_of_le (by omega) (by omega)]
theorem i_sub {a b : Int32} (h1 : -1000000 ≤ a.toInt) (h2 : a.toInt ≤ 1000000) (h3 : -1000000 ≤ b.toInt) (h4 : b.toInt ≤ 1000000) : (a - b).toInt = a.toInt - b.toInt := by
  rw [Int32.toInt_sub, Int.bmod_eq_of_le (by omega) (by omega)]
theorem isI_toInt {lo hi : Int} {x : Int32} (h : isI lo hi x) (h1 : -2147483648 ≤ lo) (h2 : hi ≤ 2147483647) : lo ≤ x.toInt ∧ x.toInt ≤ hi := by
  obtain ⟨v, a, b, rfl⟩ := h
  rw [Int32.toInt_ofInt_of_le (by omega) (by omega)]
  exact ⟨a, b⟩
theorem isI_of {lo hi : Int} {x : Int32} (h1 : lo ≤ x.toInt) (h2 : x.toInt ≤ hi) : isI lo hi x := ⟨x.toInt, h1, h2, (Int32.ofInt_toInt x).symm⟩
theorem isI_nI {lo hi : Int} {x : Int32} (h : isI lo hi x) (h1 : 0 ≤ lo) (h2 : hi ≤ 2147483647) : ∃ n : Nat, x = nI n ∧ lo ≤ n ∧ (n : Int) ≤ hi := by
  obtain ⟨v, a, b, rfl⟩ := h
  refine ⟨v.toNat, ?_, by omega, by omega⟩
  rw [← Int32.toInt_inj, Int32.toInt_ofInt_of_le (by omega) (by omega), nI_toInt (by omega)]
  omega
def apF (a b : Int32) : Int32 := if a < b then b - a else a - b
theorem apart_abs {a b : Int32} (h1 : -2000 ≤ a.toInt ∧ a.toInt ≤ 2000) (h2 : -2000 ≤ b.toInt ∧ b.toInt ≤ 2000) : apF a b = zabs (a - b) := by
  unfold apF zabs
  have hs : (a - b).toInt = a.toInt - b.toInt := i_sub (by omega) (by omega) (by omega) (by omega)
  by_cases h : a < b
  · have h' := Int32.lt_iff_toInt_lt.mp h
    have : ¬ (0 : Int32) ≤ a - b := fun z => by
      have := Int32.le_iff_toInt_le.mp z
      rw [hs] at this
      have e : (0 : Int32).toInt = 0 := rfl
      omega
    rw [if_pos h, if_neg this]
    grind
  · have h' : ¬ a.toInt < b.toInt := fun z => h (Int32.lt_iff_toInt_lt.mpr z)
    have : (0 : Int32) ≤ a - b := Int32.le_iff_toInt_le.mpr (by
      rw [hs]
      have e : (0 : Int32).toInt = 0 := rfl
      omega)
    rw [if_neg h, if_pos this]
/-! the law is small -/
def bd (k : Nat) (x : Int32) : Prop := -(k : Int) ≤ x.toInt ∧ x.toInt ≤ k
theorem fold_bd {g : Int32 → Nat → Int32} {e c : Nat} (hg : ∀ k acc b, b < c → k + e ≤ 100000 → bd k acc → bd (k + e) (g acc b)) : ∀ (m k : Nat) (acc : Int32), m ≤ c → k + m * e ≤ 100000 → bd k acc → bd (k + m * e) (foldN g 0 m acc) := by
  intro m
  induction m with
  | zero =>
    intro k acc _ _ h
    rw [Nat.zero_mul, Nat.add_zero]
    exact h
  | succ m ih =>
    intro k acc hm hk h
    rw [foldN_snoc, Nat.zero_add, Nat.succ_mul, ← Nat.add_assoc]
    rw [Nat.succ_mul] at hk
    exact hg _ _ m (by omega) (by omega) (ih k acc (by omega) (by omega) h)
theorem lwN_bd {N : Nat → Int32} {st c : Nat} (hst : st ≤ 12) (hc : c ≤ 12) (hs : ∀ b, b < c → isI (-9) 9 (N (8 * b + 5))) (x t : Int32) : -2000 ≤ (lwN N st c x t).toInt ∧ (lwN N st c x t).toInt ≤ 2000 := by
  have h : bd (0 + st * 108) (lwN N st c x t) := by
    unfold lwN rdN
    refine fold_bd (c := st) (fun k acc s _ hk h => ?_) st 0 0 (Nat.le_refl _) (by omega) ⟨by decide, by decide⟩
    have h2 := fold_bd (c := c) (e := 9) (g := fun acc b => if N (8 * b + 2) = nI s then lwF x (fun b => N (8 * b + 4)) (fun b => N (8 * b + 6)) (fun b => N (8 * b + 5)) t acc b else acc) (fun k acc b hb hk h => by
      obtain ⟨s1, s2⟩ := isI_toInt (hs b hb) (by omega) (by omega)
      obtain ⟨h1, h2⟩ := h
      have hw : bd (k + 9) acc := ⟨by omega, by omega⟩
      show bd (k + 9) (if N (8 * b + 2) = nI s then lwF x (fun b => N (8 * b + 4)) (fun b => N (8 * b + 6)) (fun b => N (8 * b + 5)) t acc b else acc)
      split
      · simp only [lwF]
        split
        · split
          · exact ⟨by omega, by omega⟩
          · unfold bd
            rw [i_add (by omega) (by omega) (by omega) (by omega)]
            exact ⟨by omega, by omega⟩
        · exact hw
      · exact hw) c k acc (Nat.le_refl _) (by omega) h
    obtain ⟨a1, a2⟩ := h2
    exact ⟨by omega, by omega⟩
  obtain ⟨h1, h2⟩ := h
  exact ⟨by omega, by omega⟩
/-- the joy of party p in a state -/
def joyN (N : Nat → Int32) (st c tp : Nat) (by_ want : Nat → Int32) (p : Nat) : Int32 := foldN (fun acc t => acc - (if by_ (4 * p + t) = 0 then 0 else by_ (4 * p + t) * apF (lwN N st c (stdN N c) (nI t)) (want (4 * p + t)))) 0 tp 0
theorem joyN_congr {N N' : Nat → Int32} {st c tp : Nat} (h : ∀ i, i < 99 → N i = N' i) (hc : c ≤ 12) (by_ want : Nat → Int32) (p : Nat) : joyN N st c tp by_ want p = joyN N' st c tp by_ want p := by
  unfold joyN
  refine foldN_congr tp 0 0 fun acc t _ _ => ?_
  rw [lwN_congr h hc, stdN_congr h hc]
theorem apartM (a b : Int32) (S : zS) : f_X12_apart a b S = some (apF a b, S) := by
  unfold f_X12_apart apF
  by_cases h : a < b
  · rw [if_pos h, if_pos h]
  · rw [if_neg h, if_neg h]
theorem joyM {S : zS} {st c tp p : Nat} (hst : st ≤ 12) (p2 : S.1 0 42 = nI st) (htp : tp ≤ 4) (p6 : S.1 0 44 = nI tp) (hc : c ≤ 12) (e : S.1 20 96 = nI c) (hp : p < 3) : f_X12_joyOf (nI p) S = some (joyN (S.1 20) st c tp (S.1 15) (S.1 14) p, S) := by
  have h := loopN (f := fun n acc t S => f_X12_joyOf_L4 n (nI p) acc t S) (S := S) (c := tp) (g := fun acc t => acc - (if S.1 15 (4 * p + t) = 0 then 0 else S.1 15 (4 * p + t) * apF (lwN (S.1 20) st c (stdN (S.1 20) c) (nI t)) (S.1 14 (4 * p + t)))) (fun n acc t ht => by
    have h1 : nI t < nI tp := nI_lt ht (by omega)
    have e4 : (4 : Int32) * nI p + nI t = nI (4 * p + t) := by rw [show (4 : Int32) = nI 4 from rfl, pk_mul, nI_add]
    have hz : zin (nI (4 * p + t)) 12 = True := zin_T (by omega) (by omega)
    show f_X12_joyOf_L4 (n + 1) (nI p) acc (nI t) S = _
    rw [f_X12_joyOf_L4, p6, if_pos h1]
    simp only [e4, hz, ↓reduceIte, nI_clamp (show 4 * p + t < 2 ^ 31 by omega), lawM hst p2 hc e, zb_def, zlet_def, nI_1, apartM]
    by_cases h0 : S.1 15 (4 * p + t) = 0
    · simp [h0]
    · simp [h0]) (fun n acc => by
    show f_X12_joyOf_L4 (n + 1) (nI p) acc (nI tp) S = _
    rw [f_X12_joyOf_L4, p6, if_neg (nI_nlt (Nat.le_refl tp) (by omega))]) tp 0 zN 0 (by omega) (by show tp < 10000; omega)
  exact h
/-! what a call may leave changed -/
def xKeep (S T : zS) : Prop := T.2 = S.2 ∧ ∀ k, k ∉ [11, 12, 40, 41, 42, 52, 53, 54, 55, 56, 57, 58, 59, 60, 61, 62, 63, 64, 65] → T.1 k = S.1 k
def mKeep (S T : zS) : Prop := T.2 = S.2 ∧ ∀ k, k ∉ [8, 9, 20, 22, 24, 25, 26, 27, 33, 34, 35] → T.1 k = S.1 k
theorem xKeep_rfl (S : zS) : xKeep S S := ⟨rfl, fun _ _ => rfl⟩
theorem xKeep_trans {S T U : zS} (h : xKeep S T) (h' : xKeep T U) : xKeep S U := ⟨h'.1.trans h.1, fun k hk => (h'.2 k hk).trans (h.2 k hk)⟩
theorem mKeep_rfl (S : zS) : mKeep S S := ⟨rfl, fun _ _ => rfl⟩
theorem mKeep_trans {S T U : zS} (h : mKeep S T) (h' : mKeep T U) : mKeep S U := ⟨h'.1.trans h.1, fun k hk => (h'.2 k hk).trans (h.2 k hk)⟩
theorem xKeep_put {S : zS} {k i : Nat} {x : Int32} (h : k ∈ [11, 12, 40, 41, 42, 52, 53, 54, 55, 56, 57, 58, 59, 60, 61, 62, 63, 64, 65]) : xKeep S (zput S k i x) := ⟨rfl, fun k' hk => zput1_ne S k i k' x (fun z => hk (z ▸ h))⟩
theorem mKeep_put {S : zS} {k i : Nat} {x : Int32} (h : k ∈ [8, 9, 20, 22, 24, 25, 26, 27, 33, 34, 35]) : mKeep S (zput S k i x) := ⟨rfl, fun k' hk => zput1_ne S k i k' x (fun z => hk (z ▸ h))⟩
theorem mKeep_zld (S : zS) : mKeep S (zld S 0) := ⟨rfl, fun k hk => if_neg (fun z => hk (by rw [z]; decide))⟩
theorem zRel_x {S T M : zS} (h : xKeep S T) (hr : zRel S M) : zRel T M := by
  obtain ⟨h2, h1⟩ := h
  unfold zRel at hr ⊢
  rw [h2, h1 0 (by decide), h1 1 (by decide), h1 2 (by decide), h1 5 (by decide), h1 6 (by decide), h1 7 (by decide), h1 8 (by decide), h1 9 (by decide), h1 10 (by decide), h1 14 (by decide), h1 15 (by decide), h1 16 (by decide), h1 17 (by decide), h1 18 (by decide), h1 19 (by decide), h1 20 (by decide), h1 30 (by decide), h1 37 (by decide), h1 38 (by decide), h1 39 (by decide), h1 43 (by decide), h1 44 (by decide), h1 45 (by decide), h1 46 (by decide), h1 47 (by decide), h1 48 (by decide), h1 49 (by decide), h1 50 (by decide), h1 51 (by decide), h1 66 (by decide)]
  exact hr
theorem zRel_m {X S T : zS} (h : mKeep S T) (hr : zRel X S) : zRel X T := by
  obtain ⟨h2, h1⟩ := h
  unfold zRel at hr ⊢
  rw [h1 0 (by decide), h1 1 (by decide), h1 5 (by decide), h1 6 (by decide), h1 11 (by decide), h1 14 (by decide), h1 15 (by decide), h1 17 (by decide), h1 19 (by decide), h1 21 (by decide), h1 23 (by decide), h1 28 (by decide), h1 29 (by decide), h1 30 (by decide), h1 31 (by decide), h1 32 (by decide), h1 36 (by decide), h1 37 (by decide)]
  exact hr
theorem lwF_skip {x : Int32} {tp am sy : Nat → Int32} {t acc : Int32} {b : Nat} (h : ¬ (bt x b = true ∧ tp b = t)) : lwF x tp am sy t acc b = acc := if_neg h
theorem lwF_set {x : Int32} {tp am sy : Nat → Int32} {t acc : Int32} {b : Nat} (h : bt x b = true) (h2 : tp b = t) : lwF x tp am sy t acc b = if am b < 0 then sy b else acc + sy b := if_pos ⟨h, h2⟩
/-- only cell k was changed, to f at its first four places -/
def zW (S T : zS) (k : Nat) (f : Nat → Int32) : Prop := T.2 = S.2 ∧ (∀ k', k' ≠ k → T.1 k' = S.1 k') ∧ ∀ t, t < 4 → T.1 k t = f t
theorem zW_put {S T : zS} {k : Nat} {f g : Nat → Int32} {j : Nat} {x : Int32} (h : zW S T k f) (hj : g j = x) (hg : ∀ t, t < 4 → t ≠ j → g t = f t) : zW S (zput T k j x) k g := by
  obtain ⟨h1, h2, h3⟩ := h
  refine ⟨h1, fun k' hk => (zput1_ne T k j k' x hk).trans (h2 k' hk), fun t ht => ?_⟩
  rw [zput1_eq]
  by_cases htj : t = j
  · subst htj; rw [upd_at]; exact hj.symm
  · rw [upd_ne _ _ _ _ htj, hg t ht htj]; exact h3 t ht
theorem zsh0 (y : Int32) : ((0 : Int32) >>> (y &&& 31)) &&& 1 = 0 := by
  have : (0 : Int32) >>> (y &&& 31) = 0 := by
    rw [← Int32.toBitVec_inj, Int32.toBitVec_shiftRight]
    exact BitVec.zero_sshiftRight
  rw [this]
  decide
theorem readX65 {S : zS} {x : Int32} (hO : ∀ b, b < 12 → ∃ s : Nat, s < 12 ∧ S.1 14 b = nI s) (ho : (∀ i, i < 12 → S.1 20 i = nI ((ordF (S.1 14)).getD i 0)) ∨ x = 0) : ∃ T, f_X1_readInto_13_65 x S = some T ∧ zW S T 65 (fun t => rd (S.1 14) (lwF x (S.1 16) (S.1 18) (S.1 17) (nI t)) 0) := by
  have hclear : ∃ T, f_X1_readInto_13_65 x S = f_X1_readInto_13_65_L20 zN x 0 T ∧ zW S T 65 (fun _ => 0) := by
    unfold f_X1_readInto_13_65
    refine loopI (f := fun n (T : zS) i => f_X1_readInto_13_65_L2 n x (nI i) T) (fun i T => T.2 = S.2 ∧ (∀ k', k' ≠ 65 → T.1 k' = S.1 k') ∧ ∀ t, t < i → T.1 65 t = 0) (fun o => ∃ T, o = f_X1_readInto_13_65_L20 zN x 0 T ∧ zW S T 65 (fun _ => 0)) (c := 4) ?_ ?_ 4 0 zN S rfl (by decide) ⟨rfl, fun _ _ => rfl, fun t ht => absurd ht (by omega)⟩
    · rintro n T i hi ⟨a1, a2, a3⟩
      have h4 : nI i < 4 := nI_lt (b := 4) hi (by omega)
      have hz : zin (nI i) 4 = True := zin_T hi (by omega)
      refine ⟨zput T 65 i 0, ?_, a1, fun k' hk => (zput1_ne T 65 i k' 0 hk).trans (a2 k' hk), fun t ht => ?_⟩
      · show f_X1_readInto_13_65_L2 (n + 1) x (nI i) T = _
        rw [f_X1_readInto_13_65_L2]
        simp only [h4, hz, ↓reduceIte, zlet_def, nI_1, nI_clamp (show i < 2 ^ 31 by omega)]
      · rw [zput1_eq]
        by_cases hti : t = i
        · subst hti; rw [upd_at]
        · rw [upd_ne _ _ _ _ hti]; exact a3 t (by omega)
    · rintro n T ⟨a1, a2, a3⟩
      refine ⟨T, ?_, a1, a2, a3⟩
      show f_X1_readInto_13_65_L2 (n + 1) x (nI 4) T = _
      rw [f_X1_readInto_13_65_L2, if_neg (by decide)]
  obtain ⟨T0, e0, w0⟩ := hclear
  rw [e0]
  rcases ho with ho | ho
  · refine loopI (f := fun n (T : zS) i => f_X1_readInto_13_65_L20 n x (nI i) T) (fun i T => zW S T 65 (fun t => foldN (fun acc i => lwF x (S.1 16) (S.1 18) (S.1 17) (nI t) acc ((ordF (S.1 14)).getD i 0)) 0 i 0)) (fun o => ∃ T, o = some T ∧ zW S T 65 (fun t => rd (S.1 14) (lwF x (S.1 16) (S.1 18) (S.1 17) (nI t)) 0)) (c := 12) ?_ ?_ 12 0 zN T0 rfl (by decide) w0
    · rintro n T i hi hw
      have h12 : nI i < 12 := nI_lt (b := 12) hi (by omega)
      have hz : zin (nI i) 12 = True := zin_T hi (by omega)
      have hb := ordF_lt (S.1 14) i
      have hsn : ∀ t, foldN (fun acc i => lwF x (S.1 16) (S.1 18) (S.1 17) (nI t) acc ((ordF (S.1 14)).getD i 0)) 0 (i + 1) 0 = lwF x (S.1 16) (S.1 18) (S.1 17) (nI t) (foldN (fun acc i => lwF x (S.1 16) (S.1 18) (S.1 17) (nI t) acc ((ordF (S.1 14)).getD i 0)) 0 i 0) ((ordF (S.1 14)).getD i 0) := fun t => by rw [foldN_snoc, Nat.zero_add]
      simp only [hsn]
      have heq : ∀ Y, f_X1_readInto_13_65_L20 (n + 1) x (nI i) T = Y ↔ f_X1_readInto_13_65_L20 (n + 1) x (nI i) T = Y := fun _ => Iff.rfl
      have e14 := hw.2.1 14 (by decide)
      have e16 := hw.2.1 16 (by decide)
      have e17 := hw.2.1 17 (by decide)
      have e18 := hw.2.1 18 (by decide)
      have e20 := hw.2.1 20 (by decide)
      have hstep : f_X1_readInto_13_65_L20 (n + 1) x (nI i) T = f_X1_readInto_13_65_L20 (n + 1) x (nI i) T := rfl
      conv at hstep => rhs; rw [f_X1_readInto_13_65_L20]
      simp only [h12, hz, ↓reduceIte, zlet_def, nI_1, nI_clamp (show i < 2 ^ 31 by omega), e20, ho i hi] at hstep
      generalize (ordF (S.1 14)).getD i 0 = b at hb hstep ⊢
      have hb0 : ¬ nI b < 0 := nI_not_neg (by omega)
      have hb12 : nI b < 12 := nI_lt (b := 12) hb (by omega)
      have hzb : zin (nI b) 12 = True := zin_T hb (by omega)
      simp only [hb0, hb12, hzb, ↓reduceIte, b_ask0 x (show b < 31 by omega), nI_clamp (show b < 2 ^ 31 by omega), e16, e17, e18, f_X1_readInto_13_65_B114, zlet_def, nI_1] at hstep
      by_cases hx : bt x b = true
      · simp only [hx, Bool.true_eq_false, ↓reduceIte] at hstep
        by_cases ht0 : S.1 16 b < 0
        · simp only [ht0, ↓reduceIte] at hstep
          refine ⟨T, hstep, hw.1, hw.2.1, fun t ht => (hw.2.2 t ht).trans ?_⟩
          exact (lwF_skip (fun z => by have z2 := z.2; rw [z2] at ht0; exact nI_not_neg (by omega) ht0)).symm
        · obtain ⟨j, hj, ej⟩ := nI_of ht0
          by_cases ht4 : S.1 16 b < 4
          · have hj4 : j < 4 := by
              rw [ej] at ht4
              exact (nI_ltI (b := 4) hj (by omega)).mp ht4
            have hzj : zin (nI j) 4 = True := zin_T hj4 (by omega)
            have hne : ∀ t, t < 4 → t ≠ j → ∀ acc, lwF x (S.1 16) (S.1 18) (S.1 17) (nI t) acc b = acc := fun t ht htj acc => by
              exact lwF_skip (fun z => htj ((nI_eq (by omega) (by omega)).mp (z.2.symm.trans ej)))
            rw [ej] at ht0 ht4 hstep
            simp only [ht0, ht4, hzj, ↓reduceIte, nI_clamp hj] at hstep
            by_cases ha : S.1 18 b < 0
            · simp only [ha, ↓reduceIte] at hstep
              refine ⟨_, hstep, zW_put hw ?_ (fun t ht htj => hne t ht htj _)⟩
              exact (lwF_set hx ej).trans (if_pos ha)
            · simp only [ha, ↓reduceIte] at hstep
              refine ⟨_, hstep, zW_put hw ?_ (fun t ht htj => hne t ht htj _)⟩
              rw [hw.2.2 j hj4]
              exact (lwF_set hx ej).trans (if_neg ha)
          · simp only [ht0, ht4, ↓reduceIte] at hstep
            refine ⟨T, hstep, hw.1, hw.2.1, fun t ht => (hw.2.2 t ht).trans ?_⟩
            exact (lwF_skip (fun z => ht4 (by rw [z.2]; exact nI_lt (b := 4) ht (by omega)))).symm
      · simp only [hx, ↓reduceIte] at hstep
        refine ⟨T, hstep, hw.1, hw.2.1, fun t ht => (hw.2.2 t ht).trans ?_⟩
        exact (lwF_skip (fun z => hx z.1)).symm
    · rintro n T hw
      refine ⟨T, ?_, hw.1, hw.2.1, fun t ht => (hw.2.2 t ht).trans ?_⟩
      · show f_X1_readInto_13_65_L20 (n + 1) x (nI 12) T = _
        rw [f_X1_readInto_13_65_L20, if_neg (by decide)]
      · exact ord_fold hO _ _
  · subst ho
    refine loopI (f := fun n (T : zS) i => f_X1_readInto_13_65_L20 n 0 (nI i) T) (fun i T => zW S T 65 (fun t => 0)) (fun o => ∃ T, o = some T ∧ zW S T 65 (fun t => rd (S.1 14) (lwF 0 (S.1 16) (S.1 18) (S.1 17) (nI t)) 0)) (c := 12) ?_ ?_ 12 0 zN T0 rfl (by decide) w0
    · rintro n T i hi hw
      have h12 : nI i < 12 := nI_lt (b := 12) hi (by omega)
      have hz : zin (nI i) 12 = True := zin_T hi (by omega)
      refine ⟨T, ?_, hw⟩
      show f_X1_readInto_13_65_L20 (n + 1) 0 (nI i) T = _
      rw [f_X1_readInto_13_65_L20]
      simp only [h12, hz, ↓reduceIte, zlet_def, nI_1, zsh0, ite_self]
    · rintro n T hw
      refine ⟨T, ?_, hw.1, hw.2.1, fun t ht => (hw.2.2 t ht).trans ?_⟩
      · show f_X1_readInto_13_65_L20 (n + 1) 0 (nI 12) T = _
        rw [f_X1_readInto_13_65_L20, if_neg (by decide)]
      · exact (rd_id (G := lwF 0 (S.1 16) (S.1 18) (S.1 17) (nI t)) (fun acc b _ => lwF_skip (by rw [b_0]; simp)) 0).symm
theorem joyX65 {T : zS} {N by_ want : Nat → Int32} {st c tp pa p : Nat} (hst : st ≤ 12) (hc : c ≤ 12) (htp : tp ≤ 4) (p5 : T.1 5 2 = nI tp) (hp : p < pa) (hpa : pa ≤ 3) (hs : ∀ b, b < c → isI (-9) 9 (N (8 * b + 5))) (hw : ∀ t, t < tp → T.1 65 t = lwN N st c (stdN N c) (nI t)) (hH : ∀ p t, p < pa → t < tp → isI 0 9 (by_ (4 * p + t)) ∧ T.1 8 (4 * p + t) = by_ (4 * p + t) ∧ (by_ (4 * p + t) ≠ 0 → isI (-9) 9 (want (4 * p + t)) ∧ T.1 7 (4 * p + t) = want (4 * p + t))) : f_X4_joyOf_5_65 (nI p) T = some (joyN N st c tp by_ want p, T) := by
  have h := loopN (f := fun n acc t S => f_X4_joyOf_5_65_L5 n (nI p) acc t S) (S := T) (c := tp) (g := fun acc t => acc - (if by_ (4 * p + t) = 0 then 0 else by_ (4 * p + t) * apF (lwN N st c (stdN N c) (nI t)) (want (4 * p + t)))) (fun n acc t ht => by
    have h1 : nI t < nI tp := nI_lt ht (by omega)
    have h4 : nI t < 4 := nI_lt (b := 4) (by omega) (by omega)
    have e4 : nI p * (4 : Int32) + nI t = nI (4 * p + t) := by rw [show (4 : Int32) = nI 4 from rfl, pk_mul, nI_add, Nat.mul_comm]
    have hz : zin (nI (4 * p + t)) 12 = True := zin_T (by omega) (by omega)
    have hz4 : zin (nI t) 4 = True := zin_T (by omega) (by omega)
    have hn : ¬ nI (4 * p + t) < 0 := nI_not_neg (by omega)
    have h12 : nI (4 * p + t) < 12 := nI_lt (b := 12) (by omega) (by omega)
    obtain ⟨w1, w2, w3⟩ := hH p t hp ht
    show f_X4_joyOf_5_65_L5 (n + 1) (nI p) acc (nI t) T = _
    rw [f_X4_joyOf_5_65_L5, p5]
    simp only [h1, h4, e4, hz, hz4, hn, h12, ↓reduceIte, nI_clamp (show 4 * p + t < 2 ^ 31 by omega), nI_clamp (show t < 2 ^ 31 by omega), zlet_def, nI_1, hw t ht, w2]
    by_cases h0 : by_ (4 * p + t) = 0
    · have : ∀ y : Int32, (0 : Int32) * y = 0 := fun y => by grind
      simp [h0, this]
    · obtain ⟨w4, w5⟩ := w3 h0
      obtain ⟨w6, w7⟩ := isI_toInt w4 (by omega) (by omega)
      rw [w5, apart_abs (lwN_bd hst hc hs _ _) ⟨by omega, by omega⟩, if_neg h0]) (fun n acc => by
    show f_X4_joyOf_5_65_L5 (n + 1) (nI p) acc (nI tp) T = _
    rw [f_X4_joyOf_5_65_L5, p5, if_neg (nI_nlt (Nat.le_refl tp) (by omega))]) tp 0 zN 0 (by omega) (by show tp < 10000; omega)
  exact h
theorem readX64 {S : zS} {x : Int32} (hO : ∀ b, b < 12 → ∃ s : Nat, s < 12 ∧ S.1 14 b = nI s) (ho : (∀ i, i < 12 → S.1 20 i = nI ((ordF (S.1 14)).getD i 0)) ∨ x = 0) : ∃ T, f_X1_readInto_13_64 x S = some T ∧ zW S T 64 (fun t => rd (S.1 14) (lwF x (S.1 16) (S.1 18) (S.1 17) (nI t)) 0) := by
  have hclear : ∃ T, f_X1_readInto_13_64 x S = f_X1_readInto_13_64_L20 zN x 0 T ∧ zW S T 64 (fun _ => 0) := by
    unfold f_X1_readInto_13_64
    refine loopI (f := fun n (T : zS) i => f_X1_readInto_13_64_L2 n x (nI i) T) (fun i T => T.2 = S.2 ∧ (∀ k', k' ≠ 64 → T.1 k' = S.1 k') ∧ ∀ t, t < i → T.1 64 t = 0) (fun o => ∃ T, o = f_X1_readInto_13_64_L20 zN x 0 T ∧ zW S T 64 (fun _ => 0)) (c := 4) ?_ ?_ 4 0 zN S rfl (by decide) ⟨rfl, fun _ _ => rfl, fun t ht => absurd ht (by omega)⟩
    · rintro n T i hi ⟨a1, a2, a3⟩
      have h4 : nI i < 4 := nI_lt (b := 4) hi (by omega)
      have hz : zin (nI i) 4 = True := zin_T hi (by omega)
      refine ⟨zput T 64 i 0, ?_, a1, fun k' hk => (zput1_ne T 64 i k' 0 hk).trans (a2 k' hk), fun t ht => ?_⟩
      · show f_X1_readInto_13_64_L2 (n + 1) x (nI i) T = _
        rw [f_X1_readInto_13_64_L2]
        simp only [h4, hz, ↓reduceIte, zlet_def, nI_1, nI_clamp (show i < 2 ^ 31 by omega)]
      · rw [zput1_eq]
        by_cases hti : t = i
        · subst hti; rw [upd_at]
        · rw [upd_ne _ _ _ _ hti]; exact a3 t (by omega)
    · rintro n T ⟨a1, a2, a3⟩
      refine ⟨T, ?_, a1, a2, a3⟩
      show f_X1_readInto_13_64_L2 (n + 1) x (nI 4) T = _
      rw [f_X1_readInto_13_64_L2, if_neg (by decide)]
  obtain ⟨T0, e0, w0⟩ := hclear
  rw [e0]
  rcases ho with ho | ho
  · refine loopI (f := fun n (T : zS) i => f_X1_readInto_13_64_L20 n x (nI i) T) (fun i T => zW S T 64 (fun t => foldN (fun acc i => lwF x (S.1 16) (S.1 18) (S.1 17) (nI t) acc ((ordF (S.1 14)).getD i 0)) 0 i 0)) (fun o => ∃ T, o = some T ∧ zW S T 64 (fun t => rd (S.1 14) (lwF x (S.1 16) (S.1 18) (S.1 17) (nI t)) 0)) (c := 12) ?_ ?_ 12 0 zN T0 rfl (by decide) w0
    · rintro n T i hi hw
      have h12 : nI i < 12 := nI_lt (b := 12) hi (by omega)
      have hz : zin (nI i) 12 = True := zin_T hi (by omega)
      have hb := ordF_lt (S.1 14) i
      have hsn : ∀ t, foldN (fun acc i => lwF x (S.1 16) (S.1 18) (S.1 17) (nI t) acc ((ordF (S.1 14)).getD i 0)) 0 (i + 1) 0 = lwF x (S.1 16) (S.1 18) (S.1 17) (nI t) (foldN (fun acc i => lwF x (S.1 16) (S.1 18) (S.1 17) (nI t) acc ((ordF (S.1 14)).getD i 0)) 0 i 0) ((ordF (S.1 14)).getD i 0) := fun t => by rw [foldN_snoc, Nat.zero_add]
      simp only [hsn]
      have heq : ∀ Y, f_X1_readInto_13_64_L20 (n + 1) x (nI i) T = Y ↔ f_X1_readInto_13_64_L20 (n + 1) x (nI i) T = Y := fun _ => Iff.rfl
      have e14 := hw.2.1 14 (by decide)
      have e16 := hw.2.1 16 (by decide)
      have e17 := hw.2.1 17 (by decide)
      have e18 := hw.2.1 18 (by decide)
      have e20 := hw.2.1 20 (by decide)
      have hstep : f_X1_readInto_13_64_L20 (n + 1) x (nI i) T = f_X1_readInto_13_64_L20 (n + 1) x (nI i) T := rfl
      conv at hstep => rhs; rw [f_X1_readInto_13_64_L20]
      simp only [h12, hz, ↓reduceIte, zlet_def, nI_1, nI_clamp (show i < 2 ^ 31 by omega), e20, ho i hi] at hstep
      generalize (ordF (S.1 14)).getD i 0 = b at hb hstep ⊢
      have hb0 : ¬ nI b < 0 := nI_not_neg (by omega)
      have hb12 : nI b < 12 := nI_lt (b := 12) hb (by omega)
      have hzb : zin (nI b) 12 = True := zin_T hb (by omega)
      simp only [hb0, hb12, hzb, ↓reduceIte, b_ask0 x (show b < 31 by omega), nI_clamp (show b < 2 ^ 31 by omega), e16, e17, e18, f_X1_readInto_13_64_B114, zlet_def, nI_1] at hstep
      by_cases hx : bt x b = true
      · simp only [hx, Bool.true_eq_false, ↓reduceIte] at hstep
        by_cases ht0 : S.1 16 b < 0
        · simp only [ht0, ↓reduceIte] at hstep
          refine ⟨T, hstep, hw.1, hw.2.1, fun t ht => (hw.2.2 t ht).trans ?_⟩
          exact (lwF_skip (fun z => by have z2 := z.2; rw [z2] at ht0; exact nI_not_neg (by omega) ht0)).symm
        · obtain ⟨j, hj, ej⟩ := nI_of ht0
          by_cases ht4 : S.1 16 b < 4
          · have hj4 : j < 4 := by
              rw [ej] at ht4
              exact (nI_ltI (b := 4) hj (by omega)).mp ht4
            have hzj : zin (nI j) 4 = True := zin_T hj4 (by omega)
            have hne : ∀ t, t < 4 → t ≠ j → ∀ acc, lwF x (S.1 16) (S.1 18) (S.1 17) (nI t) acc b = acc := fun t ht htj acc => by
              exact lwF_skip (fun z => htj ((nI_eq (by omega) (by omega)).mp (z.2.symm.trans ej)))
            rw [ej] at ht0 ht4 hstep
            simp only [ht0, ht4, hzj, ↓reduceIte, nI_clamp hj] at hstep
            by_cases ha : S.1 18 b < 0
            · simp only [ha, ↓reduceIte] at hstep
              refine ⟨_, hstep, zW_put hw ?_ (fun t ht htj => hne t ht htj _)⟩
              exact (lwF_set hx ej).trans (if_pos ha)
            · simp only [ha, ↓reduceIte] at hstep
              refine ⟨_, hstep, zW_put hw ?_ (fun t ht htj => hne t ht htj _)⟩
              rw [hw.2.2 j hj4]
              exact (lwF_set hx ej).trans (if_neg ha)
          · simp only [ht0, ht4, ↓reduceIte] at hstep
            refine ⟨T, hstep, hw.1, hw.2.1, fun t ht => (hw.2.2 t ht).trans ?_⟩
            exact (lwF_skip (fun z => ht4 (by rw [z.2]; exact nI_lt (b := 4) ht (by omega)))).symm
      · simp only [hx, ↓reduceIte] at hstep
        refine ⟨T, hstep, hw.1, hw.2.1, fun t ht => (hw.2.2 t ht).trans ?_⟩
        exact (lwF_skip (fun z => hx z.1)).symm
    · rintro n T hw
      refine ⟨T, ?_, hw.1, hw.2.1, fun t ht => (hw.2.2 t ht).trans ?_⟩
      · show f_X1_readInto_13_64_L20 (n + 1) x (nI 12) T = _
        rw [f_X1_readInto_13_64_L20, if_neg (by decide)]
      · exact ord_fold hO _ _
  · subst ho
    refine loopI (f := fun n (T : zS) i => f_X1_readInto_13_64_L20 n 0 (nI i) T) (fun i T => zW S T 64 (fun t => 0)) (fun o => ∃ T, o = some T ∧ zW S T 64 (fun t => rd (S.1 14) (lwF 0 (S.1 16) (S.1 18) (S.1 17) (nI t)) 0)) (c := 12) ?_ ?_ 12 0 zN T0 rfl (by decide) w0
    · rintro n T i hi hw
      have h12 : nI i < 12 := nI_lt (b := 12) hi (by omega)
      have hz : zin (nI i) 12 = True := zin_T hi (by omega)
      refine ⟨T, ?_, hw⟩
      show f_X1_readInto_13_64_L20 (n + 1) 0 (nI i) T = _
      rw [f_X1_readInto_13_64_L20]
      simp only [h12, hz, ↓reduceIte, zlet_def, nI_1, zsh0, ite_self]
    · rintro n T hw
      refine ⟨T, ?_, hw.1, hw.2.1, fun t ht => (hw.2.2 t ht).trans ?_⟩
      · show f_X1_readInto_13_64_L20 (n + 1) 0 (nI 12) T = _
        rw [f_X1_readInto_13_64_L20, if_neg (by decide)]
      · exact (rd_id (G := lwF 0 (S.1 16) (S.1 18) (S.1 17) (nI t)) (fun acc b _ => lwF_skip (by rw [b_0]; simp)) 0).symm
theorem joyX64 {T : zS} {N by_ want : Nat → Int32} {st c tp pa p : Nat} (hst : st ≤ 12) (hc : c ≤ 12) (htp : tp ≤ 4) (p5 : T.1 5 2 = nI tp) (hp : p < pa) (hpa : pa ≤ 3) (hs : ∀ b, b < c → isI (-9) 9 (N (8 * b + 5))) (hw : ∀ t, t < tp → T.1 64 t = lwN N st c (stdN N c) (nI t)) (hH : ∀ p t, p < pa → t < tp → isI 0 9 (by_ (4 * p + t)) ∧ T.1 8 (4 * p + t) = by_ (4 * p + t) ∧ (by_ (4 * p + t) ≠ 0 → isI (-9) 9 (want (4 * p + t)) ∧ T.1 7 (4 * p + t) = want (4 * p + t))) : f_X4_joyOf_5_64 (nI p) T = some (joyN N st c tp by_ want p, T) := by
  have h := loopN (f := fun n acc t S => f_X4_joyOf_5_64_L5 n (nI p) acc t S) (S := T) (c := tp) (g := fun acc t => acc - (if by_ (4 * p + t) = 0 then 0 else by_ (4 * p + t) * apF (lwN N st c (stdN N c) (nI t)) (want (4 * p + t)))) (fun n acc t ht => by
    have h1 : nI t < nI tp := nI_lt ht (by omega)
    have h4 : nI t < 4 := nI_lt (b := 4) (by omega) (by omega)
    have e4 : nI p * (4 : Int32) + nI t = nI (4 * p + t) := by rw [show (4 : Int32) = nI 4 from rfl, pk_mul, nI_add, Nat.mul_comm]
    have hz : zin (nI (4 * p + t)) 12 = True := zin_T (by omega) (by omega)
    have hz4 : zin (nI t) 4 = True := zin_T (by omega) (by omega)
    have hn : ¬ nI (4 * p + t) < 0 := nI_not_neg (by omega)
    have h12 : nI (4 * p + t) < 12 := nI_lt (b := 12) (by omega) (by omega)
    obtain ⟨w1, w2, w3⟩ := hH p t hp ht
    show f_X4_joyOf_5_64_L5 (n + 1) (nI p) acc (nI t) T = _
    rw [f_X4_joyOf_5_64_L5, p5]
    simp only [h1, h4, e4, hz, hz4, hn, h12, ↓reduceIte, nI_clamp (show 4 * p + t < 2 ^ 31 by omega), nI_clamp (show t < 2 ^ 31 by omega), zlet_def, nI_1, hw t ht, w2]
    by_cases h0 : by_ (4 * p + t) = 0
    · have : ∀ y : Int32, (0 : Int32) * y = 0 := fun y => by grind
      simp [h0, this]
    · obtain ⟨w4, w5⟩ := w3 h0
      obtain ⟨w6, w7⟩ := isI_toInt w4 (by omega) (by omega)
      rw [w5, apart_abs (lwN_bd hst hc hs _ _) ⟨by omega, by omega⟩, if_neg h0]) (fun n acc => by
    show f_X4_joyOf_5_64_L5 (n + 1) (nI p) acc (nI tp) T = _
    rw [f_X4_joyOf_5_64_L5, p5, if_neg (nI_nlt (Nat.le_refl tp) (by omega))]) tp 0 zN 0 (by omega) (by show tp < 10000; omega)
  exact h
/-- sorted, or nothing stands -/
theorem ord_std {Sx Sm : zS} {st pl tp c : Nat} {X43 X44 M21 : Nat → Int32} {ma mu : Int32} (hN : okN st pl tp c (Sm.1 19)) (hA : rA st pl tp (Sx.1 37) (Sx.1 38) (Sx.1 39) (Sx.1 14) (Sx.1 15) (Sx.1 16) (Sx.1 17) (Sx.1 18) (Sx.1 19) (Sx.1 20) X43 X44 (Sm.1 19) M21 ma mu) : (∀ i, i < 12 → Sx.1 20 i = nI ((ordF (Sx.1 14)).getD i 0)) ∨ c = 0 := by
  rcases ac_ord hA with h | h
  · exact Or.inl h
  · right
    have := hN.1
    exact (nI_eq (a := c) (b := 0) (by omega) (by omega)).mp (hN.2.1.symm.trans h)
theorem joyNowX {Sx Sm : zS} (h : zRel Sx Sm) : ∃ st tp c pa : Nat, st ≤ 12 ∧ tp ≤ 4 ∧ c ≤ 12 ∧ pa ≤ 3 ∧ Sx.1 5 3 = nI pa ∧ Sm.1 0 45 = nI pa ∧ Sm.1 0 42 = nI st ∧ Sm.1 0 44 = nI tp ∧ Sm.1 19 96 = nI c ∧ ∀ p, p < pa → ∃ T, f_X11_joyNow (nI p) Sx = some (joyN (Sm.1 19) st c tp (Sm.1 15) (Sm.1 14) p, T) ∧ xKeep Sx T := by
  obtain ⟨-, -, -, -, -, -, hO, st, pl, tp, pa, hH, hA, hI⟩ := id h
  obtain ⟨c, hN, hB, e0, e1, e2, hl⟩ := ac_now hA
  obtain ⟨-, hst, -, htp, hpa, p1, p2, -, -, p5, p6, p7, p8, -, -, -, -, -, -, hW⟩ := hH
  have hc := hN.1
  refine ⟨st, tp, c, pa, hst, htp, hc, hpa, p7, p8, p2, p6, hN.2.1, fun p hp => ?_⟩
  unfold f_X11_joyNow
  rw [(stdNowX hN hB e0 (fun b hb => (hl b hb).1)).1, zb_def]
  obtain ⟨T, eT, w1, w2, w3⟩ := readX65 (S := Sx) (x := stdN (Sm.1 19) c) hO.1 (by
    rcases ord_std hN hA with h | h
    · exact Or.inl h
    · right; subst h; exact stdN_0 _)
  have hw : ∀ t, t < tp → T.1 65 t = lwN (Sm.1 19) st c (stdN (Sm.1 19) c) (nI t) := fun t ht => (w3 t (by omega)).trans (law_rd hst hN hB (stdN_hi _ (by omega)) (nI t))
  rw [eT, zu_def, joyX65 (T := T) hst hc htp (by rw [w2 5 (by decide)]; exact p5) hp hpa (fun b hb => (hN.2.2.2.2 b hb).2.2.2.2.1) hw (by rw [w2 8 (by decide), w2 7 (by decide)]; exact hW), zb_def]
  exact ⟨T, rfl, w1, fun k hk => w2 k (fun z => hk (by rw [z]; decide))⟩
theorem joyNowM {S : zS} {st c tp p : Nat} (hst : st ≤ 12) (p2 : S.1 0 42 = nI st) (htp : tp ≤ 4) (p6 : S.1 0 44 = nI tp) (hc : c ≤ 12) (e : S.1 19 96 = nI c) (hp : p < 3) : f_X12_joyOf (nI p) (zld S 0) = some (joyN (S.1 19) st c tp (S.1 15) (S.1 14) p, zld S 0) := by
  rw [joyM (S := zld S 0) hst p2 htp p6 hc ((zld_at S (by omega)).trans e) hp, joyN_congr (fun i hi => zld_at S hi) hc]
  rfl
theorem op_joy : zSt1 zRel f_X11_joy f_X12_joy := by
  intro a Sx Sm h
  obtain ⟨st, tp, c, pa, hst, htp, hc, hpa, p7, p8, p2, p6, e96, hJ⟩ := joyNowX h
  show zSame _ _
  unfold f_X11_joy f_X12_joy
  rw [loadM, zu_def, isPartyX hpa p7, isPartyM (S := zld Sm 0) hpa p8, zb_def, zb_def, z01, z01]
  by_cases ca : ¬ a < 0 ∧ a < nI pa
  · obtain ⟨p, hp, rfl⟩ := nI_of ca.1
    have hpp : p < pa := (nI_ltI hp (by omega)).mp ca.2
    obtain ⟨T, eT, kT⟩ := hJ p hpp
    rw [if_pos ca, if_pos ca, eT, zb_def, joyNowM hst p2 htp p6 hc e96 (by omega), zb_def]
    exact zsame (zRel_x kT (zld_rel h))
  · rw [if_neg ca, if_neg ca]
    exact zsame (zld_rel h)
theorem op_saddest : zSt0 zRel f_X11_saddest f_X12_saddest := by
  intro Sx Sm h
  obtain ⟨st, tp, c, pa, hst, htp, hc, hpa, p7, p8, p2, p6, e96, -⟩ := joyNowX h
  show zSame _ _
  unfold f_X11_saddest f_X12_saddest
  rw [loadM, zu_def]
  refine loopR (f := fun n (a : Int32 × Int32 × zS) b => f_X11_saddest_L6 n a.1 a.2.1 (nI b) a.2.2) (f' := fun n (a : Int32) b => f_X12_saddest_L8 n a (nI b) (zld Sm 0)) (fun b a a' => a.1 = a' ∧ xKeep Sx a.2.2 ∧ (a' = -1 ∨ ∃ p, p < pa ∧ a' = nI p ∧ a.2.1 = joyN (Sm.1 19) st c tp (Sm.1 15) (Sm.1 14) p)) zSame (c := pa) ?_ ?_ pa 0 zN zN (-1, 0, Sx) (-1) (by omega) (by show pa < 10000; omega) (by show pa < 10000; omega) ⟨rfl, xKeep_rfl _, Or.inl rfl⟩
  · rintro n n' ⟨x1, x2, S⟩ a' b hb ⟨ha, hk, hj⟩
    dsimp only at ha hk hj ⊢
    subst ha
    have hR := zRel_x hk h
    obtain ⟨st', tp', c', pa', hst', htp', hc', hpa', p7', p8', p2', p6', e96', hJ⟩ := joyNowX hR
    have q1 : pa' = pa := (nI_eq (by omega) (by omega)).mp (p8'.symm.trans p8)
    have q2 : st' = st := (nI_eq (by omega) (by omega)).mp (p2'.symm.trans p2)
    have q3 : tp' = tp := (nI_eq (by omega) (by omega)).mp (p6'.symm.trans p6)
    have q4 : c' = c := (nI_eq (by omega) (by omega)).mp (e96'.symm.trans e96)
    subst q1; subst q2; subst q3; subst q4
    obtain ⟨T, eT, kT⟩ := hJ b hb
    have h1 : nI b < nI pa' := nI_lt hb (by omega)
    have hbm : joyN (Sm.1 19) st' c' tp' (Sm.1 15) (Sm.1 14) b = joyN (Sm.1 19) st' c' tp' (Sm.1 15) (Sm.1 14) b := rfl
    have jb := joyNowM (p := b) hst p2 htp p6 hc e96 (by omega)
    have p8'' : (zld Sm 0).1 0 45 = nI pa' := p8
    rw [f_X11_saddest_L6, p7', if_pos h1, eT, zb_def, f_X12_saddest_L8, p8'', if_pos h1]
    rcases hj with rfl | ⟨p, hp, rfl, hjp⟩
    · refine ⟨(nI b, joyN (Sm.1 19) st' c' tp' (Sm.1 15) (Sm.1 14) b, T), nI b, ?_, ?_, rfl, xKeep_trans hk kT, Or.inr ⟨b, hb, rfl, rfl⟩⟩
      · rw [if_pos rfl, zlet_def, nI_1]
      · rw [if_pos (by decide), zlet_def, nI_1]
    · have hn : ¬ nI p = -1 := nI_neg1 (by omega)
      have hn2 : ¬ nI p < 0 := nI_not_neg (by omega)
      have jp := joyNowM (p := p) hst p2 htp p6 hc e96 (by omega)
      rw [if_neg hn, if_neg hn2, jb, zb_def, jp, zb_def, hjp]
      by_cases hlt : joyN (Sm.1 19) st' c' tp' (Sm.1 15) (Sm.1 14) b < joyN (Sm.1 19) st' c' tp' (Sm.1 15) (Sm.1 14) p
      · refine ⟨(nI b, joyN (Sm.1 19) st' c' tp' (Sm.1 15) (Sm.1 14) b, T), nI b, ?_, ?_, rfl, xKeep_trans hk kT, Or.inr ⟨b, hb, rfl, rfl⟩⟩
        · rw [if_pos hlt, zlet_def, nI_1]
        · rw [if_pos hlt, zlet_def, nI_1]
      · refine ⟨(nI p, joyN (Sm.1 19) st' c' tp' (Sm.1 15) (Sm.1 14) p, T), nI p, ?_, ?_, rfl, xKeep_trans hk kT, Or.inr ⟨p, hp, rfl, rfl⟩⟩
        · rw [if_neg hlt, zlet_def, nI_1]
        · rw [if_neg hlt, zlet_def, nI_1]
  · rintro n n' ⟨x1, x2, S⟩ a' ⟨ha, hk, hj⟩
    dsimp only at ha hk hj ⊢
    subst ha
    have p8'' : (zld Sm 0).1 0 45 = nI pa := p8
    have p7' : S.1 5 3 = nI pa := by rw [hk.2 5 (by decide)]; exact p7
    rw [f_X11_saddest_L6, p7', if_neg (nI_nlt (Nat.le_refl pa) (by omega)), f_X12_saddest_L8, p8'', if_neg (nI_nlt (Nat.le_refl pa) (by omega))]
    exact zsame (zRel_x hk (zld_rel h))
