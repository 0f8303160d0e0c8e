/-! ===== what holds between two lines ===== -/
def b2 (g : Bool) : Int32 := if g then 1 else 0
def bN (g : Bool) : Nat := if g then 1 else 0
def pA (st pl tp bl pa : Nat) (X21 M0 : Nat → Int32) : Prop := (2 ≤ st ∧ st ≤ 12 ∧ pl ≤ 4 ∧ tp ≤ 4 ∧ bl ≤ 8 ∧ pa ≤ 3) ∧ X21 0 = nI st ∧ M0 34 = nI st ∧ X21 1 = nI pl ∧ M0 35 = nI pl ∧ X21 2 = nI tp ∧ M0 36 = nI tp ∧ X21 3 = nI pa ∧ M0 38 = nI pa ∧ X21 4 = nI bl ∧ M0 37 = nI bl
def pFr (X21 M0 : Nat → Int32) : Prop := X21 9 = M0 39 ∧ isI 0 100 (M0 39) ∧ X21 10 = M0 40 ∧ isI 1 99 (M0 40) ∧ X21 11 = M0 41 ∧ isI 0 999 (M0 41)
def pHd (pl hb : Nat) (X21 X22 M10 M16 : Nat → Int32) : Prop := hb < 2 ^ pl ∧ X21 6 = nI hb ∧ (∀ p, p < pl → M16 p = if hb.testBit p then 1 else 0) ∧ ∀ p, p < pl → isI 1 99 (M10 p) ∧ X22 p = M10 p
def pL (ln : Nat) (g f d : Bool) (X2 M0 : Nat → Int32) : Prop := ln ≤ 1601 ∧ X2 9 = nI ln ∧ M0 48 = (if ln = 0 then 0 else 1) ∧ X2 10 = nI (64 * bN g + 128 * bN f + 256 * bN d) ∧ M0 49 = b2 g ∧ M0 50 = b2 f ∧ M0 51 = b2 d
def pNm (pl tp bl pa : Nat) (X M : zS) : Prop := nmOk 0 pl X M ∧ nmOk 4 tp X M ∧ nmOk 8 bl X M ∧ nmOk 16 pa X M
def pW (pa : Nat) (X23 X24 M12 M13 : Nat → Int32) : Prop := (∀ p t, p < pa → t < 4 → isI 0 9 (M13 (4 * p + t)) ∧ X24 (4 * p + t) = M13 (4 * p + t) ∧ (M13 (4 * p + t) ≠ 0 → isI (-9) 9 (M12 (4 * p + t)) ∧ X23 (4 * p + t) = M12 (4 * p + t))) ∧ ∀ p t, pa ≤ p → p < 3 → t < 4 → X24 (4 * p + t) = 0
def pBl1 (st pl tp b : Nat) (X30 X31 X32 X33 X34 X35 M10 M18 : Nat → Int32) : Prop := isI 0 99 (M18 (8 * b)) ∧ M18 (8 * b + 1) = 0 ∧ (∃ s : Nat, s < st ∧ M18 (8 * b + 2) = nI s) ∧ (∃ p : Nat, p < pl ∧ M18 (8 * b + 3) = nI p ∧ M18 (8 * b) = M10 p) ∧ isI (-1) (tp - 1) (M18 (8 * b + 4)) ∧ isI (-9) 9 (M18 (8 * b + 5)) ∧ isI (-1) (b - 1) (M18 (8 * b + 6)) ∧ isI (-1) (b - 1) (M18 (8 * b + 7)) ∧ X30 b = M18 (8 * b + 2) ∧ X31 b = M18 (8 * b + 3) ∧ X32 b = M18 (8 * b + 4) ∧ X33 b = M18 (8 * b + 5) ∧ X34 b = M18 (8 * b + 6) ∧ X35 b = M18 (8 * b + 7)
def pBl (st pl tp bl : Nat) (X30 X31 X32 X33 X34 X35 M10 M18 : Nat → Int32) : Prop := (∀ b, b < bl → pBl1 st pl tp b X30 X31 X32 X33 X34 X35 M10 M18) ∧ ∀ b, b < 12 → ∃ s : Nat, s < 12 ∧ X30 b = nI s
def pFm (g : Bool) (X25 X26 M0 M3 M4 : Nat → Int32) : Prop := (g = false → X25 0 = 0 ∧ X25 1 = 0 ∧ M0 20 = 0) ∧ (g = true → ∃ len, 0 < len ∧ X25 1 = nI len ∧ rFm (X25 0) (X25 1) (M0 20) (M0 17) 1 X26 M3 M4)
/-- what was read so far: all but the token -/
def pI (st pl tp bl pa ln hb : Nat) (g f d : Bool) (X M : zS) : Prop := pA st pl tp bl pa (X.1 21) (M.1 0) ∧ pFr (X.1 21) (M.1 0) ∧ pHd pl hb (X.1 21) (X.1 22) (M.1 10) (M.1 16) ∧ pL ln g f d (X.1 2) (M.1 0) ∧ pNm pl tp bl pa X M ∧ pW pa (X.1 23) (X.1 24) (M.1 12) (M.1 13) ∧ pBl st pl tp bl (X.1 30) (X.1 31) (X.1 32) (X.1 33) (X.1 34) (X.1 35) (M.1 10) (M.1 18) ∧ pFm g (X.1 25) (X.1 26) (M.1 0) (M.1 3) (M.1 4)
theorem pA_0 {st pl tp bl pa : Nat} {X21 M0 M0' : Nat → Int32} (h : pA st pl tp bl pa X21 M0) (e : ∀ i, 34 ≤ i → i ≤ 38 → M0' i = M0 i) : pA st pl tp bl pa X21 M0' := by
  unfold pA at h ⊢
  rw [e 34 (by omega) (by omega), e 35 (by omega) (by omega), e 36 (by omega) (by omega), e 37 (by omega) (by omega), e 38 (by omega) (by omega)]
  exact h
theorem pFr_0 {X21 M0 M0' : Nat → Int32} (h : pFr X21 M0) (e : ∀ i, 39 ≤ i → i ≤ 41 → M0' i = M0 i) : pFr X21 M0' := by
  unfold pFr at h ⊢
  rw [e 39 (by omega) (by omega), e 40 (by omega) (by omega), e 41 (by omega) (by omega)]
  exact h
theorem pL_0 {ln : Nat} {g f d : Bool} {X2 X2' M0 M0' : Nat → Int32} (h : pL ln g f d X2 M0) (e1 : X2' 9 = X2 9) (e2 : X2' 10 = X2 10) (e : ∀ i, 48 ≤ i → i ≤ 51 → M0' i = M0 i) : pL ln g f d X2' M0' := by
  unfold pL at h ⊢
  rw [e1, e2, e 48 (by omega) (by omega), e 49 (by omega) (by omega), e 50 (by omega) (by omega), e 51 (by omega) (by omega)]
  exact h
theorem pFm_0 {g : Bool} {X25 X26 M0 M0' M3 M4 : Nat → Int32} (h : pFm g X25 X26 M0 M3 M4) (e1 : M0' 20 = M0 20) (e2 : M0' 17 = M0 17) : pFm g X25 X26 M0' M3 M4 := by
  unfold pFm at h ⊢
  rw [e1, e2]
  exact h
theorem pI_y {st pl tp bl pa ln hb : Nat} {g f d : Bool} {X M X' M' : zS} (h : pI st pl tp bl pa ln hb g f d X M) (hX : yX X X') (hM : yM M M') : pI st pl tp bl pa ln hb g f d X' M' := by
  obtain ⟨a1, a2, a3, a4, ⟨n1, n2, n3, n4⟩, a6, a7, a8⟩ := h
  have m : ∀ i, 9 ≤ i → M'.1 0 i = M.1 0 i := fun i hi => hM.2.1 i (by omega) (by omega) (by omega) (by omega)
  unfold pI
  rw [hX.1 21 (by decide), hX.1 22 (by decide), hX.1 23 (by decide), hX.1 24 (by decide), hX.1 25 (by decide), hX.1 26 (by decide), hX.1 30 (by decide), hX.1 31 (by decide), hX.1 32 (by decide), hX.1 33 (by decide), hX.1 34 (by decide), hX.1 35 (by decide), hM.1 3 (by decide), hM.1 4 (by decide), hM.1 10 (by decide), hM.1 12 (by decide), hM.1 13 (by decide), hM.1 16 (by decide), hM.1 18 (by decide)]
  exact ⟨pA_0 a1 (fun i h1 _ => m i (by omega)), pFr_0 a2 (fun i h1 _ => m i (by omega)), a3, pL_0 a4 (hX.2.1 9 (by omega)) (hX.2.1 10 (by omega)) (fun i h1 _ => m i (by omega)), ⟨nmOk_y n1 hX hM, nmOk_y n2 hX hM, nmOk_y n3 hX hM, nmOk_y n4 hX hM⟩, a6, a7, pFm_0 a8 (m 20 (by omega)) (m 17 (by omega))⟩
/-! the token stays while other cells change -/
theorem cur_e {cb : Nat → Nat} {n q : Nat} {X M X' M' : zS} (h : cur cb n q X M) (x1 : X'.1 1 = X.1 1) (x2 : ∀ i, i < 9 → X'.1 2 i = X.1 2 i) (x3 : X'.2 2 8 = X.2 2 8) (x4 : ∀ i, X'.2 4 i = X.2 4 i) (m1 : M'.1 1 = M.1 1) (m2 : ∀ i, 2 ≤ i → i < 9 → M'.1 0 i = M.1 0 i) (m3 : M'.2 0 9 = M.2 0 9) : cur cb n q X' M' := by
  obtain ⟨⟨t1, t2, t3, t4, t5⟩, ⟨b, hk⟩, h0, h1, h2, h3⟩ := h
  refine ⟨⟨t1, by rw [x2 3 (by omega)]; exact t2, by rw [m2 5 (by omega) (by omega)]; exact t3, by rw [x1, m1]; exact t4, fun i hi => by rw [x4]; exact t5 i hi⟩, ⟨b, ?_⟩, by rw [x2 0 (by omega)]; exact h0, by rw [x2 1 (by omega)]; exact h1, by rw [m2 2 (by omega) (by omega)]; exact h2, by rw [m2 3 (by omega) (by omega)]; exact h3⟩
  rw [x2 4 (by omega), x2 5 (by omega), x2 6 (by omega), x2 7 (by omega), x3, m2 4 (by omega) (by omega), m2 6 (by omega) (by omega), m2 7 (by omega) (by omega), m2 8 (by omega) (by omega), m3]
  exact hk
theorem cur_X {cb : Nat → Nat} {n q k i : Nat} {X M : zS} {x : Int32} (h : cur cb n q X M) (h1 : k ≠ 1) (h2 : k ≠ 2) : cur cb n q (zput X k i x) M := cur_e h (zput1_ne _ _ _ _ _ (Ne.symm h1)) (fun j _ => by rw [zput1_ne _ _ _ _ _ (Ne.symm h2)]) rfl (fun _ => rfl) rfl (fun _ _ _ => rfl) rfl
theorem cur_X2 {cb : Nat → Nat} {n q i : Nat} {X M : zS} {x : Int32} (h : cur cb n q X M) (hi : 9 ≤ i) : cur cb n q (zput X 2 i x) M := cur_e h (zput1_ne _ _ _ _ _ (by decide)) (fun j hj => by rw [zput1_eq, upd_ne _ _ _ _ (by omega)]) rfl (fun _ => rfl) rfl (fun _ _ _ => rfl) rfl
theorem cur_M {cb : Nat → Nat} {n q k i : Nat} {X M : zS} {x : Int32} (h : cur cb n q X M) (h1 : k ≠ 1) (h2 : k ≠ 0) : cur cb n q X (zput M k i x) := cur_e h rfl (fun _ _ => rfl) rfl (fun _ => rfl) (zput1_ne _ _ _ _ _ (Ne.symm h1)) (fun j _ _ => by rw [zput1_ne _ _ _ _ _ (Ne.symm h2)]) rfl
theorem cur_M0 {cb : Nat → Nat} {n q i : Nat} {X M : zS} {x : Int32} (h : cur cb n q X M) (hi : 9 ≤ i ∨ i = 1) : cur cb n q X (zput M 0 i x) := cur_e h rfl (fun _ _ => rfl) rfl (fun _ => rfl) (zput1_ne _ _ _ _ _ (by decide)) (fun j h1 h2 => by rw [zput1_eq, upd_ne _ _ _ _ (by omega)]) rfl
/-! what reading leaves alone -/
def gX (S T : zS) : Prop := (∀ k, k ≠ 2 → (k < 21 ∨ 36 < k) → T.1 k = S.1 k) ∧ (∀ i, T.2 4 i = S.2 4 i) ∧ ((∀ b, b < 12 → ∃ s : Nat, s < 12 ∧ S.1 30 b = nI s) → ∀ b, b < 12 → ∃ s : Nat, s < 12 ∧ T.1 30 b = nI s)
def gPr : List Nat := [1, 5, 18, 21, 42, 43, 44, 45, 46, 47, 52, 56, 57, 60, 72, 73]
def gFr : List Nat := [0, 3, 4, 7, 10, 12, 13, 16, 18]
def gMf (S T : zS) : Prop := (∀ k, k ∉ gFr → T.1 k = S.1 k) ∧ ∀ i, i ∈ gPr → T.1 0 i = S.1 0 i
theorem gX_rfl (S : zS) : gX S S := ⟨fun _ _ _ => rfl, fun _ => rfl, fun h => h⟩
theorem gMf_rfl (S : zS) : gMf S S := ⟨fun _ _ => rfl, fun _ _ => rfl⟩
theorem gX_trans {S T U : zS} (h : gX S T) (h' : gX T U) : gX S U := ⟨fun k a b => (h'.1 k a b).trans (h.1 k a b), fun i => (h'.2.1 i).trans (h.2.1 i), fun z => h'.2.2 (h.2.2 z)⟩
theorem gMf_trans {S T U : zS} (h : gMf S T) (h' : gMf T U) : gMf S U := ⟨fun k a => (h'.1 k a).trans (h.1 k a), fun i hi => (h'.2 i hi).trans (h.2 i hi)⟩
theorem gX_a {S T : zS} (h : aX S T) : gX S T := ⟨fun k a _ => h.1 k a, fun i => h.2 4 i (Or.inr rfl), fun z => by rw [h.1 30 (by decide)]; exact z⟩
theorem gX_y {S T : zS} (h : yX S T) : gX S T := gX_a (aX_y h)
theorem gMf_a {S T : zS} (h : aM S T) : gMf S T := ⟨fun k hk => h.1 k (fun z => hk (by rw [z]; decide)), fun i hi => by
  have : i = 1 ∨ i = 5 ∨ 9 ≤ i := by
    simp only [gPr, List.mem_cons, List.not_mem_nil, or_false] at hi
    omega
  exact h.2.1 i (by omega) (by omega) (by omega) (by omega) (by omega) (by omega)⟩
theorem gMf_y {S T : zS} (h : yM S T) : gMf S T := gMf_a (aM_y h)
theorem gX_put {S : zS} {k i : Nat} {x : Int32} (h : k = 2 ∨ 21 ≤ k ∧ k ≤ 36) (h30 : k ≠ 30) : gX S (zput S k i x) := ⟨fun k' a b => zput1_ne _ _ _ _ _ (by omega), fun _ => rfl, fun z => by rw [zput1_ne _ _ _ _ _ (Ne.symm h30)]; exact z⟩
theorem gX_30 {S : zS} {b s : Nat} (hs : s < 12) : gX S (zput S 30 b (nI s)) := ⟨fun k' a c => zput1_ne _ _ _ _ _ (by omega), fun _ => rfl, fun z b' hb' => by
  rw [zput1_eq]
  by_cases h : b' = b
  · rw [h, upd_at]; exact ⟨s, hs, rfl⟩
  · rw [upd_ne _ _ _ _ h]; exact z b' hb'⟩
theorem gX_putL {S : zS} {i : Nat} {x : Int64} : gX S (zputL S 3 i x) := ⟨fun _ _ _ => rfl, fun j => by rw [zputL2, if_neg (by omega)], fun z => z⟩
theorem gMf_put {S : zS} {k i : Nat} {x : Int32} (h : k ∈ gFr) (h0 : k ≠ 0) : gMf S (zput S k i x) := ⟨fun k' hk => zput1_ne _ _ _ _ _ (fun z => hk (by rw [z]; exact h)), fun j _ => by rw [zput1_ne _ _ _ _ _ (Ne.symm h0)]⟩
theorem gMf_put0 {S : zS} {i : Nat} {x : Int32} (h : i ∉ gPr) : gMf S (zput S 0 i x) := ⟨fun k' hk => zput1_ne _ _ _ _ _ (fun z => hk (by rw [z]; decide)), fun j hj => by rw [zput1_eq, upd_ne _ _ _ _ (fun z => h (by rw [← z]; exact hj))]⟩
theorem gMf_putL {S : zS} {i : Nat} {x : Int64} : gMf S (zputL S 2 i x) := ⟨fun _ _ => rfl, fun _ _ => rfl⟩
theorem gX_bad {X M X' M' : zS} (h : bad X M X' M') : gX X X' ∧ gMf M M' := ⟨gX_a h.2.1, gMf_a h.2.2⟩
/-- the outcome of a line, the sign at its end not yet asked -/
def lnR (cb : Nat → Nat) (n q ln : Nat) (fx : Option (Int32 × zS)) (fm : (zS → Option zS) → Option zS) (X M : zS) : Prop :=
  (∃ X' M' q' st pl tp bl pa hb g f d, fx = some (1, X') ∧ (∀ K, fm K = K M') ∧ pI st pl tp bl pa ln hb g f d X' M' ∧ cur cb n q' X' M' ∧ q < q' ∧ gX X X' ∧ gMf M M') ∨ ∃ X' M', fx = some (0, X') ∧ (∀ K, fm K = K M') ∧ flt X' M' ∧ gX X X' ∧ gMf M M'
theorem pI_ln {st pl tp bl pa ln hb : Nat} {g f d : Bool} {X M : zS} (h : pI st pl tp bl pa ln hb g f d X M) (hl : ln ≤ 1600) : pI st pl tp bl pa (ln + 1) hb g f d (zput X 2 9 (nI (ln + 1))) (zput M 0 48 1) := by
  obtain ⟨a1, a2, a3, ⟨b1, b2, b3, b4, b5, b6, b7⟩, a5, a6, a7, a8⟩ := h
  exact ⟨a1, a2, a3, ⟨by omega, rfl, rfl, b4, b5, b6, b7⟩, a5, a6, a7, a8⟩
/-! behind a fault the reference goes on and does nothing -/
theorem fWant {M : zS} (h : (0 : Int32) < M.1 0 2) (w : Int64) : f_X12_want w M = some M := by
  unfold f_X12_want; rw [if_pos h]
theorem fNum {M : zS} (h : (0 : Int32) < M.1 0 2) (a b : Int32) : f_X12_toldNumber a b M = some (0, M) := by
  unfold f_X12_toldNumber; rw [if_pos h]
theorem fTold {M : zS} (h : (0 : Int32) < M.1 0 2) (w : Int64) (a b : Int32) : f_X12_told w a b M = some (0, M) := by
  unfold f_X12_told; rw [fWant h, zu_def, fNum h, zb_def]
theorem fVal {M : zS} (h : (0 : Int32) < M.1 0 2) (a : Int32) : f_X12_toldValue a M = some (0, M) := by
  unfold f_X12_toldValue; rw [if_pos h]
theorem fOld {M : zS} (h : (0 : Int32) < M.1 0 2) (a b : Int32) : f_X12_oldName a b M = some (0, M) := by
  unfold f_X12_oldName; rw [if_pos h]
theorem fBeh {M : zS} (h : (0 : Int32) < M.1 0 2) (w : Int64) (a b : Int32) : f_X12_nameBehind w a b M = some (-1, M) := by
  unfold f_X12_nameBehind; rw [if_pos h]
theorem flt_e {X M M' : zS} (h : flt X M) (e2 : M'.1 0 2 = M.1 0 2) (e3 : M'.1 0 3 = M.1 0 3) : flt X M' := by
  obtain ⟨e, p, a, b, c, d1, d2, d3, d4⟩ := h
  exact ⟨e, p, a, b, c, d1, e2.trans d2, d3, e3.trans d4⟩
theorem wantW {cb : Nat → Nat} {n q k : Nat} {X M M1 : zS} (h : cur cb n q X M) (hk : k < 24) (hw : X.1 2 6 = 1 ∧ X.1 2 7 = nI k) (e : f_X12_token M = some M1) : f_X12_want (rwM.getD k 0) M = some M1 := by
  unfold f_X12_want
  rw [if_neg (cur_nf h), wordBM h.2.1 hk, zb_def, z01, if_pos hw, e, zu_def]
theorem toldW {cb : Nat → Nat} {n q k : Nat} {X M M1 : zS} (h : cur cb n q X M) (hk : k < 24) (hw : X.1 2 6 = 1 ∧ X.1 2 7 = nI k) (e : f_X12_token M = some M1) (a b : Int32) : f_X12_told (rwM.getD k 0) a b M = f_X12_toldNumber a b M1 := by
  unfold f_X12_told
  rw [wantW h hk hw e, zu_def]
  cases f_X12_toldNumber a b M1 with
  | none => rfl
  | some z => rfl
