/-! ===== the formula: a sign, a unit; the code ===== -/
theorem signM {n q : Nat} {X M : zS} (h : tk n q X M) : f_X12_sign M = some (if jc X = 0 then 0 else oc (jc X), M) := by
  unfold f_X12_sign
  rw [show f_X12_isWord 6385252 M = _ from wordBM h (k := 18) (by omega), zb_def, z01]
  by_cases w18 : X.1 2 6 = 1 ∧ X.1 2 7 = nI 18
  · have e : jc X = -8 := by unfold jc; rw [w18.1, w18.2]; rfl
    rw [if_pos w18, e]; rfl
  rw [if_neg w18, show f_X12_isWord 28530 M = _ from wordBM h (k := 17) (by omega), zb_def, z01]
  by_cases w17 : X.1 2 6 = 1 ∧ X.1 2 7 = nI 17
  · have e : jc X = -7 := by unfold jc; rw [w17.1, w17.2]; rfl
    rw [if_pos w17, e]; rfl
  rw [if_neg w17]
  by_cases s60 : M.1 0 6 = 60
  · have z := (tk_sgn h (c := 60) (by decide)).mp s60
    have e : jc X = -9 := by unfold jc; rw [z.1, z.2]; rfl
    rw [if_pos s60, e, s60]; rfl
  rw [if_neg s60]
  by_cases s62 : M.1 0 6 = 62
  · have z := (tk_sgn h (c := 62) (by decide)).mp s62
    have e : jc X = -10 := by unfold jc; rw [z.1, z.2]; rfl
    rw [if_pos s62, e, s62]; rfl
  rw [if_neg s62]
  by_cases s61 : M.1 0 6 = 61
  · have z := (tk_sgn h (c := 61) (by decide)).mp s61
    have e : jc X = -11 := by unfold jc; rw [z.1, z.2]; rfl
    rw [if_pos s61, e, s61]; rfl
  rw [if_neg s61]
  by_cases s43 : M.1 0 6 = 43
  · have z := (tk_sgn h (c := 43) (by decide)).mp s43
    have e : jc X = -12 := by unfold jc; rw [z.1, z.2]; rfl
    rw [if_pos s43, e, s43]; rfl
  rw [if_neg s43]
  by_cases s45 : M.1 0 6 = 45
  · have z := (tk_sgn h (c := 45) (by decide)).mp s45
    have e : jc X = -13 := by unfold jc; rw [z.1, z.2]; rfl
    rw [if_pos s45, e, s45]; rfl
  rw [if_neg s45]
  by_cases s42 : M.1 0 6 = 42
  · have z := (tk_sgn h (c := 42) (by decide)).mp s42
    have e : jc X = -14 := by unfold jc; rw [z.1, z.2]; rfl
    rw [if_pos s42, e, s42]; rfl
  rw [if_neg s42]
  by_cases s47 : M.1 0 6 = 47
  · have z := (tk_sgn h (c := 47) (by decide)).mp s47
    have e : jc X = -15 := by unfold jc; rw [z.1, z.2]; rfl
    rw [if_pos s47, e, s47]; rfl
  rw [if_neg s47]
  by_cases s37 : M.1 0 6 = 37
  · have z := (tk_sgn h (c := 37) (by decide)).mp s37
    have e : jc X = -16 := by unfold jc; rw [z.1, z.2]; rfl
    rw [if_pos s37, e, s37]; rfl
  rw [if_neg s37]
  have e : jc X = 0 := by
    unfold jc jcF
    by_cases h1 : X.1 2 6 = 1
    · rw [if_pos h1, if_neg (show ¬ X.1 2 7 = 17 from fun z => w17 ⟨h1, z⟩), if_neg (show ¬ X.1 2 7 = 18 from fun z => w18 ⟨h1, z⟩)]
    · rw [if_neg h1]
      by_cases h3 : X.1 2 6 = 3
      · rw [if_pos h3, if_neg (show ¬ X.1 2 7 = 37 from fun z => s37 ((tk_sgn h (c := 37) (by decide)).mpr ⟨h3, z⟩)), if_neg (show ¬ X.1 2 7 = 42 from fun z => s42 ((tk_sgn h (c := 42) (by decide)).mpr ⟨h3, z⟩)), if_neg (show ¬ X.1 2 7 = 43 from fun z => s43 ((tk_sgn h (c := 43) (by decide)).mpr ⟨h3, z⟩)), if_neg (show ¬ X.1 2 7 = 45 from fun z => s45 ((tk_sgn h (c := 45) (by decide)).mpr ⟨h3, z⟩)), if_neg (show ¬ X.1 2 7 = 47 from fun z => s47 ((tk_sgn h (c := 47) (by decide)).mpr ⟨h3, z⟩)), if_neg (show ¬ X.1 2 7 = 60 from fun z => s60 ((tk_sgn h (c := 60) (by decide)).mpr ⟨h3, z⟩)), if_neg (show ¬ X.1 2 7 = 61 from fun z => s61 ((tk_sgn h (c := 61) (by decide)).mpr ⟨h3, z⟩)), if_neg (show ¬ X.1 2 7 = 62 from fun z => s62 ((tk_sgn h (c := 62) (by decide)).mpr ⟨h3, z⟩))]
      · rw [if_neg h3]
  rw [e]; rfl
/-- a unit's token: a number, one of five words, or none -/
theorem unitT {n q : Nat} {X M : zS} (h : tk n q X M) : (∃ v, v ≤ 9999 ∧ X.1 2 6 = 2 ∧ f_X7_singleUnit_2 X = some (nI v, X) ∧ f_X12_asked M = some (-1, M) ∧ M.1 0 6 = 2 ∧ M.1 0 8 = nI v) ∨ (∃ j : Nat, j < 5 ∧ X.1 2 6 = 1 ∧ f_X7_singleUnit_2 X = some (Int32.ofInt (-1 - (j : Int)), X) ∧ f_X12_asked M = some (nI j, M) ∧ ¬ M.1 0 6 = 2) ∨ (f_X7_singleUnit_2 X = some (-6, X) ∧ f_X12_asked M = some (-1, M) ∧ ¬ M.1 0 6 = 2) := by
  obtain ⟨hn1, hn2⟩ := tk_num h
  obtain ⟨hw1, -⟩ := tk_word h
  unfold f_X7_singleUnit_2 f_X7_singleUnit_2_B29 f_X12_asked
  by_cases h2 : X.1 2 6 = 2
  · left
    obtain ⟨v, v1, v2, v3⟩ := hn2 h2
    have hm : ¬ M.1 0 6 = 1 := fun z => by have := hw1.mp z; rw [h2] at this; exact absurd this (by decide)
    rw [if_pos h2, v2, if_neg hm]
    exact ⟨v, v1, h2, rfl, rfl, hn1.mpr h2, v3⟩
  · right
    have hm2 : ¬ M.1 0 6 = 2 := fun z => h2 (hn1.mp z)
    rw [if_neg h2]
    by_cases h1 : X.1 2 6 = 1
    · have hm1 : M.1 0 6 = 1 := hw1.mpr h1
      rw [if_pos h1, if_pos hm1]
      have key : ∀ k, k < 24 → (X.1 2 7 = nI k ↔ lg_cmp (M.2 0 9) (rwM.getD k 0) = 0) := fun k hk => by
        rw [lg_cmp_eq]
        exact ⟨fun z => ((tk_isW h hk).mpr ⟨h1, z⟩).2, fun z => ((tk_isW h hk).mp ⟨hm1, z⟩).2⟩
      by_cases k9 : X.1 2 7 = 9
      · left
        rw [if_pos k9, if_pos (show lg_cmp (M.2 0 9) 1818846821 = 0 from (key 9 (by omega)).mp k9)]
        exact ⟨0, by omega, h1, rfl, rfl, hm2⟩
      rw [if_neg k9, if_neg (show ¬ lg_cmp (M.2 0 9) 1818846821 = 0 from fun z => k9 ((key 9 (by omega)).mpr z))]
      by_cases k20 : X.1 2 7 = 20
      · left
        rw [if_pos k20, if_pos (show lg_cmp (M.2 0 9) 6383461 = 0 from (key 20 (by omega)).mp k20)]
        exact ⟨1, by omega, h1, rfl, rfl, hm2⟩
      rw [if_neg k20, if_neg (show ¬ lg_cmp (M.2 0 9) 6383461 = 0 from fun z => k20 ((key 20 (by omega)).mpr z))]
      by_cases k21 : X.1 2 7 = 21
      · left
        rw [if_pos k21, if_pos (show lg_cmp (M.2 0 9) 495873780581 = 0 from (key 21 (by omega)).mp k21)]
        exact ⟨2, by omega, h1, rfl, rfl, hm2⟩
      rw [if_neg k21, if_neg (show ¬ lg_cmp (M.2 0 9) 495873780581 = 0 from fun z => k21 ((key 21 (by omega)).mpr z))]
      by_cases k22 : X.1 2 7 = 22
      · left
        rw [if_pos k22, if_pos (show lg_cmp (M.2 0 9) 1852137842 = 0 from (key 22 (by omega)).mp k22)]
        exact ⟨3, by omega, h1, rfl, rfl, hm2⟩
      rw [if_neg k22, if_neg (show ¬ lg_cmp (M.2 0 9) 1852137842 = 0 from fun z => k22 ((key 22 (by omega)).mpr z))]
      by_cases k23 : X.1 2 7 = 23
      · left
        rw [if_pos k23, if_pos (show lg_cmp (M.2 0 9) 2036687218 = 0 from (key 23 (by omega)).mp k23)]
        exact ⟨4, by omega, h1, rfl, rfl, hm2⟩
      rw [if_neg k23, if_neg (show ¬ lg_cmp (M.2 0 9) 2036687218 = 0 from fun z => k23 ((key 23 (by omega)).mpr z))]
      right
      exact ⟨rfl, rfl, hm2⟩
    · right
      rw [if_neg h1, if_neg (fun z => h1 (hw1.mp z))]
      exact ⟨rfl, rfl, hm2⟩
theorem emitX {X : zS} {len : Nat} (hl : len < 272) (e : X.1 25 1 = nI len) (x : Int32) : f_X2_emit_25 x X = some (zput (zput X 26 len x) 25 1 (nI (len + 1))) := by
  unfold f_X2_emit_25
  rw [e, if_pos (show nI len < 272 from nI_lt (b := 272) hl (by omega)), if_pos (zinN hl (by omega)), zlet_def, zlet_def, nI_clamp (by omega), show (zput X 26 len x).1 25 1 = nI len from e, nI_1]
theorem fdep_congr {C C' : Nat → Int32} : ∀ len, (∀ i, i < len → C' i = C i) → fdep C' len = fdep C len
  | 0, _ => rfl
  | len + 1, h => by
    show fdep C' len + _ = fdep C len + _
    rw [fdep_congr len (fun i hi => h i (by omega)), h len (by omega)]
def wf1 (C : Nat → Int32) (i : Nat) : Prop := (∃ v : Int, C i = Int32.ofInt v ∧ -16 ≤ v ∧ v ≤ 9999) ∧ 0 ≤ fdep C i ∧ fdep C i ≤ 30 ∧ (C i = -6 → 1 ≤ fdep C i) ∧ (C i < -6 → 2 ≤ fdep C i)
def wfC (C : Nat → Int32) (len u : Nat) (dl : Int) : Prop := (∀ i, i < len → wf1 C i) ∧ fdep C len = dl ∧ 0 ≤ dl ∧ dl ≤ u
def dlt (x : Int32) : Int := if ¬ x < -5 then 1 else if x = -6 then 0 else -1
theorem wf_emit {C : Nat → Int32} {len u u' : Nat} {dl : Int} {x : Int32} (h : wfC C len u dl) (hr : ∃ v : Int, x = Int32.ofInt v ∧ -16 ≤ v ∧ v ≤ 9999) (h6 : x = -6 → 1 ≤ dl) (h7 : x < -6 → 2 ≤ dl) (hu : u ≤ u') (hu' : u' ≤ 30) (hd : 0 ≤ dl + dlt x) (hd' : dl + dlt x ≤ u') : wfC (upd C len x) (len + 1) u' (dl + dlt x) := by
  obtain ⟨w1, w2, w3, w4⟩ := h
  have e : ∀ i, i < len → upd C len x i = C i := fun i hi => upd_ne _ _ _ _ (by omega)
  have ef : ∀ k, k ≤ len → fdep (upd C len x) k = fdep C k := fun k hk => fdep_congr k (fun i hi => e i (by omega))
  refine ⟨fun i hi => ?_, ?_, hd, hd'⟩
  · unfold wf1
    by_cases hil : i = len
    · subst hil
      rw [upd_at, ef i (Nat.le_refl _), w2]
      exact ⟨hr, w3, by omega, h6, h7⟩
    · have := w1 i (by omega)
      unfold wf1 at this
      rw [e i (by omega), ef i (by omega)]
      exact this
  · show fdep (upd C len x) len + (if ¬ upd C len x len < -5 then 1 else if upd C len x len = -6 then 0 else -1) = _
    rw [ef len (Nat.le_refl _), w2, upd_at]
    rfl
/-! frames -/
def vX (S T : zS) : Prop := (∀ k, k ≠ 2 → k ≠ 25 → k ≠ 26 → T.1 k = S.1 k) ∧ (∀ i, i = 9 ∨ i = 10 → T.1 2 i = S.1 2 i) ∧ ∀ k i, k = 3 ∨ k = 4 → T.2 k i = S.2 k i
def vM (S T : zS) : Prop := (∀ k, k ≠ 0 → k ≠ 3 → k ≠ 4 → k ≠ 7 → T.1 k = S.1 k) ∧ (∀ i, 9 ≤ i ∨ i = 1 ∨ i = 5 → i ≠ 17 → i ≠ 19 → i ≠ 20 → i ≠ 22 → i ≠ 23 → T.1 0 i = S.1 0 i) ∧ ∀ i, T.2 2 i = S.2 2 i
theorem vX_rfl (S : zS) : vX S S := ⟨fun _ _ _ _ => rfl, fun _ _ => rfl, fun _ _ _ => rfl⟩
theorem vM_rfl (S : zS) : vM S S := ⟨fun _ _ _ _ _ => rfl, fun _ _ _ _ _ _ _ => rfl, fun _ => rfl⟩
theorem vX_trans {S T U : zS} (h : vX S T) (h' : vX T U) : vX S U := ⟨fun k a b c => (h'.1 k a b c).trans (h.1 k a b c), fun i a => (h'.2.1 i a).trans (h.2.1 i a), fun k i a => (h'.2.2 k i a).trans (h.2.2 k i a)⟩
theorem vM_trans {S T U : zS} (h : vM S T) (h' : vM T U) : vM S U := ⟨fun k a b c d => (h'.1 k a b c d).trans (h.1 k a b c d), fun i a b c d e f => (h'.2.1 i a b c d e f).trans (h.2.1 i a b c d e f), fun i => (h'.2.2 i).trans (h.2.2 i)⟩
theorem vX_y {S T : zS} (h : yX S T) : vX S T := ⟨fun k a _ _ => h.1 k a, fun i hi => h.2.1 i (by omega), h.2.2⟩
theorem vM_y {S T : zS} (h : yM S T) : vM S T := ⟨fun k a _ _ _ => h.1 k a, fun i hi _ _ _ _ _ => h.2.1 i (by omega) (by omega) (by omega) (by omega), h.2.2⟩
theorem vM_c {S T : zS} (h : kM S T) : vM S T := ⟨h.1, fun i _ a b c d e => h.2.1 i a b c d e, fun i => by rw [h.2.2]⟩
theorem vX_put {S : zS} {k i : Nat} {x : Int32} (h : k = 25 ∨ k = 26) : vX S (zput S k i x) := ⟨fun k' a b c => zput1_ne _ _ _ _ _ (by omega), fun j _ => by rw [zput1_ne _ _ _ _ _ (by omega)], fun _ _ _ => rfl⟩
theorem gX_v {S T : zS} (h : vX S T) : gX S T := ⟨fun k a b => h.1 k a (by omega) (by omega), fun i => h.2.2 4 i (Or.inr rfl), fun z => by rw [h.1 30 (by decide) (by decide) (by decide)]; exact z⟩
theorem gMf_v {S T : zS} (h : vM S T) : gMf S T := ⟨fun k hk => by
  have : k ≠ 0 ∧ k ≠ 3 ∧ k ≠ 4 ∧ k ≠ 7 := by
    simp only [gFr, List.mem_cons, List.not_mem_nil, or_false] at hk
    omega
  exact h.1 k this.1 this.2.1 this.2.2.1 this.2.2.2, fun i hi => by
  have : (9 ≤ i ∨ i = 1 ∨ i = 5) ∧ i ≠ 17 ∧ i ≠ 19 ∧ i ≠ 20 ∧ i ≠ 22 ∧ i ≠ 23 := by
    simp only [gPr, List.mem_cons, List.not_mem_nil, or_false] at hi
    omega
  exact h.2.1 i this.1 this.2.1 this.2.2.1 this.2.2.2.1 this.2.2.2.2.1 this.2.2.2.2.2⟩
/-- the formula so far: open signs p ++ l, of which the class has p already in its code -/
def gI (cb : Nat → Nat) (n q : Nat) (l p : List Int32) (u ns : Nat) (dl : Int) (X M : zS) : Prop := cur cb n q X M ∧ u ≤ 30 ∧ X.1 25 0 = nI u ∧ M.1 0 20 = nI u ∧ M.1 0 22 = nI u ∧ stk (p ++ l) M ∧ X.1 25 1 = nI (ns + p.length) ∧ M.1 0 17 = nI ns ∧ (∀ i, i < ns → M.1 3 i = mstep (X.1 26 i) ∧ M.1 4 i = marg (X.1 26 i)) ∧ (∀ i, i < p.length → X.1 26 (ns + i) = p.getD i 0) ∧ wfC (X.1 26) (ns + p.length) u dl
theorem stk_y {l : List Int32} {M M' : zS} (h : stk l M) (hy : yM M M') : stk l M' := by
  obtain ⟨h1, h2, h3, h4, h5⟩ := h
  have e : ∀ i, 9 ≤ i → M'.1 0 i = M.1 0 i := fun i hi => hy.2.1 i (by omega) (by omega) (by omega) (by omega)
  exact ⟨h1, by rw [e 19 (by omega)]; exact h2, fun i hi => by rw [hy.1 7 (by decide)]; exact h3 i hi, h4, by rw [e 23 (by omega)]; exact h5⟩
/-- the next token, the formula as it was -/
theorem gI_y {cb : Nat → Nat} {n q q' : Nat} {l p : List Int32} {u ns : Nat} {dl : Int} {X M X' M' : zS} (h : gI cb n q l p u ns dl X M) (hX : yX X X') (hM : yM M M') (hc : cur cb n q' X' M') : gI cb n q' l p u ns dl X' M' := by
  obtain ⟨-, a2, a3, a4, a5, a6, a7, a8, a9, a10, a11⟩ := h
  have e : ∀ i, 9 ≤ i → M'.1 0 i = M.1 0 i := fun i hi => hM.2.1 i (by omega) (by omega) (by omega) (by omega)
  refine ⟨hc, a2, ?_, ?_, ?_, stk_y a6 hM, ?_, ?_, fun i hi => ?_, fun i hi => ?_, ?_⟩
  · rw [hX.1 25 (by decide)]; exact a3
  · rw [e 20 (by omega)]; exact a4
  · rw [e 22 (by omega)]; exact a5
  · rw [hX.1 25 (by decide)]; exact a7
  · rw [e 17 (by omega)]; exact a8
  · rw [hM.1 3 (by decide), hM.1 4 (by decide), hX.1 26 (by decide)]; exact a9 i hi
  · rw [hX.1 26 (by decide)]; exact a10 i hi
  · rw [hX.1 26 (by decide)]; exact a11
