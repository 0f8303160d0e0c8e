/-! ===== what a token is, asked on both sides ===== -/
def yX (S T : zS) : Prop := (∀ k, k ≠ 2 → T.1 k = S.1 k) ∧ (∀ i, i = 0 ∨ i = 1 ∨ i = 3 ∨ i = 9 ∨ i = 10 → T.1 2 i = S.1 2 i) ∧ ∀ k i, k = 3 ∨ k = 4 → T.2 k i = S.2 k i
def yM (S T : zS) : Prop := (∀ k, k ≠ 0 → T.1 k = S.1 k) ∧ (∀ i, i ≠ 4 → i ≠ 6 → i ≠ 7 → i ≠ 8 → T.1 0 i = S.1 0 i) ∧ ∀ i, T.2 2 i = S.2 2 i
theorem yX_rfl (S : zS) : yX S S := ⟨fun _ _ => rfl, fun _ _ => rfl, fun _ _ _ => rfl⟩
theorem yM_rfl (S : zS) : yM S S := ⟨fun _ _ => rfl, fun _ _ _ _ _ => rfl, fun _ => rfl⟩
theorem yX_trans {S T U : zS} (h : yX S T) (h' : yX T U) : yX S U := ⟨fun k hk => (h'.1 k hk).trans (h.1 k hk), fun i a => (h'.2.1 i a).trans (h.2.1 i a), fun k i hk => (h'.2.2 k i hk).trans (h.2.2 k i hk)⟩
theorem yM_trans {S T U : zS} (h : yM S T) (h' : yM T U) : yM S U := ⟨fun k hk => (h'.1 k hk).trans (h.1 k hk), fun i a b c d => (h'.2.1 i a b c d).trans (h.2.1 i a b c d), fun i => (h'.2.2 i).trans (h.2.2 i)⟩
theorem yX_f {S T : zS} (h : fX S T) : yX S T := ⟨h.1, fun i hi => h.2.1 i (by omega) (by omega) (by omega) (by omega), fun k i hk => h.2.2 k i (by omega)⟩
theorem yM_f {S T : zS} (h : fM S T) : yM S T := ⟨h.1, h.2.1, fun i => h.2.2 2 i (by omega)⟩
theorem yX_11 {S : zS} {x : Int32} : yX S (zput S 2 11 x) := ⟨fun k hk => zput1_ne S 2 11 k x hk, fun i hi => by rw [zput1_eq, upd_ne _ _ _ _ (by omega)], fun _ _ _ => rfl⟩
/-- no fault yet; the token at q -/
def cur (cb : Nat → Nat) (n q : Nat) (X M : zS) : Prop := txt cb n X M ∧ tk n q X M ∧ X.1 2 0 = 0 ∧ X.1 2 1 = -1 ∧ M.1 0 2 = 0 ∧ M.1 0 3 = -1
theorem cur_11 {cb : Nat → Nat} {n q : Nat} {X M : zS} {x : Int32} (h : cur cb n q X M) : cur cb n q (zput X 2 11 x) M := by
  obtain ⟨⟨t1, t2, t3, t4, t5⟩, ⟨b, hk⟩, h0, h1, h2, h3⟩ := h
  have e : ∀ i, i ≠ 11 → (zput X 2 11 x).1 2 i = X.1 2 i := fun i hi => by rw [zput1_eq, upd_ne _ _ _ _ hi]
  have e1 : (zput X 2 11 x).1 1 = X.1 1 := zput1_ne X 2 11 1 x (by decide)
  have e2 : (zput X 2 11 x).2 = X.2 := rfl
  refine ⟨⟨t1, by rw [e 3 (by decide)]; exact t2, t3, by rw [e1]; exact t4, t5⟩, ⟨b, ?_⟩, by rw [e 0 (by decide)]; exact h0, by rw [e 1 (by decide)]; exact h1, h2, h3⟩
  rw [e 4 (by decide), e 5 (by decide), e 6 (by decide), e 7 (by decide), e2]
  exact hk
theorem sg_big : ∀ c, c ∈ sgs → 37 ≤ c ∧ c < 64 := by decide
def isW (k : Nat) (X : zS) : Prop := X.1 2 6 = 1 ∧ X.1 2 7 = nI k
def isNm (X : zS) : Prop := X.1 2 6 = 1 ∧ X.1 2 7 = -1
def isSg (c : Nat) (X : zS) : Prop := X.1 2 6 = 3 ∧ X.1 2 7 = nI c
theorem dec2 {α : Type} (P Q : Prop) [Decidable P] [Decidable Q] [Decidable (P ∧ Q)] (A B : α) : (if P then (if Q then A else B) else B) = if P ∧ Q then A else B := by
  by_cases h : P
  · by_cases h2 : Q
    · rw [if_pos h, if_pos h2, if_pos ⟨h, h2⟩]
    · rw [if_pos h, if_neg h2, if_neg (fun z => h2 z.2)]
  · rw [if_neg h, if_neg (fun z => h z.1)]
theorem i01 : ¬ (1 : Int32) = 0 ∧ ¬ (2 : Int32) = 0 ∧ ¬ (3 : Int32) = 0 ∧ ¬ (4 : Int32) = 0 ∧ ¬ (1 : Int32) = 2 ∧ ¬ (1 : Int32) = 3 ∧ ¬ (1 : Int32) = 4 ∧ ¬ (2 : Int32) = 1 ∧ ¬ (2 : Int32) = 3 ∧ ¬ (2 : Int32) = 4 ∧ ¬ (3 : Int32) = 1 ∧ ¬ (3 : Int32) = 2 ∧ ¬ (3 : Int32) = 4 ∧ ¬ (4 : Int32) = 1 ∧ ¬ (4 : Int32) = 2 ∧ ¬ (4 : Int32) = 3 ∧ ¬ (0 : Int32) = 1 ∧ ¬ (0 : Int32) = 2 ∧ ¬ (0 : Int32) = 3 ∧ ¬ (0 : Int32) = 4 := by decide
theorem nI_sm {c : Nat} (h : 37 ≤ c ∧ c < 64) : ¬ nI c = 0 ∧ ¬ nI c = 1 ∧ ¬ nI c = 2 ∧ ¬ nI c = 3 := ⟨fun z => by have := (nI_eq (b := 0) (by omega) (by omega)).mp z; omega, fun z => by have := (nI_eq (b := 1) (by omega) (by omega)).mp z; omega, fun z => by have := (nI_eq (b := 2) (by omega) (by omega)).mp z; omega, fun z => by have := (nI_eq (b := 3) (by omega) (by omega)).mp z; omega⟩
theorem tk_end {n q : Nat} {X M : zS} (h : tk n q X M) : M.1 0 6 = 0 ↔ X.1 2 6 = 0 := by
  obtain ⟨b, -, -, -, -, -, h | h | h | h | h⟩ := h
  · rw [h.1, h.2.1]
  · rw [h.1, h.2.1]
  · rw [h.1, h.2.1]
  · obtain ⟨h1, -, -, c, hc, -, h2⟩ := h
    rw [h1, h2]
    exact ⟨fun z => absurd z (nI_sm (sg_big c hc)).1, fun z => absurd z (by decide)⟩
  · rw [h.1, h.2]; decide
theorem tk_bad {n q : Nat} {X M : zS} (h : tk n q X M) : M.1 0 6 = 3 ↔ X.1 2 6 = 4 := by
  obtain ⟨b, -, -, -, -, -, h | h | h | h | h⟩ := h
  · rw [h.1, h.2.1]; decide
  · rw [h.1, h.2.1]; decide
  · rw [h.1, h.2.1]; decide
  · obtain ⟨h1, -, -, c, hc, -, h2⟩ := h
    rw [h1, h2]
    exact ⟨fun z => absurd z (nI_sm (sg_big c hc)).2.2.2, fun z => absurd z (by decide)⟩
  · rw [h.1, h.2]; decide
theorem tk_word {n q : Nat} {X M : zS} (h : tk n q X M) : (M.1 0 6 = 1 ↔ X.1 2 6 = 1) ∧ (X.1 2 6 = 1 → wr (X.2 2 8) (M.2 0 9) ∧ X.1 2 7 = rsv (X.2 2 8)) := by
  obtain ⟨b, -, -, -, -, -, h | h | h | h | h⟩ := h
  · rw [h.1, h.2.1]; exact ⟨by decide, fun z => absurd z (by decide)⟩
  · rw [h.1, h.2.1]; exact ⟨Iff.rfl, fun _ => h.2.2.2.2⟩
  · rw [h.1, h.2.1]; exact ⟨by decide, fun z => absurd z (by decide)⟩
  · obtain ⟨h1, -, -, c, hc, -, h2⟩ := h
    rw [h1, h2]
    exact ⟨⟨fun z => absurd z (nI_sm (sg_big c hc)).2.1, fun z => absurd z (by decide)⟩, fun z => absurd z (by decide)⟩
  · rw [h.1, h.2]; exact ⟨by decide, fun z => absurd z (by decide)⟩
theorem tk_num {n q : Nat} {X M : zS} (h : tk n q X M) : (M.1 0 6 = 2 ↔ X.1 2 6 = 2) ∧ (X.1 2 6 = 2 → ∃ v, v ≤ 9999 ∧ X.1 2 7 = nI v ∧ M.1 0 8 = nI v) := by
  obtain ⟨b, -, -, -, -, -, h | h | h | h | h⟩ := h
  · rw [h.1, h.2.1]; exact ⟨by decide, fun z => absurd z (by decide)⟩
  · rw [h.1, h.2.1]; exact ⟨by decide, fun z => absurd z (by decide)⟩
  · rw [h.1, h.2.1]; exact ⟨Iff.rfl, fun _ => h.2.2.2.2⟩
  · obtain ⟨h1, -, -, c, hc, -, h2⟩ := h
    rw [h1, h2]
    exact ⟨⟨fun z => absurd z (nI_sm (sg_big c hc)).2.2.1, fun z => absurd z (by decide)⟩, fun z => absurd z (by decide)⟩
  · rw [h.1, h.2]; exact ⟨by decide, fun z => absurd z (by decide)⟩
theorem tk_sgn {n q : Nat} {X M : zS} (h : tk n q X M) {c : Nat} (hc : c ∈ sgs) : M.1 0 6 = nI c ↔ isSg c X := by
  have hb := nI_sm (sg_big c hc)
  unfold isSg
  obtain ⟨b, -, -, -, -, -, h | h | h | h | h⟩ := h
  · rw [h.1, h.2.1]; exact ⟨fun z => absurd z.symm hb.1, fun z => absurd z.1 (by decide)⟩
  · rw [h.1, h.2.1]; exact ⟨fun z => absurd z.symm hb.2.1, fun z => absurd z.1 (by decide)⟩
  · rw [h.1, h.2.1]; exact ⟨fun z => absurd z.symm hb.2.2.1, fun z => absurd z.1 (by decide)⟩
  · obtain ⟨h1, -, -, c', hc', h3, h2⟩ := h
    rw [h1, h2, h3]
    exact ⟨fun z => ⟨rfl, z⟩, fun z => z.2⟩
  · rw [h.1, h.2]; exact ⟨fun z => absurd z.symm hb.2.2.2, fun z => absurd z.1 (by decide)⟩
theorem tk_q {n q : Nat} {X M : zS} (h : tk n q X M) : q ≤ n ∧ X.1 2 4 = nI q ∧ M.1 0 7 = nI q := by
  obtain ⟨b, h1, h2, h3, h4, -⟩ := h
  exact ⟨by omega, h3, h4⟩
theorem wordBX (k : Int32) (X : zS) : f_X7_isWord_2 k X = some (if X.1 2 6 = 1 ∧ X.1 2 7 = k then 1 else 0, X) := by
  unfold f_X7_isWord_2
  by_cases h : X.1 2 6 = 1
  · by_cases h2 : X.1 2 7 = k
    · rw [if_pos h, if_pos h2, if_pos ⟨h, h2⟩]
    · rw [if_pos h, if_neg h2, if_neg (fun z => h2 z.2)]
  · rw [if_neg h, if_neg (fun z => h z.1)]
theorem tk_isW {n q : Nat} {X M : zS} (h : tk n q X M) {k : Nat} (hk : k < 24) : (M.1 0 6 = 1 ∧ M.2 0 9 = rwM.getD k 0) ↔ (X.1 2 6 = 1 ∧ X.1 2 7 = nI k) := by
  obtain ⟨h1, h2⟩ := tk_word h
  constructor
  · rintro ⟨a, b⟩
    obtain ⟨h3, h4⟩ := h2 (h1.mp a)
    refine ⟨h1.mp a, ?_⟩
    rw [h4, rsv_k _ hk]
    exact (wr_eq (wr_res hk) h3).mpr b.symm
  · rintro ⟨a, b⟩
    obtain ⟨h3, h4⟩ := h2 a
    refine ⟨h1.mpr a, ?_⟩
    rw [h4, rsv_k _ hk] at b
    exact ((wr_eq (wr_res hk) h3).mp b).symm
theorem wordBM {n q : Nat} {X M : zS} (h : tk n q X M) {k : Nat} (hk : k < 24) : f_X12_isWord (rwM.getD k 0) M = some (if X.1 2 6 = 1 ∧ X.1 2 7 = nI k then 1 else 0, M) := by
  have e := tk_isW h hk
  unfold f_X12_isWord
  by_cases h6 : M.1 0 6 = 1
  · by_cases h9 : M.2 0 9 = rwM.getD k 0
    · rw [if_pos h6, if_pos ((lg_cmp_eq _ _).mpr h9), if_pos (e.mp ⟨h6, h9⟩)]
    · rw [if_pos h6, if_neg (fun z => h9 ((lg_cmp_eq _ _).mp z)), if_neg (fun z => h9 (e.mpr z).2)]
  · rw [if_neg h6, if_neg (fun z => h6 (e.mpr z).1)]
def gO (x : Int64) : Int32 := if x = 126943687828851 then 1 else if x = 482854661748 then 1 else if x = 1818846821 then 1 else if x = 448311485561 then 1 else if x = 500085844323 then 1 else if x = 1651076204 then 1 else if x = 28518 then 1 else if x = 24948 then 1 else if x = 1935767923 then 1 else if x = 107122481063027 then 1 else if x = 32199680756640883 then 1 else if x = 482671228025 then 1 else if x = 512735736947 then 1 else if x = 25209 then 1 else if x = 1735552887 then 1 else if x = 440006570868 then 1 else if x = 1685217655 then 1 else if x = 6383461 then 1 else if x = 495873780581 then 1 else if x = 1852137842 then 1 else if x = 2036687218 then 1 else if x = 6385252 then 1 else if x = 28530 then 1 else if x = 7237492 then 1 else 0
theorem gO_eq (S : zS) : f_X12_isOwn S = some (gO (S.2 0 9), S) := by
  unfold f_X12_isOwn gO
  generalize S.2 0 9 = x
  by_cases h126943687828851 : x = 126943687828851
  · rw [if_pos ((lg_cmp_eq _ _).mpr h126943687828851), if_pos h126943687828851]
  rw [if_neg (fun z => h126943687828851 ((lg_cmp_eq _ _).mp z)), if_neg h126943687828851]
  by_cases h482854661748 : x = 482854661748
  · rw [if_pos ((lg_cmp_eq _ _).mpr h482854661748), if_pos h482854661748]
  rw [if_neg (fun z => h482854661748 ((lg_cmp_eq _ _).mp z)), if_neg h482854661748]
  by_cases h1818846821 : x = 1818846821
  · rw [if_pos ((lg_cmp_eq _ _).mpr h1818846821), if_pos h1818846821]
  rw [if_neg (fun z => h1818846821 ((lg_cmp_eq _ _).mp z)), if_neg h1818846821]
  by_cases h448311485561 : x = 448311485561
  · rw [if_pos ((lg_cmp_eq _ _).mpr h448311485561), if_pos h448311485561]
  rw [if_neg (fun z => h448311485561 ((lg_cmp_eq _ _).mp z)), if_neg h448311485561]
  by_cases h500085844323 : x = 500085844323
  · rw [if_pos ((lg_cmp_eq _ _).mpr h500085844323), if_pos h500085844323]
  rw [if_neg (fun z => h500085844323 ((lg_cmp_eq _ _).mp z)), if_neg h500085844323]
  by_cases h1651076204 : x = 1651076204
  · rw [if_pos ((lg_cmp_eq _ _).mpr h1651076204), if_pos h1651076204]
  rw [if_neg (fun z => h1651076204 ((lg_cmp_eq _ _).mp z)), if_neg h1651076204]
  by_cases h28518 : x = 28518
  · rw [if_pos ((lg_cmp_eq _ _).mpr h28518), if_pos h28518]
  rw [if_neg (fun z => h28518 ((lg_cmp_eq _ _).mp z)), if_neg h28518]
  by_cases h24948 : x = 24948
  · rw [if_pos ((lg_cmp_eq _ _).mpr h24948), if_pos h24948]
  rw [if_neg (fun z => h24948 ((lg_cmp_eq _ _).mp z)), if_neg h24948]
  by_cases h1935767923 : x = 1935767923
  · rw [if_pos ((lg_cmp_eq _ _).mpr h1935767923), if_pos h1935767923]
  rw [if_neg (fun z => h1935767923 ((lg_cmp_eq _ _).mp z)), if_neg h1935767923]
  by_cases h107122481063027 : x = 107122481063027
  · rw [if_pos ((lg_cmp_eq _ _).mpr h107122481063027), if_pos h107122481063027]
  rw [if_neg (fun z => h107122481063027 ((lg_cmp_eq _ _).mp z)), if_neg h107122481063027]
  by_cases h32199680756640883 : x = 32199680756640883
  · rw [if_pos ((lg_cmp_eq _ _).mpr h32199680756640883), if_pos h32199680756640883]
  rw [if_neg (fun z => h32199680756640883 ((lg_cmp_eq _ _).mp z)), if_neg h32199680756640883]
  by_cases h482671228025 : x = 482671228025
  · rw [if_pos ((lg_cmp_eq _ _).mpr h482671228025), if_pos h482671228025]
  rw [if_neg (fun z => h482671228025 ((lg_cmp_eq _ _).mp z)), if_neg h482671228025]
  by_cases h512735736947 : x = 512735736947
  · rw [if_pos ((lg_cmp_eq _ _).mpr h512735736947), if_pos h512735736947]
  rw [if_neg (fun z => h512735736947 ((lg_cmp_eq _ _).mp z)), if_neg h512735736947]
  by_cases h25209 : x = 25209
  · rw [if_pos ((lg_cmp_eq _ _).mpr h25209), if_pos h25209]
  rw [if_neg (fun z => h25209 ((lg_cmp_eq _ _).mp z)), if_neg h25209]
  by_cases h1735552887 : x = 1735552887
  · rw [if_pos ((lg_cmp_eq _ _).mpr h1735552887), if_pos h1735552887]
  rw [if_neg (fun z => h1735552887 ((lg_cmp_eq _ _).mp z)), if_neg h1735552887]
  by_cases h440006570868 : x = 440006570868
  · rw [if_pos ((lg_cmp_eq _ _).mpr h440006570868), if_pos h440006570868]
  rw [if_neg (fun z => h440006570868 ((lg_cmp_eq _ _).mp z)), if_neg h440006570868]
  by_cases h1685217655 : x = 1685217655
  · rw [if_pos ((lg_cmp_eq _ _).mpr h1685217655), if_pos h1685217655]
  rw [if_neg (fun z => h1685217655 ((lg_cmp_eq _ _).mp z)), if_neg h1685217655]
  by_cases h6383461 : x = 6383461
  · rw [if_pos ((lg_cmp_eq _ _).mpr h6383461), if_pos h6383461]
  rw [if_neg (fun z => h6383461 ((lg_cmp_eq _ _).mp z)), if_neg h6383461]
  by_cases h495873780581 : x = 495873780581
  · rw [if_pos ((lg_cmp_eq _ _).mpr h495873780581), if_pos h495873780581]
  rw [if_neg (fun z => h495873780581 ((lg_cmp_eq _ _).mp z)), if_neg h495873780581]
  by_cases h1852137842 : x = 1852137842
  · rw [if_pos ((lg_cmp_eq _ _).mpr h1852137842), if_pos h1852137842]
  rw [if_neg (fun z => h1852137842 ((lg_cmp_eq _ _).mp z)), if_neg h1852137842]
  by_cases h2036687218 : x = 2036687218
  · rw [if_pos ((lg_cmp_eq _ _).mpr h2036687218), if_pos h2036687218]
  rw [if_neg (fun z => h2036687218 ((lg_cmp_eq _ _).mp z)), if_neg h2036687218]
  by_cases h6385252 : x = 6385252
  · rw [if_pos ((lg_cmp_eq _ _).mpr h6385252), if_pos h6385252]
  rw [if_neg (fun z => h6385252 ((lg_cmp_eq _ _).mp z)), if_neg h6385252]
  by_cases h28530 : x = 28530
  · rw [if_pos ((lg_cmp_eq _ _).mpr h28530), if_pos h28530]
  rw [if_neg (fun z => h28530 ((lg_cmp_eq _ _).mp z)), if_neg h28530]
  by_cases h7237492 : x = 7237492
  · rw [if_pos ((lg_cmp_eq _ _).mpr h7237492), if_pos h7237492]
  rw [if_neg (fun z => h7237492 ((lg_cmp_eq _ _).mp z)), if_neg h7237492]
theorem gO_1 : ∀ i, i < 24 → gO (rwM.getD i 0) = 1 := by decide +kernel
theorem gO_0 {x : Int64} (h : ∀ i, i < 24 → ¬ x = rwM.getD i 0) : gO x = 0 := by
  unfold gO
  rw [if_neg (show ¬ x = 126943687828851 from h 0 (by omega)), if_neg (show ¬ x = 482854661748 from h 1 (by omega)), if_neg (show ¬ x = 1818846821 from h 9 (by omega)), if_neg (show ¬ x = 448311485561 from h 10 (by omega)), if_neg (show ¬ x = 500085844323 from h 2 (by omega)), if_neg (show ¬ x = 1651076204 from h 3 (by omega)), if_neg (show ¬ x = 28518 from h 11 (by omega)), if_neg (show ¬ x = 24948 from h 12 (by omega)), if_neg (show ¬ x = 1935767923 from h 13 (by omega)), if_neg (show ¬ x = 107122481063027 from h 14 (by omega)), if_neg (show ¬ x = 32199680756640883 from h 15 (by omega)), if_neg (show ¬ x = 482671228025 from h 4 (by omega)), if_neg (show ¬ x = 512735736947 from h 5 (by omega)), if_neg (show ¬ x = 25209 from h 16 (by omega)), if_neg (show ¬ x = 1735552887 from h 6 (by omega)), if_neg (show ¬ x = 440006570868 from h 7 (by omega)), if_neg (show ¬ x = 1685217655 from h 8 (by omega)), if_neg (show ¬ x = 6383461 from h 20 (by omega)), if_neg (show ¬ x = 495873780581 from h 21 (by omega)), if_neg (show ¬ x = 1852137842 from h 22 (by omega)), if_neg (show ¬ x = 2036687218 from h 23 (by omega)), if_neg (show ¬ x = 6385252 from h 18 (by omega)), if_neg (show ¬ x = 28530 from h 17 (by omega)), if_neg (show ¬ x = 7237492 from h 19 (by omega))]
theorem nameBX (X : zS) : f_X7_isName_2 X = some (if X.1 2 6 = 1 ∧ X.1 2 7 = -1 then 1 else 0, X) := by
  unfold f_X7_isName_2
  by_cases h : X.1 2 6 = 1
  · by_cases h2 : X.1 2 7 = -1
    · rw [if_pos h, if_pos h2, if_pos ⟨h, h2⟩]
    · rw [if_pos h, if_neg h2, if_neg (fun z => h2 z.2)]
  · rw [if_neg h, if_neg (fun z => h z.1)]
theorem nameBM {n q : Nat} {X M : zS} (h : tk n q X M) : f_X12_isName M = some (if X.1 2 6 = 1 ∧ X.1 2 7 = -1 then 1 else 0, M) := by
  obtain ⟨h1, h2⟩ := tk_word h
  unfold f_X12_isName
  by_cases h6 : X.1 2 6 = 1
  · obtain ⟨h3, h4⟩ := h2 h6
    rw [if_pos (h1.mpr h6), gO_eq, zb_def]
    by_cases h7 : X.1 2 7 = -1
    · rw [h4, rsv_n] at h7
      rw [gO_0 (fun i hi z => h7 i hi ((wr_eq (wr_res hi) h3).mpr z.symm)), if_pos rfl, if_pos ⟨h6, by rw [h4, rsv_n]; exact h7⟩]
    · have hx : ∃ i, i < 24 ∧ zres.getD i 0 = X.2 2 8 := by
        rcases rsv_m (X.2 2 8) 24 (by omega) with ⟨g1, -⟩ | ⟨i, g1, g2, -⟩
        · exact absurd (h4.trans g1) h7
        · exact ⟨i, g1, g2⟩
      obtain ⟨i, hi, e⟩ := hx
      rw [← (wr_eq (wr_res hi) h3).mp e, gO_1 i hi, if_neg (by decide), if_neg (fun z => h7 z.2)]
  · rw [if_neg (fun z => h6 (h1.mp z)), if_neg (fun z => h6 z.1)]
theorem signBX (c : Int32) (X : zS) : f_X7_isSign_2 c X = some (if X.1 2 6 = 3 ∧ X.1 2 7 = c then 1 else 0, X) := by
  unfold f_X7_isSign_2
  by_cases h : X.1 2 6 = 3
  · by_cases h2 : X.1 2 7 = c
    · rw [if_pos h, if_pos h2, if_pos ⟨h, h2⟩]
    · rw [if_pos h, if_neg h2, if_neg (fun z => h2 z.2)]
  · rw [if_neg h, if_neg (fun z => h z.1)]
theorem cur_nf {cb : Nat → Nat} {n q : Nat} {X M : zS} (h : cur cb n q X M) : ¬ (0 : Int32) < M.1 0 2 := by
  rw [h.2.2.2.2.1]; decide
/-- on to the next token -/
theorem stepC {cb : Nat → Nat} {n q : Nat} {X M : zS} (h : cur cb n q X M) (hg : ¬ X.1 2 6 = 4) : ∃ X' M' q', f_X7_step_2 X = some X' ∧ f_X12_token M = some M' ∧ yX X X' ∧ yM M M' ∧ cur cb n q' X' M' ∧ q ≤ q' ∧ (¬ X.1 2 6 = 0 → q < q') ∧ X'.1 2 11 = X.1 2 11 := by
  obtain ⟨hT, hk, h0, h1, h2, h3⟩ := h
  obtain ⟨b, k1, k2, k3, k4, k5, k6⟩ := hk
  have hat : M.1 0 4 = nI b ∧ (¬ X.1 2 6 = 0 → q < b) := by
    rcases k6 with h | h | h | h | h
    · exact ⟨h.2.2, fun z => absurd h.1 z⟩
    · exact ⟨h.2.2.1, fun _ => h.2.2.2.1⟩
    · exact ⟨h.2.2.1, fun _ => h.2.2.2.1⟩
    · exact ⟨h.2.1, fun _ => h.2.2.1⟩
    · exact absurd h.1 hg
  obtain ⟨X', M', q', e1, e2, f1, f2, hq, hk'⟩ := stepB hT k2 k5 hat.1
  refine ⟨X', M', q', e1, e2, yX_f f1, yM_f f2, ⟨txt_f hT f1 f2, hk', ?_, ?_, ?_, ?_⟩, by omega, fun z => by have := hat.2 z; omega, f1.2.1 11 (by decide) (by decide) (by decide) (by decide)⟩
  · rw [f1.2.1 0 (by decide) (by decide) (by decide) (by decide)]; exact h0
  · rw [f1.2.1 1 (by decide) (by decide) (by decide) (by decide)]; exact h1
  · rw [f2.2.1 2 (by decide) (by decide) (by decide) (by decide)]; exact h2
  · rw [f2.2.1 3 (by decide) (by decide) (by decide) (by decide)]; exact h3
