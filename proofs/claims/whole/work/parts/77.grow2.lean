/-! ===== the formula: what the open signs say; what a token joins ===== -/
def hr : List Int32 → Bool
  | [] => false
  | c :: l => if c = 1 then false else if 4 < tg c then hr l else decide (tg c = 4)
theorem relL : ∀ (l : List Int32) (fuel : Nat) (M : zS), (∀ i, i < l.length → M.1 7 i = oc (ti l i)) → (∀ c ∈ l, c = 1 ∨ isOp c) → l.length ≤ 100 → l.length < fuel → f_X12_hasRelation_L7 fuel (sI l.length) M = some (if hr l then 1 else 0, M) := by
  intro l
  induction l with
  | nil =>
    intro fuel M _ _ _ hf
    obtain ⟨fuel, rfl⟩ : ∃ k, fuel = k + 1 := ⟨fuel - 1, by omega⟩
    show f_X12_hasRelation_L7 (fuel + 1) (sI 0) M = _
    rw [f_X12_hasRelation_L7, if_pos (show sI 0 < 0 by decide)]
    unfold f_X12_hasRelation_B41
    rw [if_pos (show sI 0 < 0 by decide)]
    rfl
  | cons c l ih =>
    intro fuel M h1 h2 h3 hf
    obtain ⟨fuel, rfl⟩ : ∃ k, fuel = k + 1 := ⟨fuel - 1, by omega⟩
    have h3' : l.length + 1 ≤ 100 := h3
    have hf' : l.length + 1 < fuel + 1 := hf
    have hM : M.1 7 l.length = oc c := by
      rw [h1 l.length (by show l.length < l.length + 1; omega), ti_at]
    have hz : zin (nI l.length) 160 := zinN (by omega) (by omega)
    show f_X12_hasRelation_L7 (fuel + 1) (nI l.length) M = _
    rw [f_X12_hasRelation_L7, if_neg (nI_not_neg (by omega)), if_pos hz]
    simp only [nI_clamp (show l.length < 2 ^ 31 by omega), hM]
    have e41 : f_X12_hasRelation_B41 (nI l.length) M = if c = 1 then some (0, M) else some (if tg c = 4 then 1 else 0, M) := by
      unfold f_X12_hasRelation_B41
      rw [if_neg (nI_not_neg (by omega)), if_pos hz]
      simp only [nI_clamp (show l.length < 2 ^ 31 by omega), hM]
      by_cases hc : c = 1
      · subst hc
        rw [if_pos (show oc 1 = 20 from rfl), if_pos rfl]
      · have ho := (h2 c List.mem_cons_self).resolve_left hc
        rw [if_neg (oc_op ho).1, if_neg hc, if_pos hz, tightM ho, zb_def]
        have ht := (oc_op ho).2.2.2.1
        by_cases h4 : tg c = 4
        · rw [if_pos (by rw [h4]; rfl), if_pos h4]
        · rw [if_neg (show ¬ nI (tg c) = 4 from fun z => h4 ((nI_eq (b := 4) (by omega) (by omega)).mp z)), if_neg h4]
    by_cases hc : c = 1
    · subst hc
      rw [if_pos (show oc 1 = 20 from rfl), e41, if_pos rfl]
      rfl
    · have ho := (h2 c List.mem_cons_self).resolve_left hc
      have ht := (oc_op ho).2.2.2.1
      rw [if_neg (oc_op ho).1, if_pos hz, tightM ho, zb_def]
      unfold hr
      rw [if_neg hc]
      by_cases h4 : 4 < tg c
      · rw [if_pos (show (4 : Int32) < nI (tg c) from nI_lt (a := 4) h4 (by omega)), zlet_def, sI_m1, if_pos h4]
        exact ih fuel M (fun i hi => by rw [h1 i (by show i < l.length + 1; omega), ti_lt hi]) (fun c' hc' => h2 c' (List.mem_cons_of_mem _ hc')) (by omega) (by omega)
      · rw [if_neg (show ¬ (4 : Int32) < nI (tg c) from nI_nlt (b := tg c) (a := 4) (by omega) (by omega)), if_neg h4, e41, if_neg hc]
        by_cases h44 : tg c = 4
        · rw [if_pos h44, if_pos (by simpa using h44)]
        · rw [if_neg h44, if_neg (by simpa using h44)]
theorem relM {l : List Int32} {M : zS} (h : stk l M) : f_X12_hasRelation M = some (if hr l then 1 else 0, M) := by
  obtain ⟨h1, h2, h3, h4, -⟩ := h
  unfold f_X12_hasRelation
  rw [zlet_def, h2, sI_sub]
  exact relL l zN M h3 h4 h1 (by show l.length < 10000; omega)
def hbF (l : List Int32) : Nat → Bool
  | 0 => false
  | i + 1 => hbF l i || decide (ti l i = 1)
theorem hbF_c (c : Int32) (l : List Int32) : ∀ i, i ≤ l.length → hbF (c :: l) i = hbF l i
  | 0, _ => rfl
  | i + 1, h => by
    show (hbF (c :: l) i || _) = (hbF l i || _)
    rw [hbF_c c l i (by omega), ti_lt (by omega)]
theorem hbF_mem : ∀ l : List Int32, hbF l l.length = true ↔ (1 : Int32) ∈ l
  | [] => by simp [hbF]
  | c :: l => by
    show (hbF (c :: l) l.length || decide (ti (c :: l) l.length = 1)) = true ↔ _
    rw [hbF_c c l _ (Nat.le_refl _), ti_at, Bool.or_eq_true, hbF_mem l, List.mem_cons, decide_eq_true_eq]
    constructor
    · rintro (h | h)
      · exact Or.inr h
      · exact Or.inl h.symm
    · rintro (h | h)
      · exact Or.inr h.symm
      · exact Or.inl h
theorem brkM {l : List Int32} {M : zS} (h : stk l M) : f_X12_hasBracket M = some (if hbF l l.length then 1 else 0, M) := by
  obtain ⟨h1, h2, h3, h4, -⟩ := h
  have hv : ∀ i, i < l.length → (oc (ti l i) = 20 ↔ ti l i = 1) := fun i hi => by
    have hm : ti l i ∈ l := by
      unfold ti
      rw [List.getD_eq_getElem?_getD, List.getElem?_eq_getElem (show l.length - 1 - i < l.length by omega)]
      exact List.getElem_mem _
    rcases h4 _ hm with h | h
    · rw [h]; decide
    · exact ⟨fun z => absurd z (oc_op h).1, fun z => absurd z (oc_op h).2.1⟩
  unfold f_X12_hasBracket
  refine loopI (f := fun q (x : Int32) i => f_X12_hasBracket_L4 q x (nI i) M) (fun i x => x = if hbF l i then 1 else 0) (fun o => o = some (if hbF l l.length then 1 else 0, M)) (c := l.length) ?_ ?_ l.length 0 zN 0 (by omega) (by show l.length < 10000; omega) rfl
  · rintro q x i hi rfl
    refine ⟨_, ?_, rfl⟩
    rw [f_X12_hasBracket_L4, h2, if_pos (nI_lt hi (by omega)), z01]
    cases hb : hbF l i with
    | true =>
      rw [if_pos rfl, zlet_def, nI_1]
      show _ = f_X12_hasBracket_L4 q (if (hbF l i || decide (ti l i = 1)) = true then 1 else 0) (nI (i + 1)) M
      rw [hb, Bool.true_or, if_pos rfl]
    | false =>
      rw [if_neg (by decide), if_pos (zinN (by omega) (by omega))]
      simp only [nI_clamp (show i < 2 ^ 31 by omega), h3 i hi]
      show _ = f_X12_hasBracket_L4 q (if (hbF l i || decide (ti l i = 1)) = true then 1 else 0) (nI (i + 1)) M
      rw [hb, Bool.false_or]
      by_cases ht : ti l i = 1
      · rw [if_pos ((hv i hi).mpr ht), zlet_def, nI_1, if_pos (by simpa using ht)]
      · rw [if_neg (fun z => ht ((hv i hi).mp z)), zlet_def, nI_1, if_neg (by simpa using ht)]
  · rintro q x rfl
    rw [f_X12_hasBracket_L4, h2, if_neg (nI_nlt (Nat.le_refl _) (by omega)), if_pos]
    cases hbF l l.length
    · exact Or.inl rfl
    · exact Or.inr rfl
def mayN : List Int32 → Bool
  | [] => true
  | c :: _ => decide (c = 1) || decide (tg c < 4)
theorem mayM {l : List Int32} {M : zS} (h : stk l M) : f_X12_mayNot M = some (if mayN l then 1 else 0, M) := by
  obtain ⟨h1, h2, h3, h4, -⟩ := h
  unfold f_X12_mayNot
  rw [h2]
  match l, h1, h3, h4 with
  | [], _, _, _ => rw [if_pos (show nI ([] : List Int32).length = 0 from rfl)]; rfl
  | c :: l, h1, h3, h4 =>
    have h1' : l.length + 1 ≤ 100 := h1
    have hM : M.1 7 l.length = oc c := by rw [h3 l.length (by show l.length < l.length + 1; omega), ti_at]
    have hz : zin (nI l.length) 160 := zinN (by omega) (by omega)
    have e1 : nI (l.length + 1) - 1 = nI l.length := pk_sub (b := 1) (by omega)
    rw [List.length_cons, if_neg (show ¬ nI (l.length + 1) = 0 from fun z => by have := (nI_eq (b := 0) (by omega) (by omega)).mp z; omega), e1, if_pos hz]
    simp only [nI_clamp (show l.length < 2 ^ 31 by omega), hM]
    by_cases hc : c = 1
    · subst hc
      rw [if_pos (show oc 1 = 20 from rfl)]
      rfl
    · have ho := (h4 c List.mem_cons_self).resolve_left hc
      have ht := (oc_op ho).2.2.2.1
      rw [if_neg (oc_op ho).1, if_pos hz, tightM ho, zb_def]
      by_cases h4 : tg c < 4
      · rw [if_pos (show nI (tg c) < 4 from nI_lt (b := 4) h4 (by omega)), if_pos (by simp [mayN, h4])]
      · rw [if_neg (show ¬ nI (tg c) < 4 from nI_nlt (b := 4) (by omega) (by omega)), if_neg (by simp [mayN, h4, hc])]
/-! what a token joins -/
def jcF (k v : Int32) : Int32 := if k = 1 then (if v = 17 then -7 else if v = 18 then -8 else 0) else if k = 3 then (if v = 37 then -16 else if v = 42 then -14 else if v = 43 then -12 else if v = 45 then -13 else if v = 47 then -15 else if v = 60 then -9 else if v = 61 then -11 else if v = 62 then -10 else 0) else 0
def lvC (c : Int32) : Nat := if c = -7 then 0 else if c = -8 then 1 else if c = -9 then 2 else if c = -10 then 2 else if c = -11 then 2 else if c = -12 then 3 else if c = -13 then 3 else if c = -14 then 4 else if c = -15 then 4 else if c = -16 then 4 else 9
def jbF (x k v : Int32) : Int32 := if k = 1 then (if x = 0 then (if v = 17 then -7 else if x = 1 then (if v = 18 then -8 else 0) else 0) else if x = 1 then (if v = 18 then -8 else 0) else 0) else if k = 3 then (if v = 37 then (if x = 4 then -16 else 0) else if v = 42 then (if x = 4 then -14 else 0) else if v = 43 then (if x = 3 then -12 else 0) else if v = 45 then (if x = 3 then -13 else 0) else if v = 47 then (if x = 4 then -15 else 0) else if v = 60 then (if x = 2 then -9 else 0) else if v = 61 then (if x = 2 then -11 else 0) else if v = 62 then (if x = 2 then -10 else 0) else 0) else 0
theorem jb_eq (x : Int32) (X : zS) : f_X7_joinedBy_2 x X = some (jbF x (X.1 2 6) (X.1 2 7), X) := by
  have ap : ∀ (P : Prop) [Decidable P] (a b : Int32), some ((if P then a else b), X) = if P then some (a, X) else some (b, X) := fun P _ a b => by split <;> rfl
  unfold f_X7_joinedBy_2 f_X7_joinedBy_2_B24 jbF
  simp only [ap]
theorem jb_jc {l : Nat} (hl : l ≤ 4) (k v : Int32) : jbF (nI l) k v = if lvC (jcF k v) = l then jcF k v else 0 := by
  by_cases hk : k = 1
  · subst hk
    by_cases h17 : v = 17
    · subst h17; exact (by decide : ∀ l, l ≤ 4 → jbF (nI l) 1 17 = if lvC (jcF 1 17) = l then jcF 1 17 else 0) l hl
    · by_cases h18 : v = 18
      · subst h18; exact (by decide : ∀ l, l ≤ 4 → jbF (nI l) 1 18 = if lvC (jcF 1 18) = l then jcF 1 18 else 0) l hl
      · have e1 : jcF 1 v = 0 := by unfold jcF; rw [if_pos rfl, if_neg h17, if_neg h18]
        have e2 : jbF (nI l) 1 v = 0 := by
          unfold jbF
          rw [if_pos rfl, if_neg h17, if_neg h18]
          simp
        rw [e1, e2]; simp
  · by_cases hk3 : k = 3
    · subst hk3
      by_cases h1 : v = 37
      · subst h1; exact (by decide : ∀ l, l ≤ 4 → jbF (nI l) 3 37 = if lvC (jcF 3 37) = l then jcF 3 37 else 0) l hl
      by_cases h2 : v = 42
      · subst h2; exact (by decide : ∀ l, l ≤ 4 → jbF (nI l) 3 42 = if lvC (jcF 3 42) = l then jcF 3 42 else 0) l hl
      by_cases h3 : v = 43
      · subst h3; exact (by decide : ∀ l, l ≤ 4 → jbF (nI l) 3 43 = if lvC (jcF 3 43) = l then jcF 3 43 else 0) l hl
      by_cases h4 : v = 45
      · subst h4; exact (by decide : ∀ l, l ≤ 4 → jbF (nI l) 3 45 = if lvC (jcF 3 45) = l then jcF 3 45 else 0) l hl
      by_cases h5 : v = 47
      · subst h5; exact (by decide : ∀ l, l ≤ 4 → jbF (nI l) 3 47 = if lvC (jcF 3 47) = l then jcF 3 47 else 0) l hl
      by_cases h6 : v = 60
      · subst h6; exact (by decide : ∀ l, l ≤ 4 → jbF (nI l) 3 60 = if lvC (jcF 3 60) = l then jcF 3 60 else 0) l hl
      by_cases h7 : v = 61
      · subst h7; exact (by decide : ∀ l, l ≤ 4 → jbF (nI l) 3 61 = if lvC (jcF 3 61) = l then jcF 3 61 else 0) l hl
      by_cases h8 : v = 62
      · subst h8; exact (by decide : ∀ l, l ≤ 4 → jbF (nI l) 3 62 = if lvC (jcF 3 62) = l then jcF 3 62 else 0) l hl
      have e1 : jcF 3 v = 0 := by unfold jcF; rw [if_neg (by decide), if_pos rfl, if_neg h1, if_neg h2, if_neg h3, if_neg h4, if_neg h5, if_neg h6, if_neg h7, if_neg h8]
      have e2 : jbF (nI l) 3 v = 0 := by unfold jbF; rw [if_neg (by decide), if_pos rfl, if_neg h1, if_neg h2, if_neg h3, if_neg h4, if_neg h5, if_neg h6, if_neg h7, if_neg h8]
      rw [e1, e2]; simp
    · have e1 : jcF k v = 0 := by unfold jcF; rw [if_neg hk, if_neg hk3]
      have e2 : jbF (nI l) k v = 0 := by unfold jbF; rw [if_neg hk, if_neg hk3]
      rw [e1, e2]; simp
def jc (X : zS) : Int32 := jcF (X.1 2 6) (X.1 2 7)
theorem joinX {l : Nat} (hl : l ≤ 4) (X : zS) : f_X7_joinedBy_2 (nI l) X = some (if lvC (jc X) = l then jc X else 0, X) := by
  rw [jb_eq, jb_jc hl]
  rfl
theorem jc_op (X : zS) : (jc X = 0 ∧ lvC (jc X) = 9) ∨ (isOp (jc X) ∧ lvC (jc X) ≤ 4 ∧ ¬ jc X = 0 ∧ ¬ jc X = -6 ∧ ¬ jc X = 1 ∧ ((tg (jc X) = 4) ↔ lvC (jc X) = 2) ∧ tg (jc X) = (if lvC (jc X) = 0 then 1 else if lvC (jc X) = 1 then 2 else lvC (jc X) + 2) ∧ jc X < -6) := by
  have key : ∀ c : Int32, c = -7 ∨ c = -8 ∨ c = -9 ∨ c = -10 ∨ c = -11 ∨ c = -12 ∨ c = -13 ∨ c = -14 ∨ c = -15 ∨ c = -16 → (isOp c ∧ lvC c ≤ 4 ∧ ¬ c = 0 ∧ ¬ c = -6 ∧ ¬ c = 1 ∧ ((tg c = 4) ↔ lvC c = 2) ∧ tg c = (if lvC c = 0 then 1 else if lvC c = 1 then 2 else lvC c + 2) ∧ c < -6) := by
    intro c hc
    refine ⟨Or.inr hc, ?_⟩
    rcases hc with rfl | rfl | rfl | rfl | rfl | rfl | rfl | rfl | rfl | rfl <;> decide
  have hd : jc X = 0 ∨ (jc X = -7 ∨ jc X = -8 ∨ jc X = -9 ∨ jc X = -10 ∨ jc X = -11 ∨ jc X = -12 ∨ jc X = -13 ∨ jc X = -14 ∨ jc X = -15 ∨ jc X = -16) := by
    unfold jc jcF
    repeat' split
    all_goals simp
  rcases hd with h | h
  · left; rw [h]; exact ⟨rfl, rfl⟩
  · right; exact key _ h
