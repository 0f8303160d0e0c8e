/-! ===== the easy pairs ===== -/
theorem op_end : zSt1 zRel f_X11_end f_X12_end := by
  intro a Sx Sm h
  have h0 := h
  obtain ⟨⟨⟨n, hn, e1, e2⟩, hb⟩, hF, hL, hR, hFm, hW, hO, st, pl, tp, pa, hH, hA, hI⟩ := h
  unfold f_X11_end f_X12_end
  rw [e1, e2]
  by_cases c1 : a < 0
  · exact ⟨_, _, _, if_pos c1, if_pos c1, h0⟩
  · rw [if_neg c1, if_neg c1]
    by_cases c2 : nI n < a
    · exact ⟨_, _, _, if_pos c2, if_pos c2, h0⟩
    · rw [if_neg c2, if_neg c2]
      obtain ⟨m, hm, rfl⟩ := nI_of c1
      have hmn : m ≤ n := by
        rw [nI_ltI (by omega) hm] at c2
        omega
      exact ⟨_, _, _, rfl, rfl, ⟨⟨m, by omega, rfl, rfl⟩, hb⟩, hF, hL, hR, hFm, hW, hO, st, pl, tp, pa, hH, hA, hI⟩
theorem op_fault : zSt1 zRel f_X11_fault f_X12_fault := by
  intro a Sx Sm h
  obtain ⟨-, ⟨e1, e2⟩, -⟩ := id h
  unfold f_X11_fault f_X12_fault
  rw [e1, e2]
  by_cases c1 : a = 0
  · exact ⟨_, _, _, if_pos c1, if_pos c1, h⟩
  · rw [if_neg c1, if_neg c1]
    by_cases c2 : a = 1
    · exact ⟨_, _, _, if_pos c2, if_pos c2, h⟩
    · exact ⟨_, _, _, if_neg c2, if_neg c2, h⟩
theorem op_later : zSt1 zRel f_X11_later f_X12_later := by
  intro a Sx Sm h
  have h0 := h
  obtain ⟨hT, hF, hL, ⟨⟨t, ht, e1, e2⟩, hR⟩, hFm, hW, hO, st, pl, tp, pa, hH, hA, hI⟩ := h
  unfold f_X11_later f_X12_later
  rw [e1, e2]
  by_cases c1 : a < 0
  · exact ⟨_, _, _, if_pos c1, if_pos c1, h0⟩
  · rw [if_neg c1, if_neg c1]
    by_cases c2 : (1000 : Int32) < a
    · exact ⟨_, _, _, if_pos c2, if_pos c2, h0⟩
    · rw [if_neg c2, if_neg c2]
      by_cases c3 : (100000 : Int32) < nI t + a
      · exact ⟨_, _, _, if_pos c3, if_pos c3, h0⟩
      · rw [if_neg c3, if_neg c3]
        obtain ⟨m, hm, rfl⟩ := nI_of c1
        have c2' : ¬ nI 1000 < nI m := c2
        rw [nI_ltI (by omega) hm] at c2'
        have c3' : ¬ nI 100000 < nI t + nI m := c3
        rw [nI_add, nI_ltI (by omega) (by omega)] at c3'
        exact ⟨_, _, _, rfl, rfl, hT, hF, hL, ⟨⟨t + m, by omega, nI_add t m, nI_add t m⟩, hR⟩, hFm, hW, hO, st, pl, tp, pa, hH, hA, hI⟩
theorem isIn_spec (x lo hi : Int32) (S : zS) : f_X12_isIn x lo hi S = some (if x < lo then 0 else if hi < x then 0 else 1, S) := by
  unfold f_X12_isIn
  by_cases c1 : x < lo
  · rw [if_pos c1, if_pos c1]
  · rw [if_neg c1, if_neg c1]
    by_cases c2 : hi < x
    · rw [if_pos c2, if_pos c2]
    · rw [if_neg c2, if_neg c2]
/-- x is one of the first n numbers, as the reference asks for it -/
theorem isIn_n {n : Nat} (hn : n < 2 ^ 30) (x : Int32) (S : zS) : f_X12_isIn x 0 (nI n - 1) S = some (if ¬ x < 0 ∧ x < nI n then 1 else 0, S) := by
  rw [isIn_spec]
  by_cases c1 : x < 0
  · rw [if_pos c1, if_neg (fun z => z.1 c1)]
  · rw [if_neg c1]
    obtain ⟨m, hm, rfl⟩ := nI_of c1
    have e : nI n - 1 < nI m ↔ ¬ nI m < nI n := by
      rw [Int32.lt_iff_toInt_lt, show (1 : Int32) = nI 1 from rfl, pk_sub_toInt hn (by omega), nI_toInt hm, nI_ltI hm (by omega)]
      omega
    by_cases c2 : nI m < nI n
    · rw [if_neg (fun z => e.mp z c2), if_pos ⟨c1, c2⟩]
    · rw [if_pos (e.mpr c2), if_neg (fun z => c2 z.2)]
theorem z01 {α : Type} (P : Prop) [Decidable P] (A B : α) : (if (if P then (1 : Int32) else 0) = 0 then A else B) = if P then B else A := by
  by_cases h : P
  · rw [if_pos h, if_pos h, if_neg (by decide)]
  · rw [if_neg h, if_neg h, if_pos rfl]
theorem znb_01 (P : Prop) [Decidable P] : znb (if P then (1 : Int32) else 0) := by
  by_cases h : P
  · rw [if_pos h]; exact Or.inr rfl
  · rw [if_neg h]; exact Or.inl rfl
theorem zin_T {m n : Nat} (h : m < n) (hn : n < 2 ^ 31) : zin (nI m) n = True := eq_true (vp_in_nI h hn)
theorem op_lies : zSt1 zRel f_X11_lies f_X12_lies := by
  intro a Sx Sm h
  have h0 := h
  obtain ⟨hT, hF, ⟨n, hn, e1, e2, e3⟩, -⟩ := h
  unfold f_X11_lies f_X12_lies
  rw [e2, isIn_n (by omega), zb_def, e1, z01]
  by_cases c1 : a < 0
  · rw [if_pos c1, if_neg (fun z => z.1 c1)]
    exact ⟨_, _, _, rfl, rfl, h0⟩
  · rw [if_neg c1]
    by_cases c2 : a < nI n
    · obtain ⟨m, hm, rfl⟩ := nI_of c1
      have hlt : m < n := (nI_ltI hm (by omega)).mp c2
      have hz : zin (nI m) 3 := vp_in_nI (by omega) (by omega)
      rw [if_pos c2, if_pos (show nI m < 3 from nI_lt (b := 3) (by omega) (by omega)), if_pos hz, if_pos ⟨c1, c2⟩, if_pos hz, nI_clamp hm, e3 m hlt]
      exact ⟨_, _, _, rfl, rfl, h0⟩
    · rw [if_neg c2, if_neg (fun z => c2 z.2)]
      exact ⟨_, _, _, rfl, rfl, h0⟩
theorem op_untell : zSt1 zRel f_X11_untell f_X12_untell := by
  intro a Sx Sm h
  have h0 := h
  obtain ⟨hT, hF, hL, ⟨⟨t, ht, e1, e2⟩, n, hn, e3, e4, hr⟩, hFm, hW, hO, st, pl, tp, pa, hH, hA, hI⟩ := h
  unfold f_X11_untell f_X12_untell f_X8_takeBack_47
  rw [e4, isIn_n (by omega), zb_def, e3, e1, z01]
  by_cases c1 : a < 0
  · rw [if_pos c1, if_neg (fun z => z.1 c1)]
    exact ⟨0, _, _, rfl, rfl, h0⟩
  · rw [if_neg c1]
    by_cases c2 : a < nI n
    · obtain ⟨m, hm, rfl⟩ := nI_of c1
      have hlt : m < n := (nI_ltI hm (by omega)).mp c2
      have hz : zin (nI m) 30 = True := zin_T (by omega) (by omega)
      obtain ⟨p, q, ah, tt, u, ⟨k1, k2, k3, k4, k5⟩, g1, g2, g3, g4, g5, g6, g7, g8, g9⟩ := hr m hlt
      have h30 : nI m < 30 := nI_lt (b := 30) (by omega) (by omega)
      simp only [c1, c2, h30, hz, not_false_eq_true, and_self, ↓reduceIte, nI_clamp hm, g5, g9]
      rcases k5 with k5 | ⟨v, k5, k6⟩
      · subst k5
        simp only [show (-1 : Int32) < 0 by decide, ↓reduceIte, e2]
        refine ⟨1, _, _, rfl, rfl, hT, hF, hL, ⟨⟨t, ht, e1, e2⟩, n, hn, e3, e4, fun i hi => ?_⟩, hFm, hW, hO, st, pl, tp, pa, hH, hA, hI⟩
        by_cases him : i = m
        · subst him
          exact ⟨p, q, ah, tt, nI t, ⟨k1, k2, k3, k4, Or.inr ⟨t, ht, rfl⟩⟩, g1, g2, g3, g4, upd_at _ _ _, g6, g7, g8, upd_at _ _ _⟩
        · obtain ⟨p', q', ah', tt', u', k', g1', g2', g3', g4', g5', g6', g7', g8', g9'⟩ := hr i hi
          exact ⟨p', q', ah', tt', u', k', g1', g2', g3', g4', (upd_ne _ _ _ _ him).trans g5', g6', g7', g8', (upd_ne _ _ _ _ him).trans g9'⟩
      · subst k6
        rw [if_neg (nI_neg1 (by omega)), if_neg (nI_not_neg (by omega))]
        exact ⟨0, _, _, rfl, rfl, h0⟩
    · rw [if_neg c2, if_neg (fun z => c2 z.2)]
      exact ⟨0, _, _, rfl, rfl, h0⟩
theorem ac_now {st pl tp : Nat} {X37 X38 X39 X14 X15 X16 X17 X18 X19 X20 X43 X44 M19 M21 : Nat → Int32} {ma mu : Int32} (h : rA st pl tp X37 X38 X39 X14 X15 X16 X17 X18 X19 X20 X43 X44 M19 M21 ma mu) : ∃ c : Nat, okN st pl tp c M19 ∧ rB c M19 X14 X15 X16 X17 X18 X19 ∧ X37 0 = nI c ∧ X37 1 = M19 97 ∧ X37 2 = M19 98 ∧ ∀ b, b < c → X38 b = M19 (8 * b) ∧ X39 b = M19 (8 * b + 1) := by
  obtain ⟨d, u, f, h, c, hdu, hf, -, -, -, -, -, hall, -, hnow, ⟨g0, g1, g2, g3⟩, -⟩ := h
  obtain ⟨⟨k1, k2, k3, k4, k5⟩, -, kB⟩ := hall d (by omega)
  have e : ∀ i, i < 99 → h d i = M19 i := fun i hi => (hnow i hi).symm
  refine ⟨c d, ⟨k1, (hnow 96 (by omega)).trans k2, by rw [hnow 97 (by omega)]; exact k3, by rw [hnow 98 (by omega)]; exact k4, fun b hb => ?_⟩, fun b hb => ?_, ?_, ?_, ?_, fun b hb => ?_⟩
  · rw [← e _ (by omega), ← e _ (by omega), ← e _ (by omega), ← e _ (by omega), ← e _ (by omega), ← e _ (by omega), ← e _ (by omega)]
    exact k5 b hb
  · rw [← e _ (by omega), ← e _ (by omega), ← e _ (by omega), ← e _ (by omega), ← e _ (by omega), ← e _ (by omega)]
    exact kB b hb
  · exact (show X37 0 = h d 96 from g0).trans k2
  · exact (show X37 1 = h d 97 from g1).trans (e 97 (by omega))
  · exact (show X37 2 = h d 98 from g2).trans (e 98 (by omega))
  · obtain ⟨q1, q2⟩ := g3 b hb
    rw [← e _ (by omega), ← e _ (by omega)]
    have q1' : X38 b = h d (8 * b) := by
      have : (if 3 + b < 3 then X37 (3 + b) else if 3 + b < 15 then X38 (3 + b - 3) else X39 (3 + b - 15)) = h d (8 * b) := q1
      rwa [if_neg (by omega), if_pos (by omega), show 3 + b - 3 = b by omega] at this
    have q2' : X39 b = h d (8 * b + 1) := by
      have : (if 15 + b < 3 then X37 (15 + b) else if 15 + b < 15 then X38 (15 + b - 3) else X39 (15 + b - 15)) = h d (8 * b + 1) := q2
      rwa [if_neg (by omega), if_neg (by omega), show 15 + b - 15 = b by omega] at this
    exact ⟨q1', q2'⟩
/-- 'is a bill', on both sides -/
theorem isBillX {c : Nat} {S : zS} (hc : c ≤ 12) (e : S.1 37 0 = nI c) (x : Int32) : f_X11_isBill x S = some (if ¬ x < 0 ∧ x < nI c then 1 else 0, S) := by
  unfold f_X11_isBill
  rw [e]
  by_cases c1 : x < 0
  · simp only [c1, not_true_eq_false, false_and, ↓reduceIte]
  · by_cases c2 : x < nI c
    · have c3 : x < 12 := by
        obtain ⟨m, hm, rfl⟩ := nI_of c1
        have := (nI_ltI hm (by omega)).mp c2
        exact nI_lt (b := 12) (by omega) (by omega)
      simp only [c1, c2, c3, not_false_eq_true, and_self, ↓reduceIte]
    · simp only [c1, c2, and_false, ↓reduceIte]
theorem isBillM {c : Nat} {S : zS} (hc : c ≤ 12) (e : S.1 19 96 = nI c) (x : Int32) : f_X12_isBill x S = some (if ¬ x < 0 ∧ x < nI c then 1 else 0, S) := by
  unfold f_X12_isBill
  rw [show Int32.toNatClampNeg 96 = 96 from rfl, e, isIn_n (by omega), zb_def, if_pos (znb_01 _)]
theorem isOrdX {c : Nat} {S : zS} (hc : c ≤ 12) (e : S.1 37 0 = nI c) (x : Int32) : f_X11_isOrdered x S = some (if ¬ x < 0 ∧ x < nI (min c 5) then 1 else 0, S) := by
  unfold f_X11_isOrdered
  rw [isBillX hc e, zb_def, z01]
  by_cases c1 : x < 0
  · simp only [c1, not_true_eq_false, false_and, ↓reduceIte]
  · obtain ⟨m, hm, rfl⟩ := nI_of c1
    have ec : nI m < nI c ↔ m < c := nI_ltI hm (by omega)
    have em : nI m < nI (min c 5) ↔ m < min c 5 := nI_ltI hm (by omega)
    have e5 : nI m < 5 ↔ m < 5 := nI_ltI (b := 5) hm (by omega)
    simp only [ec, em, e5, c1, not_false_eq_true, true_and]
    by_cases c2 : m < c
    · by_cases c3 : m < 5
      · rw [if_pos c2, if_pos c3, if_pos (by omega)]
      · rw [if_pos c2, if_neg c3, if_neg (by omega)]
    · rw [if_neg c2, if_neg (by omega)]
theorem firstM {c : Nat} {S : zS} (hc : c ≤ 12) (e : S.1 19 96 = nI c) : f_X12_firstBills S = some (nI (min c 5), S) := by
  unfold f_X12_firstBills
  rw [show Int32.toNatClampNeg 96 = 96 from rfl, e]
  have e5 : nI c < 5 ↔ c < 5 := nI_ltI (b := 5) (by omega) (by omega)
  by_cases c1 : c < 5
  · rw [if_pos (e5.mpr c1), show min c 5 = c by omega]
  · rw [if_neg (fun z => c1 (e5.mp z)), show min c 5 = 5 by omega]
    rfl
theorem isFirstM {c : Nat} {S : zS} (hc : c ≤ 12) (e : S.1 19 96 = nI c) (x : Int32) : f_X12_isFirst x S = some (if ¬ x < 0 ∧ x < nI (min c 5) then 1 else 0, S) := by
  unfold f_X12_isFirst
  rw [firstM hc e, zb_def, isIn_n (by omega), zb_def, if_pos (znb_01 _)]
theorem op_ring : zStR zRel := by
  intro a b x hx Sx Sm h
  have h0 := h
  obtain ⟨hT, hF, hL, ⟨⟨t, ht, e1, e2⟩, n, hn, e3, e4, hr⟩, hFm, hW, hO, st, pl, tp, pa, hH, hA, hI⟩ := h
  obtain ⟨c, ⟨hc, hc2, -⟩, -, hx0, -⟩ := ac_now hA
  unfold f_X11_ring f_X12_ring
  rw [isOrdX hc hx0, isFirstM hc hc2, zb_def, zb_def, z01, z01, isOrdX hc hx0, isFirstM hc hc2, zb_def, zb_def, z01, z01]
  by_cases ca : ¬ a < 0 ∧ a < nI (min c 5)
  · by_cases cb : ¬ b < 0 ∧ b < nI (min c 5)
    · by_cases cab : a = b
      · simp only [ca, cb, cab, not_false_eq_true, and_self, ↓reduceIte]
        exact ⟨_, _, _, rfl, rfl, h0⟩
      · obtain ⟨i, hi, rfl⟩ := nI_of ca.1
        obtain ⟨j, hj, rfl⟩ := nI_of cb.1
        have hi5 : i < 5 := by have := (nI_ltI hi (by omega)).mp ca.2; omega
        have hj5 : j < 5 := by have := (nI_ltI hj (by omega)).mp cb.2; omega
        have hij : i ≠ j := fun z => cab (by rw [z])
        by_cases cn : n = 30
        · subst cn
          have c30 : ¬ nI 30 < 30 := by decide
          have c31 : ¬ nI 30 < 0 := by decide
          have c32 : nI 30 = 30 := rfl
          unfold f_X8_tell_47
          simp only [ca, cb, cab, not_false_eq_true, and_self, ↓reduceIte, e3, e4, c32, show ¬ (30 : Int32) < 30 by decide, show ¬ (30 : Int32) < 0 by decide, zb_def, ite_self]
          exact ⟨_, _, _, rfl, rfl, h0⟩
        · have hlt : n < 30 := by omega
          have hz : zin (nI n) 30 = True := zin_T (by omega) (by omega)
          have cn0 : ¬ nI n < 0 := nI_not_neg (by omega)
          have cn1 : nI n < 30 := nI_lt (b := 30) hlt (by omega)
          have cn2 : ¬ nI n = 30 := fun z => cn ((nI_eq (b := 30) (by omega) (by omega)).mp z)
          have hcl : (nI n).toNatClampNeg = n := nI_clamp (by omega)
          have hx1 : vp_nar .boolean x = x := by rcases hx with rfl | rfl <;> rfl
          have key : ∀ (p q : Nat) (ah : Bool), p = (if ah then i else j) → q = (if ah then j else i) → x = (if ah then 1 else 0) → ∃ r Sx' Sm', f_X8_tell_47 (nI p) (nI q) Sx = some (r, Sx') ∧ (if Sm.1 0 72 = 30 then some (-1, Sm) else if zin (Sm.1 0 72) 30 then
              zlet (zput Sm 28 (Sm.1 0 72).toNatClampNeg (nI i)) fun T12 => if zin (T12.1 0 72) 30 then zlet (zput T12 29 (T12.1 0 72).toNatClampNeg (nI j)) fun T14 => if zin (T14.1 0 72) 30 then zlet (zput T14 32 (T14.1 0 72).toNatClampNeg (vp_nar .boolean x)) fun T16 => if zin (T16.1 0 72) 30 then zlet (zput T16 30 (T16.1 0 72).toNatClampNeg (T16.1 0 73)) fun T18 => if zin (T18.1 0 72) 30 then zlet (zput T18 31 (T18.1 0 72).toNatClampNeg (-1)) fun T20 => zlet (zput T20 0 72 ((T20.1 0 72) + 1)) fun T21 => some ((T21.1 0 72) - 1, T21) else none else none else none else none else none) = some (r, Sm') ∧ zRel Sx' Sm' := by
            intro p q ah hp hq hxa
            unfold f_X8_tell_47
            simp only [e3, e4, e1, e2, cn0, cn1, cn2, hz, hcl, hx1, ↓reduceIte, zlet_def, zput1, show ¬ (0 : Nat) = 28 by decide, show ¬ (0 : Nat) = 29 by decide, show ¬ (0 : Nat) = 30 by decide, show ¬ (0 : Nat) = 31 by decide, show ¬ (0 : Nat) = 32 by decide, show ¬ (47 : Nat) = 48 by decide, show ¬ (47 : Nat) = 49 by decide, show ¬ (47 : Nat) = 50 by decide, show ¬ (47 : Nat) = 51 by decide, false_and, and_self]
            refine ⟨_, _, _, rfl, rfl, hT, hF, hL, ⟨⟨t, ht, e1, e2⟩, n + 1, by omega, nI_1 n, nI_1 n, fun k hk => ?_⟩, hFm, hW, hO, st, pl, tp, pa, hH, hA, hI⟩
            by_cases hkn : k = n
            · subst hkn
              refine ⟨i, j, ah, t, -1, ⟨hi5, hj5, hij, ht, Or.inl rfl⟩, upd_at _ _ _, upd_at _ _ _, (upd_at _ _ _).trans hxa, upd_at _ _ _, upd_at _ _ _, (upd_at _ _ _).trans (by rw [hp]), (upd_at _ _ _).trans (by rw [hq]), upd_at _ _ _, upd_at _ _ _⟩
            · obtain ⟨p', q', ah', tt', u', k', g1', g2', g3', g4', g5', g6', g7', g8', g9'⟩ := hr k (by omega)
              exact ⟨p', q', ah', tt', u', k', (upd_ne _ _ _ _ hkn).trans g1', (upd_ne _ _ _ _ hkn).trans g2', (upd_ne _ _ _ _ hkn).trans g3', (upd_ne _ _ _ _ hkn).trans g4', (upd_ne _ _ _ _ hkn).trans g5', (upd_ne _ _ _ _ hkn).trans g6', (upd_ne _ _ _ _ hkn).trans g7', (upd_ne _ _ _ _ hkn).trans g8', (upd_ne _ _ _ _ hkn).trans g9'⟩
          simp only [ca, cb, cab, not_false_eq_true, and_self, ↓reduceIte]
          rcases hx with rfl | rfl
          · obtain ⟨r, Sx', Sm', q1, q2, hR'⟩ := key j i false rfl rfl rfl
            rw [if_pos rfl, q1, zb_def]
            exact ⟨r, Sx', Sm', rfl, q2, hR'⟩
          · obtain ⟨r, Sx', Sm', q1, q2, hR'⟩ := key i j true rfl rfl rfl
            rw [if_neg (by decide), q1, zb_def]
            exact ⟨r, Sx', Sm', rfl, q2, hR'⟩
    · simp only [ca, cb, not_false_eq_true, and_self, ↓reduceIte]
      exact ⟨_, _, _, rfl, rfl, h0⟩
  · simp only [ca, ↓reduceIte]
    exact ⟨_, _, _, rfl, rfl, h0⟩
