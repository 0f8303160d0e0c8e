/-! ===== image, back ===== -/
theorem stB {S : zS} {b : Nat} (hb : b + 72 ≤ 297) : ∃ T, f_X1_store_13_46 (nI b) S = some T ∧ kp [46] S T ∧ (∀ i, i < 12 → T.1 46 (b + i) = S.1 14 i) ∧ (∀ i, i < 12 → T.1 46 (b + 12 + i) = S.1 15 i) ∧ (∀ i, i < 12 → T.1 46 (b + 24 + i) = S.1 16 i) ∧ (∀ i, i < 12 → T.1 46 (b + 36 + i) = S.1 17 i) ∧ (∀ i, i < 12 → T.1 46 (b + 48 + i) = S.1 18 i) ∧ (∀ i, i < 12 → T.1 46 (b + 60 + i) = S.1 19 i) ∧ ∀ i, i < b ∨ b + 72 ≤ i → T.1 46 i = S.1 46 i := by
  have e12 : nI b + 12 = nI (b + 12) := nI_add b 12
  have e24 : nI b + 24 = nI (b + 24) := nI_add b 24
  have e36 : nI b + 36 = nI (b + 36) := nI_add b 36
  have e48 : nI b + 48 = nI (b + 48) := nI_add b 48
  have e60 : nI b + 60 = nI (b + 60) := nI_add b 60
  have e72 : nI b + 72 = nI (b + 72) := nI_add b 72
  have c0 : zcinB 0 (nI (b)) 12 12 297 := ⟨by decide, nI_not_neg (by omega), by decide, by decide, by rw [nI_clamp (by omega)]; show b + 12 ≤ 297; omega⟩
  have c12 : zcinB 0 (nI (b + 12)) 12 12 297 := ⟨by decide, nI_not_neg (by omega), by decide, by decide, by rw [nI_clamp (by omega)]; show b + 12 + 12 ≤ 297; omega⟩
  have c24 : zcinB 0 (nI (b + 24)) 12 12 297 := ⟨by decide, nI_not_neg (by omega), by decide, by decide, by rw [nI_clamp (by omega)]; show b + 24 + 12 ≤ 297; omega⟩
  have c36 : zcinB 0 (nI (b + 36)) 12 12 297 := ⟨by decide, nI_not_neg (by omega), by decide, by decide, by rw [nI_clamp (by omega)]; show b + 36 + 12 ≤ 297; omega⟩
  have c48 : zcinB 0 (nI (b + 48)) 12 12 297 := ⟨by decide, nI_not_neg (by omega), by decide, by decide, by rw [nI_clamp (by omega)]; show b + 48 + 12 ≤ 297; omega⟩
  have c60 : zcinB 0 (nI (b + 60)) 12 12 297 := ⟨by decide, nI_not_neg (by omega), by decide, by decide, by rw [nI_clamp (by omega)]; show b + 60 + 12 ≤ 297; omega⟩
  unfold f_X1_store_13_46
  rw [e72, e12, e24, e36, e48, e60]
  rw [if_neg (nI_not_neg (by omega)), if_neg (show ¬ (297 : Int32) < nI (b + 72) from nI_nlt (a := 297) (by omega) (by omega)), if_pos c0, zlet_def, if_pos c12, zlet_def, if_pos c24, zlet_def, if_pos c36, zlet_def, if_pos c48, zlet_def, if_pos c60, zlet_def, nI_clamp (show b < 2 ^ 31 by omega), nI_clamp (show b + 12 < 2 ^ 31 by omega), nI_clamp (show b + 24 < 2 ^ 31 by omega), nI_clamp (show b + 36 < 2 ^ 31 by omega), nI_clamp (show b + 48 < 2 ^ 31 by omega), nI_clamp (show b + 60 < 2 ^ 31 by omega)]
  refine ⟨_, rfl, kp_trans (kp_trans (kp_trans (kp_trans (kp_trans (kp_cpy (by decide)) (kp_cpy (by decide))) (kp_cpy (by decide))) (kp_cpy (by decide))) (kp_cpy (by decide))) (kp_cpy (by decide)), fun i hi => ?_, fun i hi => ?_, fun i hi => ?_, fun i hi => ?_, fun i hi => ?_, fun i hi => ?_, fun i hi => ?_⟩
  · show (va_cpy (S.1 19) (va_cpy (S.1 18) (va_cpy (S.1 17) (va_cpy (S.1 16) (va_cpy (S.1 15) (va_cpy (S.1 14) (S.1 46) 0 (b) 12) 0 (b + 12) 12) 0 (b + 24) 12) 0 (b + 36) 12) 0 (b + 48) 12) 0 (b + 60) 12) (b + i) = _
    rw [pk_cpy_out (by omega), pk_cpy_out (by omega), pk_cpy_out (by omega), pk_cpy_out (by omega), pk_cpy_out (by omega), pk_cpy_in (by omega) (by omega)]
    exact congrArg (S.1 14) (by omega)
  · show (va_cpy (S.1 19) (va_cpy (S.1 18) (va_cpy (S.1 17) (va_cpy (S.1 16) (va_cpy (S.1 15) (va_cpy (S.1 14) (S.1 46) 0 (b) 12) 0 (b + 12) 12) 0 (b + 24) 12) 0 (b + 36) 12) 0 (b + 48) 12) 0 (b + 60) 12) (b + 12 + i) = _
    rw [pk_cpy_out (by omega), pk_cpy_out (by omega), pk_cpy_out (by omega), pk_cpy_out (by omega), pk_cpy_in (by omega) (by omega)]
    exact congrArg (S.1 15) (by omega)
  · show (va_cpy (S.1 19) (va_cpy (S.1 18) (va_cpy (S.1 17) (va_cpy (S.1 16) (va_cpy (S.1 15) (va_cpy (S.1 14) (S.1 46) 0 (b) 12) 0 (b + 12) 12) 0 (b + 24) 12) 0 (b + 36) 12) 0 (b + 48) 12) 0 (b + 60) 12) (b + 24 + i) = _
    rw [pk_cpy_out (by omega), pk_cpy_out (by omega), pk_cpy_out (by omega), pk_cpy_in (by omega) (by omega)]
    exact congrArg (S.1 16) (by omega)
  · show (va_cpy (S.1 19) (va_cpy (S.1 18) (va_cpy (S.1 17) (va_cpy (S.1 16) (va_cpy (S.1 15) (va_cpy (S.1 14) (S.1 46) 0 (b) 12) 0 (b + 12) 12) 0 (b + 24) 12) 0 (b + 36) 12) 0 (b + 48) 12) 0 (b + 60) 12) (b + 36 + i) = _
    rw [pk_cpy_out (by omega), pk_cpy_out (by omega), pk_cpy_in (by omega) (by omega)]
    exact congrArg (S.1 17) (by omega)
  · show (va_cpy (S.1 19) (va_cpy (S.1 18) (va_cpy (S.1 17) (va_cpy (S.1 16) (va_cpy (S.1 15) (va_cpy (S.1 14) (S.1 46) 0 (b) 12) 0 (b + 12) 12) 0 (b + 24) 12) 0 (b + 36) 12) 0 (b + 48) 12) 0 (b + 60) 12) (b + 48 + i) = _
    rw [pk_cpy_out (by omega), pk_cpy_in (by omega) (by omega)]
    exact congrArg (S.1 18) (by omega)
  · show (va_cpy (S.1 19) (va_cpy (S.1 18) (va_cpy (S.1 17) (va_cpy (S.1 16) (va_cpy (S.1 15) (va_cpy (S.1 14) (S.1 46) 0 (b) 12) 0 (b + 12) 12) 0 (b + 24) 12) 0 (b + 36) 12) 0 (b + 48) 12) 0 (b + 60) 12) (b + 60 + i) = _
    rw [pk_cpy_in (by omega) (by omega)]
    exact congrArg (S.1 19) (by omega)
  · show (va_cpy (S.1 19) (va_cpy (S.1 18) (va_cpy (S.1 17) (va_cpy (S.1 16) (va_cpy (S.1 15) (va_cpy (S.1 14) (S.1 46) 0 (b) 12) 0 (b + 12) 12) 0 (b + 24) 12) 0 (b + 36) 12) 0 (b + 48) 12) 0 (b + 60) 12) i = _
    rw [pk_cpy_out (by omega), pk_cpy_out (by omega), pk_cpy_out (by omega), pk_cpy_out (by omega), pk_cpy_out (by omega), pk_cpy_out (by omega)]
theorem ldB {S : zS} {b : Nat} (hb : b + 72 ≤ 297) (hO : ∀ i, i < 12 → ∃ s : Nat, s < 12 ∧ S.1 46 (b + i) = nI s) : ∃ T, f_X1_load_13_46 (nI b) S = some T ∧ kp [14, 15, 16, 17, 18, 19, 20] S T ∧ (∀ i, i < 12 → T.1 14 i = S.1 46 (b + i)) ∧ (∀ i, i < 12 → T.1 15 i = S.1 46 (b + 12 + i)) ∧ (∀ i, i < 12 → T.1 16 i = S.1 46 (b + 24 + i)) ∧ (∀ i, i < 12 → T.1 17 i = S.1 46 (b + 36 + i)) ∧ (∀ i, i < 12 → T.1 18 i = S.1 46 (b + 48 + i)) ∧ (∀ i, i < 12 → T.1 19 i = S.1 46 (b + 60 + i)) ∧ ∀ i, i < 12 → T.1 20 i = nI ((ordF (T.1 14)).getD i 0) := by
  have e12 : nI b + 12 = nI (b + 12) := nI_add b 12
  have e24 : nI b + 24 = nI (b + 24) := nI_add b 24
  have e36 : nI b + 36 = nI (b + 36) := nI_add b 36
  have e48 : nI b + 48 = nI (b + 48) := nI_add b 48
  have e60 : nI b + 60 = nI (b + 60) := nI_add b 60
  have e72 : nI b + 72 = nI (b + 72) := nI_add b 72
  have c0 : zcinB (nI (b)) 0 12 297 12 := ⟨nI_not_neg (by omega), by decide, by decide, by rw [nI_clamp (by omega)]; show b + 12 ≤ 297; omega, by decide⟩
  have c12 : zcinB (nI (b + 12)) 0 12 297 12 := ⟨nI_not_neg (by omega), by decide, by decide, by rw [nI_clamp (by omega)]; show b + 12 + 12 ≤ 297; omega, by decide⟩
  have c24 : zcinB (nI (b + 24)) 0 12 297 12 := ⟨nI_not_neg (by omega), by decide, by decide, by rw [nI_clamp (by omega)]; show b + 24 + 12 ≤ 297; omega, by decide⟩
  have c36 : zcinB (nI (b + 36)) 0 12 297 12 := ⟨nI_not_neg (by omega), by decide, by decide, by rw [nI_clamp (by omega)]; show b + 36 + 12 ≤ 297; omega, by decide⟩
  have c48 : zcinB (nI (b + 48)) 0 12 297 12 := ⟨nI_not_neg (by omega), by decide, by decide, by rw [nI_clamp (by omega)]; show b + 48 + 12 ≤ 297; omega, by decide⟩
  have c60 : zcinB (nI (b + 60)) 0 12 297 12 := ⟨nI_not_neg (by omega), by decide, by decide, by rw [nI_clamp (by omega)]; show b + 60 + 12 ≤ 297; omega, by decide⟩
  unfold f_X1_load_13_46
  rw [e72, e12, e24, e36, e48, e60]
  rw [if_neg (nI_not_neg (by omega)), if_neg (show ¬ (297 : Int32) < nI (b + 72) from nI_nlt (a := 297) (by omega) (by omega)), if_pos c0, zlet_def, if_pos c12, zlet_def, if_pos c24, zlet_def, if_pos c36, zlet_def, if_pos c48, zlet_def, if_pos c60, zlet_def, nI_clamp (show b < 2 ^ 31 by omega), nI_clamp (show b + 12 < 2 ^ 31 by omega), nI_clamp (show b + 24 < 2 ^ 31 by omega), nI_clamp (show b + 36 < 2 ^ 31 by omega), nI_clamp (show b + 48 < 2 ^ 31 by omega), nI_clamp (show b + 60 < 2 ^ 31 by omega)]
  generalize hV : zcpy (zcpy (zcpy (zcpy (zcpy (zcpy (S) 46 14 (b) (Int32.toNatClampNeg 0) (Int32.toNatClampNeg 12)) 46 15 (b + 12) (Int32.toNatClampNeg 0) (Int32.toNatClampNeg 12)) 46 16 (b + 24) (Int32.toNatClampNeg 0) (Int32.toNatClampNeg 12)) 46 17 (b + 36) (Int32.toNatClampNeg 0) (Int32.toNatClampNeg 12)) 46 18 (b + 48) (Int32.toNatClampNeg 0) (Int32.toNatClampNeg 12)) 46 19 (b + 60) (Int32.toNatClampNeg 0) (Int32.toNatClampNeg 12) = V
  have v14 : ∀ i, i < 12 → V.1 14 i = S.1 46 (b + i) := fun i hi => by
    rw [← hV]
    show va_cpy (S.1 46) (S.1 14) b 0 12 i = _
    rw [pk_cpy_in (by omega) (by omega)]
    exact congrArg (S.1 46) (by omega)
  have kV : kp [14, 15, 16, 17, 18, 19, 20] S V := by
    rw [← hV]
    exact kp_trans (kp_trans (kp_trans (kp_trans (kp_trans (kp_cpy (by decide)) (kp_cpy (by decide))) (kp_cpy (by decide))) (kp_cpy (by decide))) (kp_cpy (by decide))) (kp_cpy (by decide))
  obtain ⟨T, eT, kT, hT⟩ := sortX13 (S := V) (fun i hi => by rw [v14 i hi]; exact hO i hi)
  rw [eT, zu_def]
  refine ⟨T, rfl, kp_trans kV (kp_in kT (by decide)), fun i hi => ?_, fun i hi => ?_, fun i hi => ?_, fun i hi => ?_, fun i hi => ?_, fun i hi => ?_, by rw [kT.2 14 (by decide)]; exact hT⟩
  · rw [kT.2 14 (by decide), ← hV]
    show va_cpy (S.1 46) (S.1 14) (b) 0 12 i = _
    rw [pk_cpy_in (by omega) (by omega)]
    exact congrArg (S.1 46) (by omega)
  · rw [kT.2 15 (by decide), ← hV]
    show va_cpy (S.1 46) (S.1 15) (b + 12) 0 12 i = _
    rw [pk_cpy_in (by omega) (by omega)]
    exact congrArg (S.1 46) (by omega)
  · rw [kT.2 16 (by decide), ← hV]
    show va_cpy (S.1 46) (S.1 16) (b + 24) 0 12 i = _
    rw [pk_cpy_in (by omega) (by omega)]
    exact congrArg (S.1 46) (by omega)
  · rw [kT.2 17 (by decide), ← hV]
    show va_cpy (S.1 46) (S.1 17) (b + 36) 0 12 i = _
    rw [pk_cpy_in (by omega) (by omega)]
    exact congrArg (S.1 46) (by omega)
  · rw [kT.2 18 (by decide), ← hV]
    show va_cpy (S.1 46) (S.1 18) (b + 48) 0 12 i = _
    rw [pk_cpy_in (by omega) (by omega)]
    exact congrArg (S.1 46) (by omega)
  · rw [kT.2 19 (by decide), ← hV]
    show va_cpy (S.1 46) (S.1 19) (b + 60) 0 12 i = _
    rw [pk_cpy_in (by omega) (by omega)]
    exact congrArg (S.1 46) (by omega)
theorem zRel_img {Sx Sm T U : zS} (h : zRel Sx Sm) (hk : kp [45, 46] Sx T) (hm : kp [36, 37] Sm U) (hI : ∀ st pl tp, rA st pl tp (Sx.1 37) (Sx.1 38) (Sx.1 39) (Sx.1 14) (Sx.1 15) (Sx.1 16) (Sx.1 17) (Sx.1 18) (Sx.1 19) (Sx.1 20) (Sx.1 43) (Sx.1 44) (Sm.1 19) (Sm.1 21) (Sm.1 0 56) (Sm.1 0 57) → rI st pl tp (Sx.1 45 0) (Sx.1 46) (Sm.1 36) (Sm.1 37) → rI st pl tp (T.1 45 0) (T.1 46) (U.1 36) (U.1 37)) : zRel T U := by
  obtain ⟨a1, a2, a3, a4, a5, a6, a7, st, pl, tp, pa, hH, hA, hI0⟩ := h
  unfold zRel
  rw [hk.1, hk.2 0 (by decide), hk.2 1 (by decide), hk.2 2 (by decide), hk.2 5 (by decide), hk.2 6 (by decide), hk.2 7 (by decide), hk.2 8 (by decide), hk.2 9 (by decide), hk.2 10 (by decide), hk.2 14 (by decide), hk.2 15 (by decide), hk.2 16 (by decide), hk.2 17 (by decide), hk.2 18 (by decide), hk.2 19 (by decide), hk.2 20 (by decide), hk.2 30 (by decide), hk.2 37 (by decide), hk.2 38 (by decide), hk.2 39 (by decide), hk.2 43 (by decide), hk.2 44 (by decide), hk.2 47 (by decide), hk.2 48 (by decide), hk.2 49 (by decide), hk.2 50 (by decide), hk.2 51 (by decide), hk.2 66 (by decide), hm.2 0 (by decide), hm.2 1 (by decide), hm.2 5 (by decide), hm.2 6 (by decide), hm.2 11 (by decide), hm.2 14 (by decide), hm.2 15 (by decide), hm.2 17 (by decide), hm.2 19 (by decide), hm.2 21 (by decide), hm.2 23 (by decide), hm.2 28 (by decide), hm.2 29 (by decide), hm.2 30 (by decide), hm.2 31 (by decide), hm.2 32 (by decide)]
  exact ⟨a1, a2, a3, a4, a5, a6, a7, st, pl, tp, pa, hH, hA, hI st pl tp hA hI0⟩
theorem box_or : ∀ fb, fb < 8 → ∀ k, k < 3 → nI fb ||| (1 <<< (nI k &&& 31)) = nI (fb ||| 2 ^ k) ∧ (fb ||| 2 ^ k) < 8 ∧ ∀ j, j < 3 → (fb ||| 2 ^ k).testBit j = (fb.testBit j || decide (j = k)) := by decide +kernel
theorem box_ask : ∀ fb, fb < 8 → ∀ k, k < 3 → ((nI fb >>> (nI k &&& 31)) &&& 1 = 0 ↔ fb.testBit k = false) := by decide +kernel
theorem imageM {S : zS} {k : Nat} (hk : k < 3) : ∃ T, f_X12_image_L18 zN (nI k) 0 S = some (T.1 19 97, T) ∧ kp [37] S T ∧ ∀ i, T.1 37 i = if 99 * k ≤ i ∧ i < 99 * k + 99 then S.1 19 (i - 99 * k) else S.1 37 i := by
  refine loopI (f := fun n (T : zS) b => f_X12_image_L18 n (nI k) (nI b) T) (fun b T => kp [37] S T ∧ ∀ i, T.1 37 i = if 99 * k ≤ i ∧ i < 99 * k + b then S.1 19 (i - 99 * k) else S.1 37 i) (fun o => ∃ T : zS, o = some (T.1 19 97, T) ∧ kp [37] S T ∧ ∀ i, T.1 37 i = if 99 * k ≤ i ∧ i < 99 * k + 99 then S.1 19 (i - 99 * k) else S.1 37 i) (c := 99) ?_ ?_ 99 0 zN S (by omega) (by decide) ⟨kp_rfl _ _, fun i => (if_neg (by omega)).symm⟩
  · intro n T b hb ⟨kT, hT⟩
    refine ⟨zput T 37 (99 * k + b) (S.1 19 b), ?_, kp_trans kT (kp_put (by decide)), fun i => ?_⟩
    · show f_X12_image_L18 (n + 1) (nI k) (nI b) T = _
      rw [f_X12_image_L18, if_pos (show nI b < 99 from nI_lt (b := 99) hb (by omega)), if_pos (zinN hb (by omega)), nI_99, if_pos (zinN (by omega) (by omega)), zlet_def, zlet_def, nI_1, nI_clamp (by omega), nI_clamp (by omega), kT.2 19 (by decide)]
    · rw [zput1_eq]
      by_cases hi : i = 99 * k + b
      · subst hi
        rw [upd_at, if_pos (by omega), show 99 * k + b - 99 * k = b by omega]
      · rw [upd_ne _ _ _ _ hi, hT i]
        by_cases h1 : 99 * k ≤ i ∧ i < 99 * k + b
        · rw [if_pos h1, if_pos (by omega)]
        · rw [if_neg h1, if_neg (by omega)]
  · intro n T ⟨kT, hT⟩
    refine ⟨T, ?_, kT, hT⟩
    show f_X12_image_L18 (n + 1) (nI k) (nI 99) T = _
    rw [f_X12_image_L18, if_neg (by decide)]
    rfl
theorem backM {S : zS} {k : Nat} (hk : k < 3) : ∃ T, f_X12_back_L20 zN (nI k) 0 S = some (T.1 19 97, T) ∧ kp [0, 19] S T ∧ (∀ i, i ≠ 56 → i ≠ 57 → T.1 0 i = S.1 0 i) ∧ T.1 0 56 = 0 ∧ T.1 0 57 = 0 ∧ ∀ i, i < 99 → T.1 19 i = S.1 37 (99 * k + i) := by
  refine loopI (f := fun n (T : zS) b => f_X12_back_L20 n (nI k) (nI b) T) (fun b T => kp [19] S T ∧ ∀ i, i < b → T.1 19 i = S.1 37 (99 * k + i)) (fun o => ∃ T : zS, o = some (T.1 19 97, T) ∧ kp [0, 19] S T ∧ (∀ i, i ≠ 56 → i ≠ 57 → T.1 0 i = S.1 0 i) ∧ T.1 0 56 = 0 ∧ T.1 0 57 = 0 ∧ ∀ i, i < 99 → T.1 19 i = S.1 37 (99 * k + i)) (c := 99) ?_ ?_ 99 0 zN S (by omega) (by decide) ⟨kp_rfl _ _, fun i h => by omega⟩
  · intro n T b hb ⟨kT, hT⟩
    refine ⟨zput T 19 b (S.1 37 (99 * k + b)), ?_, kp_trans kT (kp_put (by decide)), fun i hi => ?_⟩
    · show f_X12_back_L20 (n + 1) (nI k) (nI b) T = _
      rw [f_X12_back_L20, if_pos (show nI b < 99 from nI_lt (b := 99) hb (by omega)), nI_99, if_pos (zinN (by omega) (by omega)), if_pos (zinN hb (by omega)), zlet_def, zlet_def, nI_1, nI_clamp (by omega), nI_clamp (by omega), kT.2 37 (by decide)]
    · rw [zput1_eq]
      by_cases h1 : i = b
      · subst h1; exact upd_at _ _ _
      · rw [upd_ne _ _ _ _ h1]; exact hT i (by omega)
  · intro n T ⟨kT, hT⟩
    refine ⟨zput (zput T 0 56 0) 0 57 0, ?_, kp_trans (kp_in kT (by decide)) (kp_trans (kp_put (by decide)) (kp_put (by decide))), fun i h1 h2 => ?_, rfl, rfl, hT⟩
    · show f_X12_back_L20 (n + 1) (nI k) (nI 99) T = _
      rw [f_X12_back_L20, if_neg (by decide)]
      rfl
    · rw [zput1_eq, zput1_eq, upd_ne _ _ _ _ h2, upd_ne _ _ _ _ h1, kT.2 0 (by decide)]
theorem isBoxM (x : Int32) (S : zS) : f_X12_isBox x S = some (if ¬ x < 0 ∧ x < nI 3 then 1 else 0, S) := by
  unfold f_X12_isBox
  by_cases h1 : x < 0
  · rw [if_pos h1, if_neg (fun z => z.1 h1)]
  · rw [if_neg h1]
    by_cases h2 : x < 3
    · rw [if_pos h2, if_pos ⟨h1, h2⟩]
    · rw [if_neg h2, if_neg (fun z => h2 z.2)]
theorem op_image : zSt1 zRel f_X11_image f_X12_image := by
  intro x Sx Sm h
  obtain ⟨st, pl, tp, pa, c, hH, hA, hI, hN, hB, hg, hO, ho⟩ := rel_all h
  have hc := hN.1
  show zSame _ _
  unfold f_X11_image f_X12_image f_X5_keep_45_13_37
  rw [isBoxM, zb_def, z01]
  by_cases c1 : x < 0
  · rw [if_pos c1, if_neg (fun z => z.1 c1)]; exact zsame h
  · rw [if_neg c1]
    by_cases c2 : x < 3
    · rw [if_pos c2, if_pos ⟨c1, c2⟩]
      obtain ⟨k, hk2, rfl⟩ := nI_of c1
      have hk : k < 3 := (nI_ltI (b := 3) hk2 (by omega)).mp c2
      have e99 : nI k * 99 = nI (99 * k) := by rw [show (99 : Int32) = nI 99 from rfl, pk_mul, Nat.mul_comm]
      have e72 : nI (99 * k) + 72 = nI (99 * k + 72) := nI_add _ 72
      obtain ⟨T1, eT1, kT1, s0, s1, s2, s3, s4, s5, so⟩ := stB (S := Sx) (b := 99 * k) (by omega)
      obtain ⟨T2, eT2, kT2, hT2⟩ := stX_37_46 (S := T1) (b := 99 * k + 72) (by omega)
      rw [e99, eT1, zu_def, e72, eT2, zu_def, zlet_def, zu_def, if_pos (zinN hk (by omega)), zlet_def, nI_clamp (show k < 2 ^ 31 by omega), show vp_nar .boolean 1 = 1 from rfl]
      obtain ⟨U, eU, kU, hU⟩ := imageM (S := zput Sm 36 k 1) hk
      rw [eU]
      have e37 : (zput T2 45 0 (T2.1 45 0 ||| (1 <<< (nI k &&& 31)))).1 37 1 = U.1 19 97 := by
        show T2.1 37 1 = _
        rw [kT2.2 37 (by decide), kT1.2 37 (by decide), kU.2 19 (by decide)]
        exact hg.2.1
      rw [e37]
      refine zsame (zRel_img h (kp_trans (kp_trans (kp_in kT1 (by decide)) (kp_in kT2 (by decide))) (kp_put (by decide))) (kp_trans (kp_put (by decide)) (kp_in kU (by decide))) ?_)
      intro st pl tp hA ⟨fb, hfb, e45, hfa⟩
      obtain ⟨c, hN, hB, e0, e1, e2, hl⟩ := ac_now hA
      have hc := hN.1
      have hg : gR c (Sm.1 19) (Sx.1 37) (Sx.1 38) (Sx.1 39) := ⟨e0, e1, e2, hl⟩
      obtain ⟨o1, o2, o3⟩ := box_or fb hfb k hk
      refine ⟨fb ||| 2 ^ k, o2, ?_, fun j hj => ?_⟩
      · show T2.1 45 0 ||| (1 <<< (nI k &&& 31)) = _
        rw [kT2.2 45 (by decide), kT1.2 45 (by decide), e45, o1]
      · have e46 : (zput T2 45 0 (T2.1 45 0 ||| (1 <<< (nI k &&& 31)))).1 46 = T2.1 46 := rfl
        rw [o3 j hj, kU.2 36 (by decide), zput1_eq, e46]
        by_cases hjk : j = k
        · subst hjk
          refine ⟨by rw [upd_at]; simp, fun _ => ⟨c, Sm.1 19, hN, fun i hi => ?_, fun b hb => ?_, ?_, fun b hb => ?_⟩⟩
          · rw [hU, if_pos (by omega), show 99 * j + i - 99 * j = i by omega]; rfl
          · obtain ⟨b1, b2, b3, b4, b5, b6⟩ := hB b hb
            have eo : ∀ i, i < 72 → T2.1 46 (99 * j + i) = T1.1 46 (99 * j + i) := fun i hi => by rw [hT2, if_neg (by omega)]
            refine ⟨?_, ?_, ?_, ?_, ?_, ?_⟩
            · show T2.1 46 (99 * j + b) = _
              rw [eo b (by omega), s0 b (by omega), b1]
            · show T2.1 46 (99 * j + 12 + b) = _
              rw [Nat.add_assoc, eo (12 + b) (by omega), ← Nat.add_assoc, s1 b (by omega), b2]
            · show T2.1 46 (99 * j + 24 + b) = _
              rw [Nat.add_assoc, eo (24 + b) (by omega), ← Nat.add_assoc, s2 b (by omega), b3]
            · show T2.1 46 (99 * j + 36 + b) = _
              rw [Nat.add_assoc, eo (36 + b) (by omega), ← Nat.add_assoc, s3 b (by omega), b4]
            · show T2.1 46 (99 * j + 48 + b) = _
              rw [Nat.add_assoc, eo (48 + b) (by omega), ← Nat.add_assoc, s4 b (by omega), b5]
            · show T2.1 46 (99 * j + 60 + b) = _
              rw [Nat.add_assoc, eo (60 + b) (by omega), ← Nat.add_assoc, s5 b (by omega), b6]
          · refine rG_congr hc (rG_of_gR (T := T1) (g := 37) hN.2.1 ?_ hc) fun i hi => ?_
            · rw [kT1.2 37 (by decide), kT1.2 (37 + 1) (by decide), kT1.2 (37 + 2) (by decide)]; exact hg
            · show T2.1 46 (99 * j + 72 + i) = _
              rw [hT2, if_pos (by omega)]
              exact congrArg (rowG T1 37) (by omega)
          · show ∃ s : Nat, s < 12 ∧ T2.1 46 (99 * j + b) = nI s
            rw [hT2, if_neg (by omega), s0 b hb]
            exact hO b hb
        · have hk' : (fb.testBit j || decide (j = k)) = fb.testBit j := by simp [hjk]
          rw [hk', upd_ne _ _ _ _ hjk]
          obtain ⟨f1, f2⟩ := hfa j hj
          refine ⟨f1, fun hb => ?_⟩
          obtain ⟨c', N', n1, n2, n3, n4, n5⟩ := f2 hb
          have eo : ∀ i, i < 99 → T2.1 46 (99 * j + i) = Sx.1 46 (99 * j + i) := fun i hi => by rw [hT2, if_neg (by omega), so _ (by omega)]
          have hc' := n1.1
          refine ⟨c', N', n1, fun i hi => ?_, fun b hb => ?_, ?_, fun b hb => ?_⟩
          · rw [hU, if_neg (by omega)]; exact n2 i hi
          · obtain ⟨b1, b2, b3, b4, b5, b6⟩ := n3 b hb
            refine ⟨?_, ?_, ?_, ?_, ?_, ?_⟩
            · show T2.1 46 (99 * j + b) = _
              rw [eo b (by omega)]; exact b1
            · show T2.1 46 (99 * j + 12 + b) = _
              rw [Nat.add_assoc, eo (12 + b) (by omega), ← Nat.add_assoc]; exact b2
            · show T2.1 46 (99 * j + 24 + b) = _
              rw [Nat.add_assoc, eo (24 + b) (by omega), ← Nat.add_assoc]; exact b3
            · show T2.1 46 (99 * j + 36 + b) = _
              rw [Nat.add_assoc, eo (36 + b) (by omega), ← Nat.add_assoc]; exact b4
            · show T2.1 46 (99 * j + 48 + b) = _
              rw [Nat.add_assoc, eo (48 + b) (by omega), ← Nat.add_assoc]; exact b5
            · show T2.1 46 (99 * j + 60 + b) = _
              rw [Nat.add_assoc, eo (60 + b) (by omega), ← Nat.add_assoc]; exact b6
          · refine rG_congr hc' n4 fun i hi => ?_
            show T2.1 46 (99 * j + 72 + i) = _
            rw [Nat.add_assoc, eo (72 + i) (by omega), ← Nat.add_assoc]
          · show ∃ s : Nat, s < 12 ∧ T2.1 46 (99 * j + b) = nI s
            rw [eo b (by omega)]
            exact n5 b hb
    · rw [if_neg c2, if_neg (fun z => c2 z.2)]; exact zsame h
theorem restartX (S : zS) : ∃ T, f_X0_restart_43_37 S = some T ∧ kp [43, 44] S T ∧ T.1 43 0 = 0 ∧ T.1 43 1 = 0 ∧ T.1 43 2 = 0 ∧ ∀ i, i < 27 → T.1 44 i = rowG S 37 i := by
  unfold f_X0_restart_43_37
  rw [zlet_def, zlet_def, zlet_def]
  generalize hV : zput (zput (zput S 43 2 0) 43 0 0) 43 1 0 = V
  have v0 : V.1 43 0 = nI 0 := by rw [← hV]; rfl
  have v1 : V.1 43 1 = 0 := by rw [← hV]; rfl
  have v2 : V.1 43 2 = nI 0 := by rw [← hV]; rfl
  have kV : kp [43] S V := by rw [← hV]; exact kp_trans (kp_trans (kp_put (by decide)) (kp_put (by decide))) (kp_put (by decide))
  obtain ⟨T, eT, kT, hT⟩ := stX_37_44 (S := V) (b := (0 + 0) % 41 * 27) (by omega)
  rw [presX (by omega) (by omega) v0 v2, zb_def, eT, zu_def]
  refine ⟨T, rfl, kp_trans (kp_in kV (by decide)) (kp_in kT (by decide)), ?_, ?_, ?_, fun i hi => ?_⟩
  · rw [kT.2 43 (by decide)]; exact v0
  · rw [kT.2 43 (by decide)]; exact v1
  · rw [kT.2 43 (by decide)]; exact v2
  · rw [hT i, if_pos (by omega)]
    unfold rowG
    rw [kV.2 37 (by decide), kV.2 (37 + 1) (by decide), kV.2 (37 + 2) (by decide)]
    rfl
theorem rA_0 {T : zS} {N M21 : Nat → Int32} {st pl tp c : Nat} (hN : okN st pl tp c N) (hB : rB c N (T.1 14) (T.1 15) (T.1 16) (T.1 17) (T.1 18) (T.1 19)) (hg : gR c N (T.1 37) (T.1 38) (T.1 39)) (t0 : T.1 43 0 = 0) (t1 : T.1 43 1 = 0) (t2 : T.1 43 2 = 0) (t44 : ∀ i, i < 27 → T.1 44 i = rowG T 37 i) (ho : (∀ i, i < 12 → T.1 20 i = nI ((ordF (T.1 14)).getD i 0)) ∨ c = 0) : rA st pl tp (T.1 37) (T.1 38) (T.1 39) (T.1 14) (T.1 15) (T.1 16) (T.1 17) (T.1 18) (T.1 19) (T.1 20) (T.1 43) (T.1 44) N M21 0 0 := by
  have hr := rG_of_gR (T := T) (g := 37) hN.2.1 hg hN.1
  refine ⟨0, 0, 0, fun _ => N, fun _ => c, by omega, by omega, t0, t1, t2, rfl, rfl, fun j hj => ⟨hN, rG_congr hN.1 hr fun i hi => ?_, hB⟩, fun _ _ _ _ => Nat.le_refl _, fun _ _ => rfl, hr, fun j i hj => absurd hj (by omega), fun j i h1 h2 => absurd h2 (by omega), ho⟩
  have : j = 0 := by omega
  subst this
  show T.1 44 ((0 + 0) % 41 * 27 + i) = _
  rw [show (0 + 0) % 41 * 27 + i = i by omega]
  exact t44 i hi
theorem op_back : zSt1 zRel f_X11_back f_X12_back := by
  intro x Sx Sm h
  obtain ⟨st, pl, tp, pa, c, hH, hA, hI, hN, hB, hg, hO, ho⟩ := rel_all h
  obtain ⟨fb, hfb, e45, hfa⟩ := id hI
  show zSame _ _
  unfold f_X11_back f_X12_back f_X5_has_45 f_X5_bring_45_13_37
  rw [isBoxM, zb_def, z01]
  by_cases c1 : x < 0
  · rw [if_pos c1, zb_def, if_pos rfl, if_neg (fun z => z.1 c1)]; exact zsame h
  · rw [if_neg c1]
    by_cases c2 : x < 3
    · rw [if_pos c2, if_pos (show ¬ x < 0 ∧ x < nI 3 from ⟨c1, c2⟩)]
      obtain ⟨k, hk2, rfl⟩ := nI_of c1
      have hk : k < 3 := (nI_ltI (b := 3) hk2 (by omega)).mp c2
      have e99 : nI k * 99 = nI (99 * k) := by rw [show (99 : Int32) = nI 99 from rfl, pk_mul, Nat.mul_comm]
      have e72 : nI (99 * k) + 72 = nI (99 * k + 72) := nI_add _ 72
      obtain ⟨f1, f2⟩ := hfa k hk
      rw [e45, if_pos (zinN hk (by omega)), nI_clamp (show k < 2 ^ 31 by omega), f1]
      by_cases hb : fb.testBit k = true
      · have hb' : ¬ (nI fb >>> (nI k &&& 31)) &&& 1 = 0 := fun z => by
          have := (box_ask fb hfb k hk).mp z
          rw [hb] at this
          exact absurd this (by decide)
        obtain ⟨c', N', n1, n2, n3, n4, n5⟩ := f2 hb
        have hc' := n1.1
        rw [if_neg hb', zb_def, if_neg (show ¬ (1 : Int32) = 0 by decide), if_pos hb, if_neg (show ¬ (1 : Int32) = 0 by decide), e99, e72]
        obtain ⟨T1, eT1, kT1, s0, s1, s2, s3, s4, s5, so⟩ := ldB (S := Sx) (b := 99 * k) (by omega) n5
        obtain ⟨T2, eT2, kT2, hT2⟩ := ldX_37_46 (S := T1) (b := 99 * k + 72) (by omega)
        obtain ⟨T3, eT3, kT3, t0, t1, t2, t44⟩ := restartX T2
        obtain ⟨U, eU, kU, u0, u56, u57, u19⟩ := backM (S := Sm) hk
        have hrow : rG c' N' (rowG T2 37) := rG_congr hc' n4 fun i hi => by rw [hT2 i hi, kT1.2 46 (by decide)]
        have hN2 : ∀ i, i < 99 → U.1 19 i = N' i := fun i hi => by rw [u19 i hi]; exact n2 i hi
        have g2 : gR c' N' (T2.1 37) (T2.1 38) (T2.1 39) := by
          obtain ⟨g0, g1, g2, g3⟩ := hrow
          refine ⟨(show T2.1 37 0 = N' 96 from g0).trans n1.2.1, g1, g2, fun b hb => ?_⟩
          obtain ⟨q1, q2⟩ := g3 b hb
          have q1' : (if 3 + b < 3 then T2.1 37 (3 + b) else if 3 + b < 15 then T2.1 38 (3 + b - 3) else T2.1 39 (3 + b - 15)) = N' (8 * b) := q1
          have q2' : (if 15 + b < 3 then T2.1 37 (15 + b) else if 15 + b < 15 then T2.1 38 (15 + b - 3) else T2.1 39 (15 + b - 15)) = N' (8 * b + 1) := q2
          rw [if_neg (by omega), if_pos (by omega), show 3 + b - 3 = b by omega] at q1'
          rw [if_neg (by omega), if_neg (by omega), show 15 + b - 15 = b by omega] at q2'
          exact ⟨q1', q2'⟩
        have hNU : okN st pl tp c' (U.1 19) := by
          refine ok_of (bOk_congr (ok_b n1) hN2) ?_ ?_
          · rw [hN2 97 (by omega)]; exact n1.2.2.1
          · rw [hN2 98 (by omega)]; exact n1.2.2.2.1
        have e14 : ∀ k, k ∉ [37, 38, 39, 43, 44] → T3.1 k = T1.1 k := fun k hk => by
          rw [kT3.2 k (fun z => hk (by simp only [List.mem_cons, List.not_mem_nil, or_false] at z ⊢; omega)), kT2.2 k (fun z => hk (by simp only [List.mem_cons, List.not_mem_nil, or_false] at z ⊢; omega))]
        have hB3 : rB c' (U.1 19) (T3.1 14) (T3.1 15) (T3.1 16) (T3.1 17) (T3.1 18) (T3.1 19) := by
          rw [e14 14 (by decide), e14 15 (by decide), e14 16 (by decide), e14 17 (by decide), e14 18 (by decide), e14 19 (by decide)]
          intro b hb
          rw [s0 b (by omega), s1 b (by omega), s2 b (by omega), s3 b (by omega), s4 b (by omega), s5 b (by omega), hN2 _ (by omega), hN2 _ (by omega), hN2 _ (by omega), hN2 _ (by omega), hN2 _ (by omega), hN2 _ (by omega)]
          exact n3 b hb
        have hg3 : gR c' (U.1 19) (T3.1 37) (T3.1 38) (T3.1 39) := by
          rw [kT3.2 37 (by decide), kT3.2 38 (by decide), kT3.2 39 (by decide)]
          exact gR_congr hc' g2 hN2
        have hA' := rA_0 (T := T3) (M21 := U.1 21) hNU hB3 hg3 t0 t1 t2 (fun i hi => by
          rw [t44 i hi]
          unfold rowG
          rw [kT3.2 37 (by decide), kT3.2 (37 + 1) (by decide), kT3.2 (37 + 2) (by decide)]) (Or.inl (by rw [e14 14 (by decide), e14 20 (by decide)]; exact so))
        rw [eT1, zu_def, eT2, zu_def, zu_def, eT3, zu_def, eU, hg3.2.1]
        refine zsame (zRel_act h (kp_trans (kp_trans (kp_in kT1 (by decide)) (kp_in kT2 (by decide))) (kp_in kT3 (by decide))) (kp_in kU (by decide)) u0 ?_ hH hI (by rw [u56, u57]; exact hA'))
        rw [e14 14 (by decide)]
        intro b hb
        rw [s0 b hb]
        exact n5 b hb
      · have hb0 : fb.testBit k = false := by simpa using hb
        rw [if_pos ((box_ask fb hfb k hk).mpr hb0), zb_def, if_pos rfl, if_neg hb, if_pos rfl]; exact zsame h
    · rw [if_neg c2, zb_def, if_pos rfl, if_neg (fun z => c2 z.2)]; exact zsame h
