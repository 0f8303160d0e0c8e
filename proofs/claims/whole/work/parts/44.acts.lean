/-! ===== acts: states kept and brought back ===== -/
theorem zinN {n N : Nat} (h : n < N) (hN : N < 2 ^ 31) : zin (nI n) N := vp_in_nI h hN
theorem kp_cpy {l : List Nat} {S : zS} {k k1 sp dp n : Nat} (h : k1 ∈ l) : kp l S (zcpy S k k1 sp dp n) := ⟨rfl, fun k' hk => (zcpy_o S k k1 sp dp n k' (fun z => hk (z ▸ h))).1⟩
/-- a row of what changes: count, year, seed, lives, ages -/
def rowG (S : zS) (g i : Nat) : Int32 := if i < 3 then S.1 g i else if i < 15 then S.1 (g + 1) (i - 3) else S.1 (g + 2) (i - 15)
theorem row_st (A B C D : Nat → Int32) (b i : Nat) : va_cpy C (va_cpy B (upd (upd (upd D b (A 0)) (b + 1) (A 1)) (b + 2) (A 2)) 0 (b + 3) 12) 0 (b + 15) 12 i = if b ≤ i ∧ i < b + 27 then (if i - b < 3 then A (i - b) else if i - b < 15 then B (i - b - 3) else C (i - b - 15)) else D i := by
  by_cases h : b ≤ i ∧ i < b + 27
  · rw [if_pos h]
    obtain ⟨j, rfl⟩ : ∃ j, i = b + j := ⟨i - b, by omega⟩
    have hj : j < 27 := by omega
    rw [show b + j - b = j by omega]
    by_cases h1 : j < 3
    · rw [if_pos h1, pk_cpy_out (by omega), pk_cpy_out (by omega)]
      have h3 : j = 0 ∨ j = 1 ∨ j = 2 := by omega
      rcases h3 with rfl | rfl | rfl
      · rw [upd_ne _ _ _ _ (by omega), upd_ne _ _ _ _ (by omega)]
        exact upd_at _ _ _
      · rw [upd_ne _ _ _ _ (by omega)]
        exact upd_at _ _ _
      · exact upd_at _ _ _
    · rw [if_neg h1]
      by_cases h2 : j < 15
      · rw [if_pos h2, pk_cpy_out (by omega), pk_cpy_in (by omega) (by omega)]
        exact congrArg B (by omega)
      · rw [if_neg h2, pk_cpy_in (by omega) (by omega)]
        exact congrArg C (by omega)
  · rw [if_neg h, pk_cpy_out (by omega), pk_cpy_out (by omega), upd_ne _ _ _ _ (by omega), upd_ne _ _ _ _ (by omega), upd_ne _ _ _ _ (by omega)]
theorem row_ld (A D E F : Nat → Int32) (b : Nat) {i : Nat} (hi : i < 27) : (if i < 3 then upd (upd (upd D 0 (A b)) 1 (A (b + 1))) 2 (A (b + 2)) i else if i < 15 then va_cpy A E (b + 3) 0 12 (i - 3) else va_cpy A F (b + 15) 0 12 (i - 15)) = A (b + i) := by
  by_cases h1 : i < 3
  · rw [if_pos h1]
    have h3 : i = 0 ∨ i = 1 ∨ i = 2 := by omega
    rcases h3 with rfl | rfl | rfl
    · rw [upd_ne _ _ _ _ (by omega), upd_ne _ _ _ _ (by omega)]
      exact upd_at _ _ _
    · rw [upd_ne _ _ _ _ (by omega)]
      exact upd_at _ _ _
    · exact upd_at _ _ _
  · rw [if_neg h1]
    by_cases h2 : i < 15
    · rw [if_pos h2, pk_cpy_in (by omega) (by omega)]
      exact congrArg A (by omega)
    · rw [if_neg h2, pk_cpy_in (by omega) (by omega)]
      exact congrArg A (by omega)
theorem stX_37_44 {S : zS} {b : Nat} (hb : b + 27 ≤ 1107) : ∃ T, f_X3_store_37_44 (nI b) S = some T ∧ kp [44] S T ∧ ∀ i, T.1 44 i = if b ≤ i ∧ i < b + 27 then rowG S 37 (i - b) else S.1 44 i := by
  have e1 : nI b + 1 = nI (b + 1) := nI_add b 1
  have e2 : nI b + 2 = nI (b + 2) := nI_add b 2
  have e3 : nI b + 3 = nI (b + 3) := nI_add b 3
  have e15 : nI (b + 3) + 12 = nI (b + 15) := nI_add (b + 3) 12
  have e27 : nI b + 27 = nI (b + 27) := nI_add b 27
  have c3 : zcinB 0 (nI (b + 3)) 12 12 1107 := ⟨by decide, nI_not_neg (by omega), by decide, by decide, by rw [nI_clamp (by omega)]; show b + 3 + 12 ≤ 1107; omega⟩
  have c15 : zcinB 0 (nI (b + 15)) 12 12 1107 := ⟨by decide, nI_not_neg (by omega), by decide, by decide, by rw [nI_clamp (by omega)]; show b + 15 + 12 ≤ 1107; omega⟩
  unfold f_X3_store_37_44
  rw [e27, e1, e2, e3, e15]
  rw [if_neg (nI_not_neg (by omega)), if_neg (show ¬ (1107 : Int32) < nI (b + 27) from nI_nlt (a := 1107) (by omega) (by omega)), if_pos (zinN (by omega) (by omega)), zlet_def, if_pos (zinN (by omega) (by omega)), zlet_def, if_pos (zinN (by omega) (by omega)), zlet_def, if_pos c3, zlet_def, if_pos c15, zlet_def, nI_clamp (show b < 2 ^ 31 by omega), nI_clamp (show b + 1 < 2 ^ 31 by omega), nI_clamp (show b + 2 < 2 ^ 31 by omega), nI_clamp (show b + 3 < 2 ^ 31 by omega), nI_clamp (show b + 15 < 2 ^ 31 by omega)]
  refine ⟨_, rfl, kp_trans (kp_trans (kp_trans (kp_trans (kp_put (by decide)) (kp_put (by decide))) (kp_put (by decide))) (kp_cpy (by decide))) (kp_cpy (by decide)), fun i => ?_⟩
  exact row_st (S.1 37) (S.1 38) (S.1 39) (S.1 44) b i
theorem stX_37_46 {S : zS} {b : Nat} (hb : b + 27 ≤ 297) : ∃ T, f_X3_store_37_46 (nI b) S = some T ∧ kp [46] S T ∧ ∀ i, T.1 46 i = if b ≤ i ∧ i < b + 27 then rowG S 37 (i - b) else S.1 46 i := by
  have e1 : nI b + 1 = nI (b + 1) := nI_add b 1
  have e2 : nI b + 2 = nI (b + 2) := nI_add b 2
  have e3 : nI b + 3 = nI (b + 3) := nI_add b 3
  have e15 : nI (b + 3) + 12 = nI (b + 15) := nI_add (b + 3) 12
  have e27 : nI b + 27 = nI (b + 27) := nI_add b 27
  have c3 : zcinB 0 (nI (b + 3)) 12 12 297 := ⟨by decide, nI_not_neg (by omega), by decide, by decide, by rw [nI_clamp (by omega)]; show b + 3 + 12 ≤ 297; omega⟩
  have c15 : zcinB 0 (nI (b + 15)) 12 12 297 := ⟨by decide, nI_not_neg (by omega), by decide, by decide, by rw [nI_clamp (by omega)]; show b + 15 + 12 ≤ 297; omega⟩
  unfold f_X3_store_37_46
  rw [e27, e1, e2, e3, e15]
  rw [if_neg (nI_not_neg (by omega)), if_neg (show ¬ (297 : Int32) < nI (b + 27) from nI_nlt (a := 297) (by omega) (by omega)), if_pos (zinN (by omega) (by omega)), zlet_def, if_pos (zinN (by omega) (by omega)), zlet_def, if_pos (zinN (by omega) (by omega)), zlet_def, if_pos c3, zlet_def, if_pos c15, zlet_def, nI_clamp (show b < 2 ^ 31 by omega), nI_clamp (show b + 1 < 2 ^ 31 by omega), nI_clamp (show b + 2 < 2 ^ 31 by omega), nI_clamp (show b + 3 < 2 ^ 31 by omega), nI_clamp (show b + 15 < 2 ^ 31 by omega)]
  refine ⟨_, rfl, kp_trans (kp_trans (kp_trans (kp_trans (kp_put (by decide)) (kp_put (by decide))) (kp_put (by decide))) (kp_cpy (by decide))) (kp_cpy (by decide)), fun i => ?_⟩
  exact row_st (S.1 37) (S.1 38) (S.1 39) (S.1 46) b i
theorem stX_37_59 {S : zS} {b : Nat} (hb : b + 27 ≤ 108) : ∃ T, f_X3_store_37_59 (nI b) S = some T ∧ kp [59] S T ∧ ∀ i, T.1 59 i = if b ≤ i ∧ i < b + 27 then rowG S 37 (i - b) else S.1 59 i := by
  have e1 : nI b + 1 = nI (b + 1) := nI_add b 1
  have e2 : nI b + 2 = nI (b + 2) := nI_add b 2
  have e3 : nI b + 3 = nI (b + 3) := nI_add b 3
  have e15 : nI (b + 3) + 12 = nI (b + 15) := nI_add (b + 3) 12
  have e27 : nI b + 27 = nI (b + 27) := nI_add b 27
  have c3 : zcinB 0 (nI (b + 3)) 12 12 108 := ⟨by decide, nI_not_neg (by omega), by decide, by decide, by rw [nI_clamp (by omega)]; show b + 3 + 12 ≤ 108; omega⟩
  have c15 : zcinB 0 (nI (b + 15)) 12 12 108 := ⟨by decide, nI_not_neg (by omega), by decide, by decide, by rw [nI_clamp (by omega)]; show b + 15 + 12 ≤ 108; omega⟩
  unfold f_X3_store_37_59
  rw [e27, e1, e2, e3, e15]
  rw [if_neg (nI_not_neg (by omega)), if_neg (show ¬ (108 : Int32) < nI (b + 27) from nI_nlt (a := 108) (by omega) (by omega)), if_pos (zinN (by omega) (by omega)), zlet_def, if_pos (zinN (by omega) (by omega)), zlet_def, if_pos (zinN (by omega) (by omega)), zlet_def, if_pos c3, zlet_def, if_pos c15, zlet_def, nI_clamp (show b < 2 ^ 31 by omega), nI_clamp (show b + 1 < 2 ^ 31 by omega), nI_clamp (show b + 2 < 2 ^ 31 by omega), nI_clamp (show b + 3 < 2 ^ 31 by omega), nI_clamp (show b + 15 < 2 ^ 31 by omega)]
  refine ⟨_, rfl, kp_trans (kp_trans (kp_trans (kp_trans (kp_put (by decide)) (kp_put (by decide))) (kp_put (by decide))) (kp_cpy (by decide))) (kp_cpy (by decide)), fun i => ?_⟩
  exact row_st (S.1 37) (S.1 38) (S.1 39) (S.1 59) b i
theorem stX_60_59 {S : zS} {b : Nat} (hb : b + 27 ≤ 108) : ∃ T, f_X3_store_60_59 (nI b) S = some T ∧ kp [59] S T ∧ ∀ i, T.1 59 i = if b ≤ i ∧ i < b + 27 then rowG S 60 (i - b) else S.1 59 i := by
  have e1 : nI b + 1 = nI (b + 1) := nI_add b 1
  have e2 : nI b + 2 = nI (b + 2) := nI_add b 2
  have e3 : nI b + 3 = nI (b + 3) := nI_add b 3
  have e15 : nI (b + 3) + 12 = nI (b + 15) := nI_add (b + 3) 12
  have e27 : nI b + 27 = nI (b + 27) := nI_add b 27
  have c3 : zcinB 0 (nI (b + 3)) 12 12 108 := ⟨by decide, nI_not_neg (by omega), by decide, by decide, by rw [nI_clamp (by omega)]; show b + 3 + 12 ≤ 108; omega⟩
  have c15 : zcinB 0 (nI (b + 15)) 12 12 108 := ⟨by decide, nI_not_neg (by omega), by decide, by decide, by rw [nI_clamp (by omega)]; show b + 15 + 12 ≤ 108; omega⟩
  unfold f_X3_store_60_59
  rw [e27, e1, e2, e3, e15]
  rw [if_neg (nI_not_neg (by omega)), if_neg (show ¬ (108 : Int32) < nI (b + 27) from nI_nlt (a := 108) (by omega) (by omega)), if_pos (zinN (by omega) (by omega)), zlet_def, if_pos (zinN (by omega) (by omega)), zlet_def, if_pos (zinN (by omega) (by omega)), zlet_def, if_pos c3, zlet_def, if_pos c15, zlet_def, nI_clamp (show b < 2 ^ 31 by omega), nI_clamp (show b + 1 < 2 ^ 31 by omega), nI_clamp (show b + 2 < 2 ^ 31 by omega), nI_clamp (show b + 3 < 2 ^ 31 by omega), nI_clamp (show b + 15 < 2 ^ 31 by omega)]
  refine ⟨_, rfl, kp_trans (kp_trans (kp_trans (kp_trans (kp_put (by decide)) (kp_put (by decide))) (kp_put (by decide))) (kp_cpy (by decide))) (kp_cpy (by decide)), fun i => ?_⟩
  exact row_st (S.1 60) (S.1 61) (S.1 62) (S.1 59) b i
theorem ldX_37_44 {S : zS} {b : Nat} (hb : b + 27 ≤ 1107) : ∃ T, f_X3_load_37_44 (nI b) S = some T ∧ kp [37, 38, 39] S T ∧ ∀ i, i < 27 → rowG T 37 i = S.1 44 (b + i) := by
  have e1 : nI b + 1 = nI (b + 1) := nI_add b 1
  have e2 : nI b + 2 = nI (b + 2) := nI_add b 2
  have e3 : nI b + 3 = nI (b + 3) := nI_add b 3
  have e15 : nI (b + 3) + 12 = nI (b + 15) := nI_add (b + 3) 12
  have e27 : nI b + 27 = nI (b + 27) := nI_add b 27
  have c3 : zcinB (nI (b + 3)) 0 12 1107 12 := ⟨nI_not_neg (by omega), by decide, by decide, by rw [nI_clamp (by omega)]; show b + 3 + 12 ≤ 1107; omega, by decide⟩
  have c15 : zcinB (nI (b + 15)) 0 12 1107 12 := ⟨nI_not_neg (by omega), by decide, by decide, by rw [nI_clamp (by omega)]; show b + 15 + 12 ≤ 1107; omega, by decide⟩
  unfold f_X3_load_37_44
  rw [e27, e1, e2, e3, e15]
  rw [if_neg (nI_not_neg (by omega)), if_neg (show ¬ (1107 : Int32) < nI (b + 27) from nI_nlt (a := 1107) (by omega) (by omega)), if_pos (zinN (by omega) (by omega)), zlet_def, if_pos (zinN (by omega) (by omega)), zlet_def, if_pos (zinN (by omega) (by omega)), zlet_def, if_pos c3, zlet_def, if_pos c15, zlet_def, nI_clamp (show b < 2 ^ 31 by omega), nI_clamp (show b + 1 < 2 ^ 31 by omega), nI_clamp (show b + 2 < 2 ^ 31 by omega), nI_clamp (show b + 3 < 2 ^ 31 by omega), nI_clamp (show b + 15 < 2 ^ 31 by omega)]
  refine ⟨_, rfl, kp_trans (kp_trans (kp_trans (kp_trans (kp_put (by decide)) (kp_put (by decide))) (kp_put (by decide))) (kp_cpy (by decide))) (kp_cpy (by decide)), fun i hi => ?_⟩
  exact row_ld (S.1 44) (S.1 37) (S.1 38) (S.1 39) b hi
theorem ldX_37_46 {S : zS} {b : Nat} (hb : b + 27 ≤ 297) : ∃ T, f_X3_load_37_46 (nI b) S = some T ∧ kp [37, 38, 39] S T ∧ ∀ i, i < 27 → rowG T 37 i = S.1 46 (b + i) := by
  have e1 : nI b + 1 = nI (b + 1) := nI_add b 1
  have e2 : nI b + 2 = nI (b + 2) := nI_add b 2
  have e3 : nI b + 3 = nI (b + 3) := nI_add b 3
  have e15 : nI (b + 3) + 12 = nI (b + 15) := nI_add (b + 3) 12
  have e27 : nI b + 27 = nI (b + 27) := nI_add b 27
  have c3 : zcinB (nI (b + 3)) 0 12 297 12 := ⟨nI_not_neg (by omega), by decide, by decide, by rw [nI_clamp (by omega)]; show b + 3 + 12 ≤ 297; omega, by decide⟩
  have c15 : zcinB (nI (b + 15)) 0 12 297 12 := ⟨nI_not_neg (by omega), by decide, by decide, by rw [nI_clamp (by omega)]; show b + 15 + 12 ≤ 297; omega, by decide⟩
  unfold f_X3_load_37_46
  rw [e27, e1, e2, e3, e15]
  rw [if_neg (nI_not_neg (by omega)), if_neg (show ¬ (297 : Int32) < nI (b + 27) from nI_nlt (a := 297) (by omega) (by omega)), if_pos (zinN (by omega) (by omega)), zlet_def, if_pos (zinN (by omega) (by omega)), zlet_def, if_pos (zinN (by omega) (by omega)), zlet_def, if_pos c3, zlet_def, if_pos c15, zlet_def, nI_clamp (show b < 2 ^ 31 by omega), nI_clamp (show b + 1 < 2 ^ 31 by omega), nI_clamp (show b + 2 < 2 ^ 31 by omega), nI_clamp (show b + 3 < 2 ^ 31 by omega), nI_clamp (show b + 15 < 2 ^ 31 by omega)]
  refine ⟨_, rfl, kp_trans (kp_trans (kp_trans (kp_trans (kp_put (by decide)) (kp_put (by decide))) (kp_put (by decide))) (kp_cpy (by decide))) (kp_cpy (by decide)), fun i hi => ?_⟩
  exact row_ld (S.1 46) (S.1 37) (S.1 38) (S.1 39) b hi
theorem ldX_60_59 {S : zS} {b : Nat} (hb : b + 27 ≤ 108) : ∃ T, f_X3_load_60_59 (nI b) S = some T ∧ kp [60, 61, 62] S T ∧ ∀ i, i < 27 → rowG T 60 i = S.1 59 (b + i) := by
  have e1 : nI b + 1 = nI (b + 1) := nI_add b 1
  have e2 : nI b + 2 = nI (b + 2) := nI_add b 2
  have e3 : nI b + 3 = nI (b + 3) := nI_add b 3
  have e15 : nI (b + 3) + 12 = nI (b + 15) := nI_add (b + 3) 12
  have e27 : nI b + 27 = nI (b + 27) := nI_add b 27
  have c3 : zcinB (nI (b + 3)) 0 12 108 12 := ⟨nI_not_neg (by omega), by decide, by decide, by rw [nI_clamp (by omega)]; show b + 3 + 12 ≤ 108; omega, by decide⟩
  have c15 : zcinB (nI (b + 15)) 0 12 108 12 := ⟨nI_not_neg (by omega), by decide, by decide, by rw [nI_clamp (by omega)]; show b + 15 + 12 ≤ 108; omega, by decide⟩
  unfold f_X3_load_60_59
  rw [e27, e1, e2, e3, e15]
  rw [if_neg (nI_not_neg (by omega)), if_neg (show ¬ (108 : Int32) < nI (b + 27) from nI_nlt (a := 108) (by omega) (by omega)), if_pos (zinN (by omega) (by omega)), zlet_def, if_pos (zinN (by omega) (by omega)), zlet_def, if_pos (zinN (by omega) (by omega)), zlet_def, if_pos c3, zlet_def, if_pos c15, zlet_def, nI_clamp (show b < 2 ^ 31 by omega), nI_clamp (show b + 1 < 2 ^ 31 by omega), nI_clamp (show b + 2 < 2 ^ 31 by omega), nI_clamp (show b + 3 < 2 ^ 31 by omega), nI_clamp (show b + 15 < 2 ^ 31 by omega)]
  refine ⟨_, rfl, kp_trans (kp_trans (kp_trans (kp_trans (kp_put (by decide)) (kp_put (by decide))) (kp_put (by decide))) (kp_cpy (by decide))) (kp_cpy (by decide)), fun i hi => ?_⟩
  exact row_ld (S.1 59) (S.1 60) (S.1 61) (S.1 62) b hi
theorem zrem41 (n : Nat) (h : n < 2 ^ 31) : zrem (nI n) 41 = nI (n % 41) := pk_rem (d := 41) h (by omega) (by omega)
theorem presX {S : zS} {d f : Nat} (hd : d ≤ 40) (hf : f < 41) (e0 : S.1 43 0 = nI d) (e2 : S.1 43 2 = nI f) : f_X0_presentRow_43 S = some (nI ((f + d) % 41 * 27), S) := by
  unfold f_X0_presentRow_43
  rw [e0, e2, nI_add, zrem41 _ (by omega)]
  exact congrArg (fun z => some (z, S)) (pk_mul ((f + d) % 41) 27)
theorem keepX {S : zS} {d f : Nat} (hd : d ≤ 40) (hf : f < 41) (e0 : S.1 43 0 = nI d) (e2 : S.1 43 2 = nI f) : ∃ (d' f' : Nat) (T : zS), (d < 40 ∧ d' = d + 1 ∧ f' = f ∨ d = 40 ∧ d' = 40 ∧ f' = (f + 1) % 41) ∧ f_X0_keep_43_37 S = some T ∧ kp [43, 44] S T ∧ T.1 43 0 = nI d' ∧ T.1 43 1 = 0 ∧ T.1 43 2 = nI f' ∧ ∀ i, T.1 44 i = if (f' + d') % 41 * 27 ≤ i ∧ i < (f' + d') % 41 * 27 + 27 then rowG S 37 (i - (f' + d') % 41 * 27) else S.1 44 i := by
  have key : ∀ (d' f' : Nat) (V : zS), d' ≤ 40 → f' < 41 → V.1 43 0 = nI d' → V.1 43 1 = 0 → V.1 43 2 = nI f' → kp [43] S V → ∃ T, f_X0_keep_43_37_B40 V = some T ∧ kp [43, 44] S T ∧ T.1 43 0 = nI d' ∧ T.1 43 1 = 0 ∧ T.1 43 2 = nI f' ∧ ∀ i, T.1 44 i = if (f' + d') % 41 * 27 ≤ i ∧ i < (f' + d') % 41 * 27 + 27 then rowG S 37 (i - (f' + d') % 41 * 27) else S.1 44 i := by
    intro d' f' V hd' hf' v0 v1 v2 hk
    have hr : (f' + d') % 41 * 27 + 27 ≤ 1107 := by omega
    obtain ⟨T, eT, kT, hT⟩ := stX_37_44 (S := V) hr
    unfold f_X0_keep_43_37_B40
    rw [presX hd' hf' v0 v2, zb_def, eT, zu_def]
    refine ⟨T, rfl, kp_trans (kp_sub hk (by intro k h; simp only [List.mem_cons, List.not_mem_nil, or_false] at h ⊢; omega)) (kp_sub kT (by intro k h; simp only [List.mem_cons, List.not_mem_nil, or_false] at h ⊢; omega)), ?_, ?_, ?_, fun i => ?_⟩
    · rw [kT.2 43 (by decide)]; exact v0
    · rw [kT.2 43 (by decide)]; exact v1
    · rw [kT.2 43 (by decide)]; exact v2
    · rw [hT i, hk.2 44 (by decide)]
      unfold rowG
      rw [hk.2 37 (by decide), hk.2 (37 + 1) (by decide), hk.2 (37 + 2) (by decide)]
  unfold f_X0_keep_43_37
  rw [zlet_def, show (zput S 43 1 0).1 43 0 = S.1 43 0 from rfl, e0]
  by_cases h40 : d < 40
  · rw [if_pos (show nI d < 40 from nI_lt (b := 40) h40 (by omega)), zlet_def, nI_1]
    obtain ⟨T, h⟩ := key (d + 1) f (zput (zput S 43 1 0) 43 0 (nI (d + 1))) (by omega) hf rfl rfl e2 (kp_trans (kp_put (by decide)) (kp_put (by decide)))
    exact ⟨d + 1, f, T, Or.inl ⟨h40, rfl, rfl⟩, h⟩
  · have : d = 40 := by omega
    subst this
    rw [if_neg (by decide), zlet_def, show (zput S 43 1 0).1 43 2 = S.1 43 2 from rfl, e2, nI_1, zrem41 _ (by omega)]
    obtain ⟨T, h⟩ := key 40 ((f + 1) % 41) (zput (zput S 43 1 0) 43 2 (nI ((f + 1) % 41))) (by omega) (by omega) e0 rfl rfl (kp_trans (kp_put (by decide)) (kp_put (by decide)))
    exact ⟨40, (f + 1) % 41, T, Or.inr ⟨rfl, rfl, rfl⟩, h⟩
theorem nI_99 (d b : Nat) : 99 * nI d + nI b = nI (99 * d + b) := by
  rw [show (99 : Int32) = nI 99 from rfl, pk_mul, nI_add]
theorem act51 {S : zS} {d : Nat} (hd : d < 40) (e : S.1 0 56 = nI d) : ∃ T, f_X12_act_L51 zN 0 S = some T ∧ kp [0, 21] S T ∧ (∀ i, i ≠ 56 → i ≠ 57 → T.1 0 i = S.1 0 i) ∧ T.1 0 56 = nI (d + 1) ∧ T.1 0 57 = 0 ∧ ∀ i, T.1 21 i = if 99 * d ≤ i ∧ i < 99 * d + 99 then S.1 19 (i - 99 * d) else S.1 21 i := by
  refine loopI (f := fun n (T : zS) i => f_X12_act_L51 n (nI i) T) (fun b T => kp [21] S T ∧ ∀ i, T.1 21 i = if 99 * d ≤ i ∧ i < 99 * d + b then S.1 19 (i - 99 * d) else S.1 21 i) (fun o => ∃ T, o = some T ∧ kp [0, 21] S T ∧ (∀ i, i ≠ 56 → i ≠ 57 → T.1 0 i = S.1 0 i) ∧ T.1 0 56 = nI (d + 1) ∧ T.1 0 57 = 0 ∧ ∀ i, T.1 21 i = if 99 * d ≤ i ∧ i < 99 * d + 99 then S.1 19 (i - 99 * d) else S.1 21 i) (c := 99) ?_ ?_ 99 0 zN S (by omega) (by decide) ⟨kp_rfl _ _, fun i => (if_neg (by omega)).symm⟩
  · intro n T b hb ⟨hk, hT⟩
    have e' : T.1 0 56 = nI d := by rw [hk.2 0 (by decide)]; exact e
    refine ⟨zput T 21 (99 * d + b) (S.1 19 b), ?_, kp_trans hk (kp_put (by decide)), fun i => ?_⟩
    · show f_X12_act_L51 (n + 1) (nI b) T = _
      rw [f_X12_act_L51, if_pos (show nI b < 99 from nI_lt (b := 99) hb (by omega)), if_pos (zinN hb (by omega)), e', nI_99, if_pos (zinN (by omega) (by omega)), zlet_def, zlet_def, nI_1, nI_clamp (by omega), nI_clamp (by omega), hk.2 19 (by decide)]
    · rw [zput1_eq]
      by_cases hi : i = 99 * d + b
      · subst hi
        rw [upd_at, if_pos (by omega), show 99 * d + b - 99 * d = b by omega]
      · rw [upd_ne _ _ _ _ hi, hT i]
        by_cases h1 : 99 * d ≤ i ∧ i < 99 * d + b
        · rw [if_pos h1, if_pos (by omega)]
        · rw [if_neg h1, if_neg (by omega)]
  · intro n T ⟨hk, hT⟩
    have e' : T.1 0 56 = nI d := by rw [hk.2 0 (by decide)]; exact e
    refine ⟨zput (zput T 0 56 (nI (d + 1))) 0 57 0, ?_, ?_, fun i h1 h2 => ?_, rfl, rfl, fun i => hT i⟩
    · show f_X12_act_L51 (n + 1) (nI 99) T = _
      rw [f_X12_act_L51, if_neg (by decide), zlet_def, zlet_def, e', nI_1]
    · exact kp_trans (kp_sub hk (by intro k h; simp only [List.mem_cons, List.not_mem_nil, or_false] at h ⊢; omega)) (kp_trans (kp_put (by decide)) (kp_put (by decide)))
    · rw [zput1_eq, zput1_eq, upd_ne _ _ _ _ h2, upd_ne _ _ _ _ h1, hk.2 0 (by decide)]
theorem act11 {S : zS} (e : S.1 0 56 = nI 40) : ∃ T, f_X12_act_L11 zN 0 S = f_X12_act_L51 zN 0 T ∧ kp [0, 21] S T ∧ (∀ i, i ≠ 56 → T.1 0 i = S.1 0 i) ∧ T.1 0 56 = nI 39 ∧ ∀ i, i < 3861 → T.1 21 i = S.1 21 (99 + i) := by
  refine loopI (f := fun n (T : zS) i => f_X12_act_L11 n (nI i) T) (fun b T => kp [21] S T ∧ ∀ i, T.1 21 i = if i < b then S.1 21 (99 + i) else S.1 21 i) (fun o => ∃ T, o = f_X12_act_L51 zN 0 T ∧ kp [0, 21] S T ∧ (∀ i, i ≠ 56 → T.1 0 i = S.1 0 i) ∧ T.1 0 56 = nI 39 ∧ ∀ i, i < 3861 → T.1 21 i = S.1 21 (99 + i)) (c := 3861) ?_ ?_ 3861 0 zN S (by omega) (by decide) ⟨kp_rfl _ _, fun i => (if_neg (by omega)).symm⟩
  · intro n T b hb ⟨hk, hT⟩
    refine ⟨zput T 21 b (S.1 21 (99 + b)), ?_, kp_trans hk (kp_put (by decide)), fun i => ?_⟩
    · show f_X12_act_L11 (n + 1) (nI b) T = _
      rw [f_X12_act_L11, if_pos (show nI b < 3861 from nI_lt (b := 3861) hb (by omega)), show 99 + nI b = nI (99 + b) from nI_add 99 b, if_pos (zinN (by omega) (by omega)), if_pos (zinN (by omega) (by omega)), zlet_def, zlet_def, nI_1, nI_clamp (by omega), nI_clamp (by omega), hT (99 + b), if_neg (by omega)]
    · rw [zput1_eq]
      by_cases hi : i = b
      · subst hi
        rw [upd_at, if_pos (by omega)]
      · rw [upd_ne _ _ _ _ hi, hT i]
        by_cases h1 : i < b
        · rw [if_pos h1, if_pos (by omega)]
        · rw [if_neg h1, if_neg (by omega)]
  · intro n T ⟨hk, hT⟩
    refine ⟨zput T 0 56 (nI 39), ?_, ?_, fun i h1 => ?_, rfl, fun i hi => ?_⟩
    · show f_X12_act_L11 (n + 1) (nI 3861) T = _
      rw [f_X12_act_L11, if_neg (by decide), zlet_def, hk.2 0 (by decide), e]
      rfl
    · exact kp_trans (kp_sub hk (by intro k h; simp only [List.mem_cons, List.not_mem_nil, or_false] at h ⊢; omega)) (kp_put (by decide))
    · rw [zput1_eq, upd_ne _ _ _ _ h1, hk.2 0 (by decide)]
    · rw [zput1_ne _ _ _ _ _ (by decide), hT i, if_pos hi]
theorem actM {S : zS} {d : Nat} (hd : d ≤ 40) (e : S.1 0 56 = nI d) : ∃ T, f_X12_act S = some T ∧ kp [0, 21] S T ∧ (∀ i, i ≠ 56 → i ≠ 57 → T.1 0 i = S.1 0 i) ∧ T.1 0 56 = nI (if d < 40 then d + 1 else 40) ∧ T.1 0 57 = 0 ∧ ∀ j i, j ≤ (if d < 40 then d else 39) → i < 99 → T.1 21 (99 * j + i) = if d < 40 then (if j < d then S.1 21 (99 * j + i) else S.1 19 i) else (if j < 39 then S.1 21 (99 * (j + 1) + i) else S.1 19 i) := by
  unfold f_X12_act
  rw [e]
  by_cases h40 : d < 40
  · rw [if_neg (show ¬ nI d = 40 from fun z => by have := (nI_eq (b := 40) (by omega) (by omega)).mp z; omega)]
    obtain ⟨T, eT, kT, h0, h56, h57, h21⟩ := act51 h40 e
    refine ⟨T, eT, kT, h0, by rw [if_pos h40]; exact h56, h57, fun j i hj hi => ?_⟩
    rw [if_pos h40] at hj ⊢
    rw [h21]
    by_cases hjd : j < d
    · rw [if_pos hjd, if_neg (by omega)]
    · have : j = d := by omega
      subst this
      rw [if_neg hjd, if_pos (by omega), show 99 * j + i - 99 * j = i by omega]
  · have : d = 40 := by omega
    subst this
    rw [if_pos (show nI 40 = 40 from rfl)]
    obtain ⟨V, eV, kV, v0, v56, v21⟩ := act11 e
    obtain ⟨T, eT, kT, h0, h56, h57, h21⟩ := act51 (d := 39) (by omega) v56
    refine ⟨T, eV.trans eT, kp_trans kV kT, fun i h1 h2 => (h0 i h1 h2).trans (v0 i h1), by rw [if_neg h40]; exact h56, h57, fun j i hj hi => ?_⟩
    rw [if_neg h40] at hj ⊢
    rw [h21]
    by_cases hjd : j < 39
    · rw [if_pos hjd, if_neg (by omega), v21 _ (by omega)]
      exact congrArg (S.1 21) (by omega)
    · have : j = 39 := by omega
      subst this
      rw [if_neg hjd, if_pos (by omega), show 99 * 39 + i - 99 * 39 = i by omega, kV.2 19 (by decide)]
theorem exchM {S : zS} {a : Nat} (ha : a + 99 ≤ 3960) : ∃ T, f_X12_exchange (nI a) S = some T ∧ kp [19, 21] S T ∧ (∀ i, i < 99 → T.1 19 i = S.1 21 (a + i)) ∧ ∀ i, T.1 21 i = if a ≤ i ∧ i < a + 99 then S.1 19 (i - a) else S.1 21 i := by
  refine loopI (f := fun n (T : zS) i => f_X12_exchange_L2 n (nI a) (nI i) T) (fun b T => kp [19, 21] S T ∧ (∀ i, T.1 19 i = if i < b then S.1 21 (a + i) else S.1 19 i) ∧ ∀ i, T.1 21 i = if a ≤ i ∧ i < a + b then S.1 19 (i - a) else S.1 21 i) (fun o => ∃ T, o = some T ∧ kp [19, 21] S T ∧ (∀ i, i < 99 → T.1 19 i = S.1 21 (a + i)) ∧ ∀ i, T.1 21 i = if a ≤ i ∧ i < a + 99 then S.1 19 (i - a) else S.1 21 i) (c := 99) ?_ ?_ 99 0 zN S (by omega) (by decide) ⟨kp_rfl _ _, fun i => (if_neg (by omega)).symm, fun i => (if_neg (by omega)).symm⟩
  · intro n T b hb ⟨hk, h19, h21⟩
    refine ⟨zput (zput T 21 (a + b) (S.1 19 b)) 19 b (S.1 21 (a + b)), ?_, kp_trans hk (kp_trans (kp_put (by decide)) (kp_put (by decide))), fun i => ?_, fun i => ?_⟩
    · show f_X12_exchange_L2 (n + 1) (nI a) (nI b) T = _
      rw [f_X12_exchange_L2, if_pos (show nI b < 99 from nI_lt (b := 99) hb (by omega)), nI_add, if_pos (zinN (by omega) (by omega)), zlet_def, if_pos (zinN hb (by omega)), if_pos (zinN (by omega) (by omega)), zlet_def, if_pos (zinN hb (by omega)), zlet_def, zlet_def, nI_1, nI_clamp (by omega), nI_clamp (by omega), h21 (a + b), if_neg (by omega), h19 b, if_neg (by omega)]
    · rw [zput1_eq, zput1_ne _ _ _ _ _ (by decide)]
      by_cases hi : i = b
      · subst hi
        rw [upd_at, if_pos (by omega)]
      · rw [upd_ne _ _ _ _ hi, h19 i]
        by_cases h1 : i < b
        · rw [if_pos h1, if_pos (by omega)]
        · rw [if_neg h1, if_neg (by omega)]
    · rw [zput1_ne _ _ _ _ _ (by decide), zput1_eq]
      by_cases hi : i = a + b
      · subst hi
        rw [upd_at, if_pos (by omega), show a + b - a = b by omega]
      · rw [upd_ne _ _ _ _ hi, h21 i]
        by_cases h1 : a ≤ i ∧ i < a + b
        · rw [if_pos h1, if_pos (by omega)]
        · rw [if_neg h1, if_neg (by omega)]
  · intro n T ⟨hk, h19, h21⟩
    refine ⟨T, ?_, hk, fun i hi => ?_, h21⟩
    · show f_X12_exchange_L2 (n + 1) (nI a) (nI 99) T = _
      rw [f_X12_exchange_L2, if_neg (by decide)]
    · rw [h19 i, if_pos hi]
theorem keepM (S : zS) : ∃ T, f_X12_keep S = some T ∧ kp [19] S T ∧ ∀ i, i < 99 → T.1 19 i = S.1 20 i := by
  refine loopI (f := fun n (T : zS) i => f_X12_keep_L2 n (nI i) T) (fun b T => kp [19] S T ∧ ∀ i, i < b → T.1 19 i = S.1 20 i) (fun o => ∃ T, o = some T ∧ kp [19] S T ∧ ∀ i, i < 99 → T.1 19 i = S.1 20 i) (c := 99) ?_ ?_ 99 0 zN S (by omega) (by decide) ⟨kp_rfl _ _, fun i h => by omega⟩
  · intro n T b hb ⟨hk, hT⟩
    refine ⟨zput T 19 b (S.1 20 b), ?_, kp_trans hk (kp_put (by decide)), fun i hi => ?_⟩
    · show f_X12_keep_L2 (n + 1) (nI b) T = _
      rw [f_X12_keep_L2, if_pos (show nI b < 99 from nI_lt (b := 99) hb (by omega)), if_pos (zinN hb (by omega)), if_pos (zinN hb (by omega)), zlet_def, zlet_def, nI_1, nI_clamp (by omega), hk.2 20 (by decide)]
    · rw [zput1_eq]
      by_cases h1 : i = b
      · subst h1
        exact upd_at _ _ _
      · rw [upd_ne _ _ _ _ h1]
        exact hT i (by omega)
  · intro n T ⟨hk, hT⟩
    refine ⟨T, ?_, hk, hT⟩
    show f_X12_keep_L2 (n + 1) (nI 99) T = _
    rw [f_X12_keep_L2, if_neg (by decide)]
theorem rG_congr {c : Nat} {N row row' : Nat → Int32} (hc : c ≤ 12) (h : rG c N row) (e : ∀ i, i < 27 → row' i = row i) : rG c N row' := by
  obtain ⟨g0, g1, g2, g3⟩ := h
  refine ⟨(e 0 (by omega)).trans g0, (e 1 (by omega)).trans g1, (e 2 (by omega)).trans g2, fun b hb => ?_⟩
  rw [e (3 + b) (by omega), e (15 + b) (by omega)]
  exact g3 b hb
theorem rG_N {c : Nat} {N N' row : Nat → Int32} (hc : c ≤ 12) (h : rG c N row) (e : ∀ i, i < 99 → N' i = N i) : rG c N' row := by
  obtain ⟨g0, g1, g2, g3⟩ := h
  refine ⟨by rw [e 96 (by omega)]; exact g0, by rw [e 97 (by omega)]; exact g1, by rw [e 98 (by omega)]; exact g2, fun b hb => ?_⟩
  rw [e (8 * b) (by omega), e (8 * b + 1) (by omega)]
  exact g3 b hb
theorem rG_of_gR {c : Nat} {N : Nat → Int32} {T : zS} {g : Nat} (h96 : N 96 = nI c) (h : gR c N (T.1 g) (T.1 (g + 1)) (T.1 (g + 2))) (hc : c ≤ 12) : rG c N (rowG T g) := by
  obtain ⟨g0, g1, g2, g3⟩ := h
  refine ⟨g0.trans h96.symm, g1, g2, fun b hb => ⟨?_, ?_⟩⟩
  · show (if 3 + b < 3 then T.1 g (3 + b) else if 3 + b < 15 then T.1 (g + 1) (3 + b - 3) else T.1 (g + 2) (3 + b - 15)) = _
    rw [if_neg (by omega), if_pos (by omega), show 3 + b - 3 = b by omega]; exact (g3 b hb).1
  · show (if 15 + b < 3 then T.1 g (15 + b) else if 15 + b < 15 then T.1 (g + 1) (15 + b - 3) else T.1 (g + 2) (15 + b - 15)) = _
    rw [if_neg (by omega), if_neg (by omega), show 15 + b - 15 = b by omega]; exact (g3 b hb).2
/-- a new present state, behind an act -/
theorem rA_new {Sx Sm T U U1 : zS} {st pl tp c c' : Nat} (hA : rA st pl tp (Sx.1 37) (Sx.1 38) (Sx.1 39) (Sx.1 14) (Sx.1 15) (Sx.1 16) (Sx.1 17) (Sx.1 18) (Sx.1 19) (Sx.1 20) (Sx.1 43) (Sx.1 44) (Sm.1 19) (Sm.1 21) (Sm.1 0 56) (Sm.1 0 57)) (h96 : Sm.1 19 96 = nI c) (hc12 : c ≤ 12) (hcc : c ≤ c') (hN : okN st pl tp c' (U.1 19)) (hB : rB c' (U.1 19) (T.1 14) (T.1 15) (T.1 16) (T.1 17) (T.1 18) (T.1 19)) (hk : ∀ b, b < c → T.1 14 b = Sx.1 14 b ∧ T.1 15 b = Sx.1 15 b ∧ T.1 16 b = Sx.1 16 b ∧ T.1 17 b = Sx.1 17 b ∧ T.1 18 b = Sx.1 18 b ∧ T.1 19 b = Sx.1 19 b) (h43 : T.1 43 = Sx.1 43) (h44 : T.1 44 = Sx.1 44) (hg : rG c' (U.1 19) (rowG T 37)) (ho : (∀ i, i < 12 → T.1 20 i = nI ((ordF (T.1 14)).getD i 0)) ∨ c' = 0) (hact : f_X12_act Sm = some U1) (u21 : U.1 21 = U1.1 21) (u0 : U.1 0 = U1.1 0) : ∃ T', f_X0_keep_43_37 T = some T' ∧ kp [43, 44] T T' ∧ rA st pl tp (T'.1 37) (T'.1 38) (T'.1 39) (T'.1 14) (T'.1 15) (T'.1 16) (T'.1 17) (T'.1 18) (T'.1 19) (T'.1 20) (T'.1 43) (T'.1 44) (U.1 19) (U.1 21) (U.1 0 56) (U.1 0 57) := by
  obtain ⟨d, u, f, h, cc, hdu, hf, x0, x1, x2, m0, m1, hall, hmono, hnow, hgn, hp1, hp2, hord⟩ := hA
  have hcd : cc d = c := by
    obtain ⟨⟨k1, k2, -⟩, -, -⟩ := hall d (by omega)
    have : nI (cc d) = nI c := by rw [← h96, hnow 96 (by omega), k2]
    exact (nI_eq (by omega) (by omega)).mp this
  obtain ⟨d', f', T', hd', eT', kT', t0, t1, t2, t44⟩ := keepX (S := T) (d := d) (f := f) (by omega) hf (by rw [h43]; exact x0) (by rw [h43]; exact x2)
  obtain ⟨U1', eU1, kU1, a0, a56, a57, a21⟩ := actM (S := Sm) (d := d) (by omega) m0
  rw [hact] at eU1
  cases eU1
  refine ⟨T', eT', kT', ?_⟩
  rw [kT'.2 37 (by decide), kT'.2 38 (by decide), kT'.2 39 (by decide), kT'.2 14 (by decide), kT'.2 15 (by decide), kT'.2 16 (by decide), kT'.2 17 (by decide), kT'.2 18 (by decide), kT'.2 19 (by decide), kT'.2 20 (by decide), u21, u0, a56, a57]
  have hd40 : d' ≤ 40 := by omega
  have hdd : (if d < 40 then d + 1 else 40) = d' := by
    rcases hd' with ⟨q1, q2, q3⟩ | ⟨q1, q2, q3⟩
    · rw [if_pos q1, q2]
    · rw [if_neg (by omega), q2]
  rw [hdd]
  -- the state that stood at place j stands now at its old place o j
  have hold : ∀ j, j < d' → ∃ o, o ≤ d ∧ (d < 40 ∧ o = j ∨ d = 40 ∧ o = j + 1) ∧ (f' + j) % 41 = (f + o) % 41 ∧ ¬ (f' + j) % 41 = (f' + d') % 41 := by
    intro j hj
    rcases hd' with ⟨q1, q2, q3⟩ | ⟨q1, q2, q3⟩
    · exact ⟨j, by omega, Or.inl ⟨q1, rfl⟩, by rw [q3], by omega⟩
    · exact ⟨j + 1, by omega, Or.inr ⟨q1, rfl⟩, by omega, by omega⟩
  refine ⟨d', 0, f', fun j => if j < d' then h (if d < 40 then j else j + 1) else U.1 19, fun j => if j < d' then cc (if d < 40 then j else j + 1) else c', by omega, by omega, t0, t1, t2, rfl, rfl, fun j hj => ?_, fun i j hij hj => ?_, fun i hi => ?_, ?_, fun j i hj hi => ?_, fun j i h1 h2 _ => absurd h2 (by omega), ?_⟩
  · by_cases hjd : j < d'
    · simp only [if_pos hjd]
      obtain ⟨o, ho1, ho2, ho3, ho4⟩ := hold j hjd
      have eo : (if d < 40 then j else j + 1) = o := by
        rcases ho2 with ⟨q1, q2⟩ | ⟨q1, q2⟩
        · rw [if_pos q1, q2]
        · rw [if_neg (by omega), q2]
      rw [eo]
      obtain ⟨k1, k2, k3⟩ := hall o (by omega)
      have hco : cc o ≤ c := by rw [← hcd]; exact hmono o d ho1 (by omega)
      refine ⟨k1, rG_congr k1.1 k2 fun i hi => ?_, fun b hb => ?_⟩
      · show T'.1 44 ((f' + j) % 41 * 27 + i) = Sx.1 44 ((f + o) % 41 * 27 + i)
        rw [t44, if_neg (by omega), h44, ho3]
      · obtain ⟨q1, q2, q3, q4, q5, q6⟩ := hk b (by omega)
        rw [q1, q2, q3, q4, q5, q6]
        exact k3 b hb
    · simp only [if_neg hjd]
      have : j = d' := by omega
      subst this
      refine ⟨hN, rG_congr hN.1 hg fun i hi => ?_, hB⟩
      show T'.1 44 ((f' + j) % 41 * 27 + i) = _
      rw [t44, if_pos (by omega)]
      exact congrArg (rowG T 37) (by omega)
  · by_cases hjd : j < d'
    · simp only [if_pos hjd, if_pos (show i < d' by omega)]
      obtain ⟨o, ho1, ho2, -⟩ := hold j hjd
      by_cases h40 : d < 40
      · simp only [if_pos h40]
        exact hmono i j hij (by omega)
      · simp only [if_neg h40]
        exact hmono (i + 1) (j + 1) (by omega) (by omega)
    · simp only [if_neg hjd]
      by_cases hid : i < d'
      · simp only [if_pos hid]
        obtain ⟨o, ho1, ho2, -⟩ := hold i hid
        have hle : ∀ o, o ≤ d → cc o ≤ c' := fun o ho => by
          have := hmono o d ho (by omega)
          omega
        by_cases h40 : d < 40
        · simp only [if_pos h40]
          exact hle i (by omega)
        · simp only [if_neg h40]
          exact hle (i + 1) (by omega)
      · simp only [if_neg hid]
        exact Nat.le_refl _
  · simp only [if_neg (Nat.lt_irrefl d')]
  · simp only [if_neg (Nat.lt_irrefl d')]
    exact hg
  · simp only [if_pos hj]
    rcases hd' with ⟨q1, q2, q3⟩ | ⟨q1, q2, q3⟩
    · simp only [if_pos q1]
      rw [a21 j i (by rw [if_pos q1]; omega) hi, if_pos q1]
      by_cases hjd : j < d
      · rw [if_pos hjd]; exact hp1 j i hjd hi
      · have : j = d := by omega
        subst this
        rw [if_neg hjd]
        exact hnow i hi
    · have q4 : ¬ d < 40 := by omega
      simp only [if_neg q4]
      rw [a21 j i (by rw [if_neg q4]; omega) hi, if_neg q4]
      by_cases hjd : j < 39
      · rw [if_pos hjd]; exact hp1 (j + 1) i (by omega) hi
      · have : j + 1 = d := by omega
        rw [if_neg hjd, this]
        exact hnow i hi
  · simp only [Nat.add_zero, if_neg (Nat.lt_irrefl d')]
    exact ho
theorem zRel_act {Sx Sm T U : zS} {st pl tp pa : Nat} (h : zRel Sx Sm) (hk : kp [11, 12, 40, 41, 42, 52, 53, 54, 55, 56, 57, 58, 59, 60, 61, 62, 63, 64, 65, 14, 15, 16, 17, 18, 19, 20, 37, 38, 39, 43, 44] Sx T) (hm : kp [8, 9, 20, 22, 24, 25, 26, 27, 33, 34, 35, 0, 19, 21] Sm U) (h0 : ∀ i, i ≠ 56 → i ≠ 57 → U.1 0 i = Sm.1 0 i) (hO : ∀ b, b < 12 → ∃ s : Nat, s < 12 ∧ T.1 14 b = nI s) (hH : rH st pl tp pa (Sx.1 5) (Sx.1 6) (Sx.1 7) (Sx.1 8) (Sm.1 0 42) (Sm.1 0 43) (Sm.1 0 44) (Sm.1 0 45) (Sm.1 0 46) (Sm.1 0 47) (Sm.1 11) (Sm.1 14) (Sm.1 15) (Sm.1 17)) (hI : rI st pl tp (Sx.1 45 0) (Sx.1 46) (Sm.1 36) (Sm.1 37)) (hA : rA st pl tp (T.1 37) (T.1 38) (T.1 39) (T.1 14) (T.1 15) (T.1 16) (T.1 17) (T.1 18) (T.1 19) (T.1 20) (T.1 43) (T.1 44) (U.1 19) (U.1 21) (U.1 0 56) (U.1 0 57)) : zRel T U := by
  obtain ⟨a1, a2, a3, a4, a5, a6, a7, -⟩ := h
  refine ⟨?_, ?_, ?_, ?_, ?_, ?_, ⟨hO, ?_⟩, st, pl, tp, pa, ?_, hA, ?_⟩
  · rw [hk.2 0 (by decide), hk.2 1 (by decide), h0 1 (by decide) (by decide), hm.2 1 (by decide)]; exact a1
  · rw [hk.2 2 (by decide), h0 2 (by decide) (by decide), h0 3 (by decide) (by decide)]; exact a2
  · rw [hk.2 0 (by decide), hk.2 66 (by decide), h0 60 (by decide) (by decide), hm.2 23 (by decide)]; exact a3
  · rw [hk.2 47 (by decide), hk.2 48 (by decide), hk.2 49 (by decide), hk.2 50 (by decide), hk.2 51 (by decide), h0 72 (by decide) (by decide), h0 73 (by decide) (by decide), hm.2 28 (by decide), hm.2 29 (by decide), hm.2 30 (by decide), hm.2 31 (by decide), hm.2 32 (by decide)]; exact a4
  · rw [hk.2 9 (by decide), hk.2 10 (by decide), h0 21 (by decide) (by decide), h0 18 (by decide) (by decide), h0 52 (by decide) (by decide), hm.2 5 (by decide), hm.2 6 (by decide)]; exact a5
  · rw [hk.1]; exact a6
  · rw [hk.2 30 (by decide)]; exact a7.2
  · rw [hk.2 5 (by decide), hk.2 6 (by decide), hk.2 7 (by decide), hk.2 8 (by decide), h0 42 (by decide) (by decide), h0 43 (by decide) (by decide), h0 44 (by decide) (by decide), h0 45 (by decide) (by decide), h0 46 (by decide) (by decide), h0 47 (by decide) (by decide), hm.2 11 (by decide), hm.2 14 (by decide), hm.2 15 (by decide), hm.2 17 (by decide)]; exact hH
  · rw [hk.2 45 (by decide), hk.2 46 (by decide), hm.2 36 (by decide), hm.2 37 (by decide)]; exact hI
theorem kp_in {l l' : List Nat} {S T : zS} (h : kp l S T) (hl : l.all (fun k => l'.contains k) = true) : kp l' S T := kp_sub h fun k hk => by
  have := List.all_eq_true.mp hl k hk
  exact List.contains_iff_mem.mp this
theorem op_undo : zSt0 zRel f_X11_undo f_X12_undo := by
  intro Sx Sm h
  obtain ⟨-, -, -, -, -, -, hO, st, pl, tp, pa, hH, hA, hI⟩ := id h
  obtain ⟨d, u, f, hh, cc, hdu, hf, x0, x1, x2, m0, m1, hall, hmono, hnow, hgn, hp1, hp2, hord⟩ := id hA
  show zSame _ _
  unfold f_X11_undo f_X12_undo f_X0_stepBack_43_37
  rw [x0, m0]
  by_cases hd0 : d = 0
  · subst hd0
    rw [if_pos (show nI 0 = 0 from rfl), if_pos (show nI 0 = 0 from rfl), zb_def, if_pos (Or.inl rfl)]
    exact zsame h
  · have hne : ¬ nI d = 0 := nI_ne0 (by omega) (by omega)
    have hsub : nI d - 1 = nI (d - 1) := by rw [show (1 : Int32) = nI 1 from rfl, pk_sub (by omega)]
    rw [if_neg hne, if_neg hne, hsub, zlet_def, zlet_def, zlet_def, zlet_def, show (zput Sx 43 0 (nI (d - 1))).1 43 1 = Sx.1 43 1 from rfl, x1, show (zput Sm 0 56 (nI (d - 1))).1 0 57 = Sm.1 0 57 from rfl, m1, nI_1]
    have er : (f + (d - 1)) % 41 * 27 + 27 ≤ 1107 := by omega
    generalize hV : zput (zput Sx 43 0 (nI (d - 1))) 43 1 (nI (u + 1)) = V
    have v0 : V.1 43 0 = nI (d - 1) := by rw [← hV]; rfl
    have v1 : V.1 43 1 = nI (u + 1) := by rw [← hV]; rfl
    have v2 : V.1 43 2 = nI f := by rw [← hV]; exact x2
    have kV : kp [43] Sx V := by rw [← hV]; exact kp_trans (kp_put (by decide)) (kp_put (by decide))
    obtain ⟨T, eT, kT, hT⟩ := ldX_37_44 (S := V) er
    rw [presX (by omega) hf v0 v2, zb_def, eT, zu_def, zb_def, if_pos (Or.inr rfl)]
    generalize hQ : zput (zput Sm 0 56 (nI (d - 1))) 0 57 (nI (u + 1)) = Q
    have w0 : Q.1 0 56 = nI (d - 1) := by rw [← hQ]; rfl
    have w1 : Q.1 0 57 = nI (u + 1) := by rw [← hQ]; rfl
    have wi : ∀ i, i ≠ 56 → i ≠ 57 → Q.1 0 i = Sm.1 0 i := fun i h1 h2 => by rw [← hQ, zput1_eq, zput1_eq, upd_ne _ _ _ _ h2, upd_ne _ _ _ _ h1]
    have kQ : kp [0] Sm Q := by rw [← hQ]; exact kp_trans (kp_put (by decide)) (kp_put (by decide))
    obtain ⟨U, eU, kU, h19, h21⟩ := exchM (S := Q) (a := 99 * (d - 1)) (by omega)
    rw [w0, show 99 * nI (d - 1) = nI (99 * (d - 1)) from pk_mul 99 (d - 1), eU, zu_def]
    refine zsame (zRel_act h (kp_trans (kp_in kV (by decide)) (kp_in kT (by decide))) (kp_trans (kp_in kQ (by decide)) (kp_in kU (by decide))) (fun i h1 h2 => by rw [kU.2 0 (by decide)]; exact wi i h1 h2) (by rw [kT.2 14 (by decide), kV.2 14 (by decide)]; exact hO.1) hH hI ?_)
    have e19 : ∀ i, i < 99 → U.1 19 i = hh (d - 1) i := fun i hi => by
      rw [h19 i hi, kQ.2 21 (by decide)]
      exact hp1 (d - 1) i (by omega) hi
    rw [kT.2 14 (by decide), kT.2 15 (by decide), kT.2 16 (by decide), kT.2 17 (by decide), kT.2 18 (by decide), kT.2 19 (by decide), kT.2 20 (by decide), kT.2 43 (by decide), kT.2 44 (by decide), kV.2 14 (by decide), kV.2 15 (by decide), kV.2 16 (by decide), kV.2 17 (by decide), kV.2 18 (by decide), kV.2 19 (by decide), kV.2 20 (by decide), kV.2 44 (by decide), kU.2 0 (by decide), w0, w1]
    refine ⟨d - 1, u + 1, f, hh, cc, by omega, hf, v0, v1, v2, rfl, rfl, fun j hj => hall j (by omega), fun i j hij hj => hmono i j hij (by omega), e19, ?_, fun j i hj hi => ?_, fun j i h1 h2 hi => ?_, ?_⟩
    · obtain ⟨k1, k2, -⟩ := hall (d - 1) (by omega)
      exact rG_congr k1.1 k2 fun i hi => (hT i hi).trans (by rw [kV.2 44 (by decide)])
    · rw [h21, if_neg (by omega), kQ.2 21 (by decide)]
      exact hp1 j i (by omega) hi
    · rw [h21]
      by_cases hjd : j = d - 1
      · subst hjd
        rw [if_pos (by omega), show 99 * (d - 1) + i - 99 * (d - 1) = i by omega, kQ.2 19 (by decide), show d - 1 + 1 = d by omega]
        exact hnow i hi
      · rw [if_neg (by omega), kQ.2 21 (by decide)]
        exact hp2 j i (by omega) (by omega) hi
    · rw [show d - 1 + (u + 1) = d + u by omega]; exact hord
theorem op_redo : zSt0 zRel f_X11_redo f_X12_redo := by
  intro Sx Sm h
  obtain ⟨-, -, -, -, -, -, hO, st, pl, tp, pa, hH, hA, hI⟩ := id h
  obtain ⟨d, u, f, hh, cc, hdu, hf, x0, x1, x2, m0, m1, hall, hmono, hnow, hgn, hp1, hp2, hord⟩ := id hA
  show zSame _ _
  unfold f_X11_redo f_X12_redo f_X0_stepOn_43_37
  rw [x1, m1]
  by_cases hu0 : u = 0
  · subst hu0
    rw [if_pos (show nI 0 = 0 from rfl), if_pos (show nI 0 = 0 from rfl), zb_def, if_pos (Or.inl rfl)]
    exact zsame h
  · have hne : ¬ nI u = 0 := nI_ne0 (by omega) (by omega)
    have hsub : nI u - 1 = nI (u - 1) := by rw [show (1 : Int32) = nI 1 from rfl, pk_sub (by omega)]
    rw [if_neg hne, if_neg hne, hsub, zlet_def, zlet_def, show (zput Sx 43 1 (nI (u - 1))).1 43 0 = Sx.1 43 0 from rfl, x0, nI_1]
    have er : (f + (d + 1)) % 41 * 27 + 27 ≤ 1107 := by omega
    generalize hV : zput (zput Sx 43 1 (nI (u - 1))) 43 0 (nI (d + 1)) = V
    have v0 : V.1 43 0 = nI (d + 1) := by rw [← hV]; rfl
    have v1 : V.1 43 1 = nI (u - 1) := by rw [← hV]; rfl
    have v2 : V.1 43 2 = nI f := by rw [← hV]; exact x2
    have kV : kp [43] Sx V := by rw [← hV]; exact kp_trans (kp_put (by decide)) (kp_put (by decide))
    obtain ⟨T, eT, kT, hT⟩ := ldX_37_44 (S := V) er
    rw [presX (by omega) hf v0 v2, zb_def, eT, zu_def, zb_def, if_pos (Or.inr rfl)]
    obtain ⟨Q, eQ, kQ, h19, h21⟩ := exchM (S := Sm) (a := 99 * d) (by omega)
    have q56 : Q.1 0 56 = nI d := by rw [kQ.2 0 (by decide)]; exact m0
    have q57 : Q.1 0 57 = nI u := by rw [kQ.2 0 (by decide)]; exact m1
    rw [m0, show 99 * nI d = nI (99 * d) from pk_mul 99 d, eQ, zu_def, zlet_def, zlet_def, q56, nI_1, show (zput Q 0 56 (nI (d + 1))).1 0 57 = Q.1 0 57 from rfl, q57, hsub]
    generalize hU : zput (zput Q 0 56 (nI (d + 1))) 0 57 (nI (u - 1)) = U
    have w0 : U.1 0 56 = nI (d + 1) := by rw [← hU]; rfl
    have w1 : U.1 0 57 = nI (u - 1) := by rw [← hU]; rfl
    have wi : ∀ i, i ≠ 56 → i ≠ 57 → U.1 0 i = Q.1 0 i := fun i h1 h2 => by rw [← hU, zput1_eq, zput1_eq, upd_ne _ _ _ _ h2, upd_ne _ _ _ _ h1]
    have kU : kp [0] Q U := by rw [← hU]; exact kp_trans (kp_put (by decide)) (kp_put (by decide))
    refine zsame (zRel_act h (kp_trans (kp_in kV (by decide)) (kp_in kT (by decide))) (kp_trans (kp_in kQ (by decide)) (kp_in kU (by decide))) (fun i h1 h2 => by rw [wi i h1 h2, kQ.2 0 (by decide)]) (by rw [kT.2 14 (by decide), kV.2 14 (by decide)]; exact hO.1) hH hI ?_)
    have e19 : ∀ i, i < 99 → U.1 19 i = hh (d + 1) i := fun i hi => by
      rw [kU.2 19 (by decide), h19 i hi]
      exact hp2 d i (Nat.le_refl _) (by omega) hi
    rw [kT.2 14 (by decide), kT.2 15 (by decide), kT.2 16 (by decide), kT.2 17 (by decide), kT.2 18 (by decide), kT.2 19 (by decide), kT.2 20 (by decide), kT.2 43 (by decide), kT.2 44 (by decide), kV.2 14 (by decide), kV.2 15 (by decide), kV.2 16 (by decide), kV.2 17 (by decide), kV.2 18 (by decide), kV.2 19 (by decide), kV.2 20 (by decide), kV.2 44 (by decide), kU.2 21 (by decide), w0, w1]
    refine ⟨d + 1, u - 1, f, hh, cc, by omega, hf, v0, v1, v2, rfl, rfl, fun j hj => hall j (by omega), fun i j hij hj => hmono i j hij (by omega), e19, ?_, fun j i hj hi => ?_, fun j i h1 h2 hi => ?_, ?_⟩
    · obtain ⟨k1, k2, -⟩ := hall (d + 1) (by omega)
      exact rG_congr k1.1 k2 fun i hi => (hT i hi).trans (by rw [kV.2 44 (by decide)])
    · rw [h21]
      by_cases hjd : j = d
      · subst hjd
        rw [if_pos (by omega), show 99 * j + i - 99 * j = i by omega]
        exact hnow i hi
      · rw [if_neg (by omega)]
        exact hp1 j i (by omega) hi
    · rw [h21, if_neg (by omega)]
      exact hp2 j i (by omega) (by omega) hi
    · rw [show d + 1 + (u - 1) = d + u by omega]; exact hord
