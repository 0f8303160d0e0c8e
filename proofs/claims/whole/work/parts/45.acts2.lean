/-! ===== pull, trim, year ===== -/
theorem ok_of {st pl tp c : Nat} {N : Nat → Int32} (h : bOk st pl tp c N) (h7 : isI 0 999 (N 97)) (h8 : isI 0 999 (N 98)) : okN st pl tp c N := ⟨h.1, h.2.1, h7, h8, h.2.2⟩
theorem kp_zld (S : zS) : kp [20] S (zld S 0) := ⟨rfl, fun k hk => if_neg (fun z => hk (by rw [z]; decide))⟩
theorem rB_congr {c : Nat} {N N' sk pl tp sy am rp : Nat → Int32} (h : rB c N sk pl tp sy am rp) (e : ∀ b j, b < c → 2 ≤ j → j < 8 → N' (8 * b + j) = N (8 * b + j)) : rB c N' sk pl tp sy am rp := fun b hb => by
  rw [e b 2 hb (by omega) (by omega), e b 3 hb (by omega) (by omega), e b 4 hb (by omega) (by omega), e b 5 hb (by omega) (by omega), e b 6 hb (by omega) (by omega), e b 7 hb (by omega) (by omega)]
  exact h b hb
theorem rel_all {Sx Sm : zS} (h : zRel Sx Sm) : ∃ st pl tp pa c : Nat, rH st pl tp pa (Sx.1 5) (Sx.1 6) (Sx.1 7) (Sx.1 8) (Sm.1 0 42) (Sm.1 0 43) (Sm.1 0 44) (Sm.1 0 45) (Sm.1 0 46) (Sm.1 0 47) (Sm.1 11) (Sm.1 14) (Sm.1 15) (Sm.1 17) ∧ rA st pl tp (Sx.1 37) (Sx.1 38) (Sx.1 39) (Sx.1 14) (Sx.1 15) (Sx.1 16) (Sx.1 17) (Sx.1 18) (Sx.1 19) (Sx.1 20) (Sx.1 43) (Sx.1 44) (Sm.1 19) (Sm.1 21) (Sm.1 0 56) (Sm.1 0 57) ∧ rI st pl tp (Sx.1 45 0) (Sx.1 46) (Sm.1 36) (Sm.1 37) ∧ okN st pl tp c (Sm.1 19) ∧ rB c (Sm.1 19) (Sx.1 14) (Sx.1 15) (Sx.1 16) (Sx.1 17) (Sx.1 18) (Sx.1 19) ∧ gR c (Sm.1 19) (Sx.1 37) (Sx.1 38) (Sx.1 39) ∧ (∀ b, b < 12 → ∃ s : Nat, s < 12 ∧ Sx.1 14 b = nI s) ∧ ((∀ i, i < 12 → Sx.1 20 i = nI ((ordF (Sx.1 14)).getD i 0)) ∨ c = 0) := by
  obtain ⟨-, -, -, -, -, -, hO, st, pl, tp, pa, hH, hA, hI⟩ := id h
  obtain ⟨c, hN, hB, e0, e1, e2, hl⟩ := ac_now hA
  exact ⟨st, pl, tp, pa, c, hH, hA, hI, hN, hB, ⟨e0, e1, e2, hl⟩, hO.1, ord_std hN hA⟩
theorem rel_act {Sx Sm : zS} (h : zRel Sx Sm) : ∃ U1, f_X12_act Sm = some U1 ∧ kp [0, 21] Sm U1 ∧ ∀ i, i ≠ 56 → i ≠ 57 → U1.1 0 i = Sm.1 0 i := by
  obtain ⟨-, -, -, -, -, -, hO, st, pl, tp, pa, hH, hA, hI⟩ := id h
  obtain ⟨d, u, f, hh, cc, hdu, hf, x0, x1, x2, m0, -⟩ := hA
  obtain ⟨T, e, k, h0, -⟩ := actM (S := Sm) (d := d) (by omega) m0
  exact ⟨T, e, k, h0⟩
theorem gR_congr {c : Nat} {A A' G L Ag : Nat → Int32} (hc : c ≤ 12) (h : gR c A G L Ag) (e : ∀ i, i < 99 → A' i = A i) : gR c A' G L Ag := by
  obtain ⟨g0, g1, g2, g3⟩ := h
  refine ⟨g0, by rw [e 97 (by omega)]; exact g1, by rw [e 98 (by omega)]; exact g2, fun b hb => ?_⟩
  rw [e _ (by omega), e _ (by omega)]
  exact g3 b hb
theorem op_pull : zSt1 zRel f_X11_pull f_X12_pull := by
  intro x Sx Sm h
  obtain ⟨st, pl, tp, pa, c, hH, hA, hI, hN, hB, hg, hO, ho⟩ := rel_all h
  have hc := hN.1
  show zSame _ _
  unfold f_X11_pull f_X12_pull
  rw [isBillX hc hg.1, isBillM hc hN.2.1, zb_def, zb_def, z01, z01]
  by_cases ca : ¬ x < 0 ∧ x < nI c
  · rw [if_pos ca, if_pos ca]
    obtain ⟨b, hb2, rfl⟩ := nI_of ca.1
    have hbc : b < c := (nI_ltI hb2 (by omega)).mp ca.2
    have e8 : 8 * nI b + 0 = nI (8 * b) := nI_8 b 0
    have hz : zin (nI b) 12 := zinN (by omega) (by omega)
    have hz8 : zin (nI (8 * b)) 99 := zinN (by omega) (by omega)
    have hl := (hg.2.2.2 b hbc).1
    simp only [e8, eq_true hz, eq_true hz8, ↓reduceIte, zlet_def, nI_clamp (show b < 2 ^ 31 by omega), nI_clamp (show 8 * b < 2 ^ 31 by omega), hl]
    obtain ⟨n, en, hn1, hn2⟩ := isI_nI (hN.2.2.2.2 b hbc).1 (by omega) (by omega)
    by_cases hn0 : n = 0
    · subst hn0
      rw [en, if_neg (by decide), if_pos (show nI 0 = 0 from rfl)]
      exact zsame h
    · have h1 : (0 : Int32) < nI n := nI_lt (a := 0) (by omega) (by omega)
      have h2 : ¬ nI n = 0 := nI_ne0 (by omega) (by omega)
      obtain ⟨U1, eU, kU, u0⟩ := rel_act h
      have hU19 : U1.1 19 = Sm.1 19 := kU.2 19 (by decide)
      rw [en, if_pos h1, if_neg h2, eU, zu_def, hU19, en]
      have e19 : (zput U1 19 (8 * b) 0).1 19 = upd (Sm.1 19) (8 * b) 0 := by rw [zput1_eq, hU19]
      have hN' : okN st pl tp c ((zput U1 19 (8 * b) 0).1 19) := by
        rw [e19]
        refine ok_of (bOk_life (ok_b hN) (by omega) ⟨0, by omega, by omega, rfl⟩) ?_ ?_
        · rw [upd_ne _ _ _ _ (by omega)]; exact hN.2.2.1
        · rw [upd_ne _ _ _ _ (by omega)]; exact hN.2.2.2.1
      have hg' : gR c ((zput U1 19 (8 * b) 0).1 19) ((zput Sx 38 b 0).1 37) ((zput Sx 38 b 0).1 38) ((zput Sx 38 b 0).1 39) := by
        rw [e19]
        refine ⟨hg.1, ?_, ?_, fun o ho => ?_⟩
        · rw [upd_ne _ _ _ _ (by omega)]; exact hg.2.1
        · rw [upd_ne _ _ _ _ (by omega)]; exact hg.2.2.1
        · rw [zput1_eq, upd_ne _ (8 * b) (8 * o + 1) _ (by omega)]
          by_cases hob : o = b
          · subst hob
            rw [upd_at, upd_at]
            exact ⟨rfl, (hg.2.2.2 o ho).2⟩
          · rw [upd_ne _ _ _ _ hob, upd_ne _ _ _ _ (by omega)]
            exact hg.2.2.2 o ho
      obtain ⟨T', eT', kT', hA'⟩ := rA_new (T := zput Sx 38 b 0) (U := zput U1 19 (8 * b) 0) (c := c) (c' := c) hA hN.2.1 hc (Nat.le_refl _) hN' (by
        rw [e19]
        refine rB_congr hB fun o j ho h2 h8 => ?_
        rw [upd_ne _ _ _ _ (by omega)]) (fun o ho => ⟨rfl, rfl, rfl, rfl, rfl, rfl⟩) rfl rfl (rG_of_gR hN'.2.1 hg' hc) ho eU rfl rfl
      rw [eT', zu_def]
      refine zsame (zRel_act h (kp_trans (kp_put (by decide)) (kp_in kT' (by decide))) (kp_trans (kp_in kU (by decide)) (kp_put (by decide))) (fun i h1 h2 => u0 i h1 h2) ?_ hH hI hA')
      rw [kT'.2 14 (by decide)]
      exact hO
  · rw [if_neg ca, if_neg ca]; exact zsame h
theorem cut37 {st pl tp c : Nat} {S M : zS} {s n : Int32} (hn : isI 1 99 n) (hk : ∀ o, o < c → S.1 14 o = M.1 20 (8 * o + 2)) (hg : gR c (M.1 20) (S.1 37) (S.1 38) (S.1 39)) (hok : bOk st pl tp c (M.1 20)) : ∃ T U, f_X3_cut_37_13 s n S = some T ∧ f_X12_trimHere s n M = some U ∧ kp [38] S T ∧ kp [20] M U ∧ gR c (U.1 20) (T.1 37) (T.1 38) (T.1 39) ∧ bOk st pl tp c (U.1 20) ∧ ∀ i, i % 8 ≠ 0 ∨ 96 ≤ i → U.1 20 i = M.1 20 i := by
  have hc := hok.1
  refine loopR (f := fun q (T : zS) i => f_X3_cut_37_13_L3 q s n (nI i) T) (f' := fun q (U : zS) i => f_X12_trimHere_L2 q s n (nI i) U) (fun _ T U => kp [38] S T ∧ kp [20] M U ∧ gR c (U.1 20) (T.1 37) (T.1 38) (T.1 39) ∧ bOk st pl tp c (U.1 20) ∧ ∀ i, i % 8 ≠ 0 ∨ 96 ≤ i → U.1 20 i = M.1 20 i) (fun o o' => ∃ T U, o = some T ∧ o' = some U ∧ kp [38] S T ∧ kp [20] M U ∧ gR c (U.1 20) (T.1 37) (T.1 38) (T.1 39) ∧ bOk st pl tp c (U.1 20) ∧ ∀ i, i % 8 ≠ 0 ∨ 96 ≤ i → U.1 20 i = M.1 20 i) (c := c) ?_ ?_ c 0 zN zN S M (by omega) (by show c < 10000; omega) (by show c < 10000; omega) ⟨kp_rfl _ _, kp_rfl _ _, hg, hok, fun _ _ => rfl⟩
  · intro q q' T U b hb ⟨kT, kU, hg1, hok1, hf⟩
    have e14 : T.1 14 b = M.1 20 (8 * b + 2) := by rw [kT.2 14 (by decide)]; exact hk b hb
    have e2 : U.1 20 (8 * b + 2) = M.1 20 (8 * b + 2) := hf _ (Or.inl (by omega))
    have hz : zin (nI b) 12 := zinN (by omega) (by omega)
    have hl := (hg1.2.2.2 b hb).1
    obtain ⟨l1, l2⟩ := lessX (hok1.2.2 b hb).1 hn
    have x1 : f_X3_cut_37_13_L3 (q + 1) s n (nI b) T = if M.1 20 (8 * b + 2) = s then f_X3_cut_37_13_L3 q s n (nI (b + 1)) (zput T 38 b (leL (U.1 20 (8 * b)) n)) else f_X3_cut_37_13_L3 q s n (nI (b + 1)) T := by
      rw [f_X3_cut_37_13_L3, hg1.1, if_pos (nI_lt hb (by omega)), if_pos (show nI b < 12 from nI_lt (b := 12) (by omega) (by omega)), if_pos hz, if_pos hz, if_pos hz, zlet_def, zlet_def, zlet_def, nI_1, nI_clamp (by omega), e14, hl, l1]
    have x2 : f_X12_trimHere_L2 (q' + 1) s n (nI b) U = if M.1 20 (8 * b + 2) = s then f_X12_trimHere_L2 q' s n (nI (b + 1)) (zput U 20 (8 * b) (leL (U.1 20 (8 * b)) n)) else f_X12_trimHere_L2 q' s n (nI (b + 1)) U := by
      rw [f_X12_trimHere_L2, billsM hok1.2.1, zb_def, if_pos (nI_lt hb (by omega)), of2 (by omega), zb_def, e2, lessM (by omega), zu_def, zlet_def, zlet_def, nI_1]
    by_cases hs : M.1 20 (8 * b + 2) = s
    · rw [if_pos hs] at x1 x2
      refine ⟨_, _, x1, x2, kp_trans kT (kp_put (by decide)), kp_trans kU (kp_put (by decide)), ?_, ?_, fun i hi => ?_⟩
      · rw [zput1_eq, zput1_eq, zput1_ne _ _ _ _ _ (show 37 ≠ 38 by decide), zput1_ne _ _ _ _ _ (show 39 ≠ 38 by decide)]
        refine ⟨hg1.1, ?_, ?_, fun o ho => ?_⟩
        · rw [upd_ne _ _ _ _ (by omega)]; exact hg1.2.1
        · rw [upd_ne _ _ _ _ (by omega)]; exact hg1.2.2.1
        · rw [upd_ne _ (8 * b) (8 * o + 1) _ (by omega)]
          by_cases hob : o = b
          · subst hob
            rw [upd_at, upd_at]
            exact ⟨rfl, (hg1.2.2.2 o ho).2⟩
          · rw [upd_ne _ _ _ _ hob, upd_ne _ _ _ _ (by omega)]
            exact hg1.2.2.2 o ho
      · rw [zput1_eq]; exact bOk_life hok1 (by omega) l2
      · rw [zput1_eq, upd_ne _ _ _ _ (by omega)]
        exact hf i hi
    · rw [if_neg hs] at x1 x2
      exact ⟨_, _, x1, x2, kT, kU, hg1, hok1, hf⟩
  · intro q q' T U ⟨kT, kU, hg1, hok1, hf⟩
    refine ⟨T, U, ?_, ?_, kT, kU, hg1, hok1, hf⟩
    · show f_X3_cut_37_13_L3 (q + 1) s n (nI c) T = _
      rw [f_X3_cut_37_13_L3, hg1.1, if_neg (nI_nlt (Nat.le_refl c) (by omega))]
    · show f_X12_trimHere_L2 (q' + 1) s n (nI c) U = _
      rw [f_X12_trimHere_L2, billsM hok1.2.1, zb_def, if_neg (nI_nlt (Nat.le_refl c) (by omega))]
theorem cut60 {st pl tp c : Nat} {S M : zS} {s n : Int32} (hn : isI 1 99 n) (hk : ∀ o, o < c → S.1 14 o = M.1 20 (8 * o + 2)) (hg : gR c (M.1 20) (S.1 60) (S.1 61) (S.1 62)) (hok : bOk st pl tp c (M.1 20)) : ∃ T U, f_X3_cut_60_13 s n S = some T ∧ f_X12_trimHere s n M = some U ∧ kp [61] S T ∧ kp [20] M U ∧ gR c (U.1 20) (T.1 60) (T.1 61) (T.1 62) ∧ bOk st pl tp c (U.1 20) ∧ ∀ i, i % 8 ≠ 0 ∨ 96 ≤ i → U.1 20 i = M.1 20 i := by
  have hc := hok.1
  refine loopR (f := fun q (T : zS) i => f_X3_cut_60_13_L3 q s n (nI i) T) (f' := fun q (U : zS) i => f_X12_trimHere_L2 q s n (nI i) U) (fun _ T U => kp [61] S T ∧ kp [20] M U ∧ gR c (U.1 20) (T.1 60) (T.1 61) (T.1 62) ∧ bOk st pl tp c (U.1 20) ∧ ∀ i, i % 8 ≠ 0 ∨ 96 ≤ i → U.1 20 i = M.1 20 i) (fun o o' => ∃ T U, o = some T ∧ o' = some U ∧ kp [61] S T ∧ kp [20] M U ∧ gR c (U.1 20) (T.1 60) (T.1 61) (T.1 62) ∧ bOk st pl tp c (U.1 20) ∧ ∀ i, i % 8 ≠ 0 ∨ 96 ≤ i → U.1 20 i = M.1 20 i) (c := c) ?_ ?_ c 0 zN zN S M (by omega) (by show c < 10000; omega) (by show c < 10000; omega) ⟨kp_rfl _ _, kp_rfl _ _, hg, hok, fun _ _ => rfl⟩
  · intro q q' T U b hb ⟨kT, kU, hg1, hok1, hf⟩
    have e14 : T.1 14 b = M.1 20 (8 * b + 2) := by rw [kT.2 14 (by decide)]; exact hk b hb
    have e2 : U.1 20 (8 * b + 2) = M.1 20 (8 * b + 2) := hf _ (Or.inl (by omega))
    have hz : zin (nI b) 12 := zinN (by omega) (by omega)
    have hl := (hg1.2.2.2 b hb).1
    obtain ⟨l1, l2⟩ := lessX (hok1.2.2 b hb).1 hn
    have x1 : f_X3_cut_60_13_L3 (q + 1) s n (nI b) T = if M.1 20 (8 * b + 2) = s then f_X3_cut_60_13_L3 q s n (nI (b + 1)) (zput T 61 b (leL (U.1 20 (8 * b)) n)) else f_X3_cut_60_13_L3 q s n (nI (b + 1)) T := by
      rw [f_X3_cut_60_13_L3, hg1.1, if_pos (nI_lt hb (by omega)), if_pos (show nI b < 12 from nI_lt (b := 12) (by omega) (by omega)), if_pos hz, if_pos hz, if_pos hz, zlet_def, zlet_def, zlet_def, nI_1, nI_clamp (by omega), e14, hl, l1]
    have x2 : f_X12_trimHere_L2 (q' + 1) s n (nI b) U = if M.1 20 (8 * b + 2) = s then f_X12_trimHere_L2 q' s n (nI (b + 1)) (zput U 20 (8 * b) (leL (U.1 20 (8 * b)) n)) else f_X12_trimHere_L2 q' s n (nI (b + 1)) U := by
      rw [f_X12_trimHere_L2, billsM hok1.2.1, zb_def, if_pos (nI_lt hb (by omega)), of2 (by omega), zb_def, e2, lessM (by omega), zu_def, zlet_def, zlet_def, nI_1]
    by_cases hs : M.1 20 (8 * b + 2) = s
    · rw [if_pos hs] at x1 x2
      refine ⟨_, _, x1, x2, kp_trans kT (kp_put (by decide)), kp_trans kU (kp_put (by decide)), ?_, ?_, fun i hi => ?_⟩
      · rw [zput1_eq, zput1_eq, zput1_ne _ _ _ _ _ (show 60 ≠ 61 by decide), zput1_ne _ _ _ _ _ (show 62 ≠ 61 by decide)]
        refine ⟨hg1.1, ?_, ?_, fun o ho => ?_⟩
        · rw [upd_ne _ _ _ _ (by omega)]; exact hg1.2.1
        · rw [upd_ne _ _ _ _ (by omega)]; exact hg1.2.2.1
        · rw [upd_ne _ (8 * b) (8 * o + 1) _ (by omega)]
          by_cases hob : o = b
          · subst hob
            rw [upd_at, upd_at]
            exact ⟨rfl, (hg1.2.2.2 o ho).2⟩
          · rw [upd_ne _ _ _ _ hob, upd_ne _ _ _ _ (by omega)]
            exact hg1.2.2.2 o ho
      · rw [zput1_eq]; exact bOk_life hok1 (by omega) l2
      · rw [zput1_eq, upd_ne _ _ _ _ (by omega)]
        exact hf i hi
    · rw [if_neg hs] at x1 x2
      exact ⟨_, _, x1, x2, kT, kU, hg1, hok1, hf⟩
  · intro q q' T U ⟨kT, kU, hg1, hok1, hf⟩
    refine ⟨T, U, ?_, ?_, kT, kU, hg1, hok1, hf⟩
    · show f_X3_cut_60_13_L3 (q + 1) s n (nI c) T = _
      rw [f_X3_cut_60_13_L3, hg1.1, if_neg (nI_nlt (Nat.le_refl c) (by omega))]
    · show f_X12_trimHere_L2 (q' + 1) s n (nI c) U = _
      rw [f_X12_trimHere_L2, billsM hok1.2.1, zb_def, if_neg (nI_nlt (Nat.le_refl c) (by omega))]
theorem mkS_hi (p : Nat → Bool) {c : Nat} (hc : c ≤ 12) : ∀ i, i < 32 → 12 ≤ i → bt (mkS p c) i = false := fun i hi h12 => by
  rw [bt_mkS p hi c (by omega)]
  simp [show ¬ i < c by omega]
theorem died_bc {p q : Nat → Bool} {c : Nat} (hc : c ≤ 12) : bcF (mkS p c &&& (mkS q c ^^^ (-1))) = memF (mkS p c &&& (mkS q c ^^^ (-1))) := mem_bc fun i hi h12 => by
  rw [b_and, mkS_hi p hc i hi h12]
  rfl
theorem mkS_0lt {p : Nat → Bool} {c : Nat} (hc : c ≤ 12) : (0 : Int32) < mkS p c ↔ ¬ mkS p c = 0 := by
  obtain ⟨n, -, e, h4⟩ := set_nI (x := mkS p c) hc (fun i hi hci => by
    rw [bt_mkS p hi c (by omega)]
    simp [show ¬ i < c by omega])
  rw [e]
  constructor
  · intro h1 h2
    rw [h2] at h1
    exact absurd h1 (by decide)
  · intro h1
    have : n ≠ 0 := fun z => h1 (by rw [z]; rfl)
    exact nI_lt (a := 0) (by omega) (by omega)
theorem op_trim : zSt2 zRel f_X11_trim f_X12_trim := by
  intro s n Sx Sm h
  obtain ⟨st, pl, tp, pa, c, hH, hA, hI, hN, hB, hg, hO, ho⟩ := rel_all h
  have hc := hN.1
  obtain ⟨-, hst, -, -, -, p1, p2, -⟩ := id hH
  show zSame _ _
  unfold f_X11_trim f_X12_trim f_X12_stake
  rw [isIn_spec, zb_def, isStakeX p1, isStakeM hst p2, zb_def, z01, zb_def, z01]
  by_cases cs : ¬ s < 0 ∧ s < nI st
  · rw [if_pos cs, if_pos cs]
    by_cases c1 : n < 1
    · rw [if_pos c1, if_pos c1, if_pos rfl]; exact zsame h
    · rw [if_neg c1, if_neg c1]
      by_cases c2 : 99 < n
      · rw [if_pos c2, if_pos c2, if_pos rfl]; exact zsame h
      · rw [if_neg c2, if_neg c2, if_neg (show ¬ (1 : Int32) = 0 by decide)]
        have hn : isI 1 99 n := by
          rw [Int32.lt_iff_toInt_lt] at c1 c2
          rw [show (1 : Int32).toInt = 1 from rfl] at c1
          rw [show (99 : Int32).toInt = 99 from rfl] at c2
          exact isI_of (by omega) (by omega)
        have hx : ∀ i, i < 32 → bt (mkS (liv (Sm.1 19)) c) i = (decide (i < c) && liv (Sm.1 19) i) := fun i hi => bt_mkS _ hi c (by omega)
        rw [(stdNowX hN hB hg.1 (fun b hb => (hg.2.2.2 b hb).1)).2, zb_def, onStX (N := Sm.1 19) hc (fun b hb => (hB b hb).1) hx, zb_def]
        have e96 : (zld Sm 0).1 20 96 = nI c := (zld_at Sm (by omega)).trans hN.2.1
        rw [loadM, zu_def, if_pos rfl, billsAtM hc e96, zb_def, livNowM hc hN.2.1, zb_def, mkS_and (by omega), zb_def]
        have eset : mkS (fun b => decide ((zld Sm 0).1 20 (8 * b + 2) = s) && liv (Sm.1 19) b) c = mkS (fun b => liv (Sm.1 19) b && decide (Sm.1 19 (8 * b + 2) = s)) c := mkS_congr fun b hb => by
          rw [zld_at Sm (by omega), Bool.and_comm]
        rw [eset]
        have hlt := mkS_0lt (p := fun b => liv (Sm.1 19) b && decide (Sm.1 19 (8 * b + 2) = s)) hc
        generalize mkS (fun b => liv (Sm.1 19) b && decide (Sm.1 19 (8 * b + 2) = s)) c = w at hlt ⊢
        by_cases hw : w = 0
        · rw [if_pos hw, if_neg (fun z => hlt.mp z hw)]
          exact zsame (zld_rel h)
        · rw [if_neg hw, if_pos (hlt.mpr hw)]
          have h' : zRel Sx (zld Sm 0) := zld_rel h
          obtain ⟨U1, eU, kU, u0⟩ := rel_act h'
          have hU19 : U1.1 19 = Sm.1 19 := kU.2 19 (by decide)
          have l19 : ∀ i, i < 99 → (zld U1 0).1 20 i = Sm.1 19 i := fun i hi => by rw [zld_at U1 hi, hU19]
          have hok0 : bOk st pl tp c ((zld U1 0).1 20) := bOk_congr (ok_b hN) l19
          obtain ⟨T, U, eT, eV, kT, kV, hg1, hok1, hf⟩ := cut37 (S := Sx) (M := zld U1 0) (s := s) hn (fun o ho => by rw [l19 _ (by omega)]; exact (hB o ho).1) (gR_congr hc hg l19) hok0
          rw [eU, zu_def, loadM, zu_def, livM hc hok0.2.1, zb_def, eT, zu_def, eV, zu_def]
          obtain ⟨V, eW, kW, hV⟩ := keepM U
          rw [eW, zu_def]
          have kM : kp [0, 8, 9, 19, 20, 21, 22, 24, 25, 26, 27, 33, 34, 35] (zld Sm 0) V := kp_trans (kp_trans (kp_trans (kp_in kU (by decide)) (kp_in (kp_zld U1) (by decide))) (kp_in kV (by decide))) (kp_in kW (by decide))
          have v0 : V.1 0 = U1.1 0 := by rw [kW.2 0 (by decide), kV.2 0 (by decide)]; rfl
          have v21 : V.1 21 = U1.1 21 := by rw [kW.2 21 (by decide), kV.2 21 (by decide)]; rfl
          have hfx : ∀ i, i < 99 → i % 8 ≠ 0 ∨ 96 ≤ i → V.1 19 i = Sm.1 19 i := fun i hi h8 => by rw [hV i hi, hf i h8, l19 i hi]
          have hN' : okN st pl tp c (V.1 19) := by
            refine ok_of (bOk_congr hok1 hV) ?_ ?_
            · rw [hfx 97 (by omega) (by omega)]; exact hN.2.2.1
            · rw [hfx 98 (by omega) (by omega)]; exact hN.2.2.2.1
          obtain ⟨T', eT', kT', hA'⟩ := rA_new (Sm := zld Sm 0) (T := T) (U := V) (U1 := U1) (c := c) (c' := c) hA hN.2.1 hc (Nat.le_refl _) hN' (by
            rw [kT.2 14 (by decide), kT.2 15 (by decide), kT.2 16 (by decide), kT.2 17 (by decide), kT.2 18 (by decide), kT.2 19 (by decide)]
            exact rB_congr hB fun o j ho h2 h8 => hfx _ (by omega) (by omega)) (fun o ho => by
            rw [kT.2 14 (by decide), kT.2 15 (by decide), kT.2 16 (by decide), kT.2 17 (by decide), kT.2 18 (by decide), kT.2 19 (by decide)]
            exact ⟨rfl, rfl, rfl, rfl, rfl, rfl⟩) (kT.2 43 (by decide)) (kT.2 44 (by decide)) (rG_of_gR hN'.2.1 (gR_congr hc hg1 hV) hc) (by rw [kT.2 14 (by decide), kT.2 20 (by decide)]; exact ho) eU v21 v0
          have t0 : T'.1 37 0 = nI c := by rw [kT'.2 37 (by decide)]; exact hg1.1
          have eL : mkS (fun b => decide (0 < T'.1 38 b)) c = mkS (liv (V.1 20)) c := mkS_congr fun b hb => by
            rw [kT'.2 38 (by decide), (hg1.2.2.2 b hb).1, kW.2 20 (by decide)]
            rfl
          have e0 : mkS (liv ((zld U1 0).1 20)) c = mkS (liv (Sm.1 19)) c := mkS_congr (liv_congr l19 hc)
          have e96V : V.1 20 96 = nI c := by rw [kW.2 20 (by decide)]; exact hok1.2.1
          rw [eT', zu_def, livX37 hc t0, zb_def, eL, bcX, zb_def, livM hc e96V, zb_def, memM, zb_def, e0, died_bc hc]
          refine zsame (zRel_act h' (kp_trans (kp_in kT (by decide)) (kp_in kT' (by decide))) (kp_in kM (by decide)) (fun i h1 h2 => by rw [v0]; exact u0 i h1 h2) ?_ hH hI hA')
          rw [kT'.2 14 (by decide), kT.2 14 (by decide)]
          exact hO
  · rw [if_neg cs, if_neg cs, zb_def, if_neg (show ¬ (0 : Int32) < -1 by decide), ite_self]; exact zsame h
theorem seed_is {s : Int32} (h : isI 0 999 s) : isI 0 999 (zrem (s * 137 + 71) 1000) := by
  obtain ⟨n, rfl, h1, h2⟩ := isI_nI h (by omega) (by omega)
  have e : nI n * 137 + 71 = nI (n * 137 + 71) := by rw [show (137 : Int32) = nI 137 from rfl, show (71 : Int32) = nI 71 from rfl, pk_mul, nI_add]
  rw [e]
  have e2 : zrem (nI (n * 137 + 71)) 1000 = nI ((n * 137 + 71) % 1000) := pk_rem (d := 1000) (by omega) (by omega) (by omega)
  rw [e2]
  exact isI_of (by rw [nI_toInt (by omega)]; omega) (by rw [nI_toInt (by omega)]; omega)
theorem op_year : zSt0 zRel f_X11_year f_X12_year := by
  intro Sx Sm h
  obtain ⟨st, pl, tp, pa, c, hH, hA, hI, hN, hB, hg, hO, ho⟩ := rel_all h
  obtain ⟨-, -, -, -, hF, -⟩ := id h
  have hc := hN.1
  obtain ⟨-, hst, hpl, htp, -, p1, p2, -, -, p5, p6, -, -, -, q1, q2, q3, ⟨hb, -, q4, q5⟩, -⟩ := id hH
  show zSame _ _
  unfold f_X11_year f_X12_year
  rw [hg.2.1, show Int32.toNatClampNeg 97 = 97 from rfl]
  obtain ⟨y, ey, hy1, hy2⟩ := isI_nI hN.2.2.1 (by omega) (by omega)
  rw [ey]
  by_cases h9 : y = 999
  · subst h9
    rw [if_neg (by decide), if_pos (show nI 999 = 999 from rfl)]; exact zsame h
  · rw [if_pos (show nI y < 999 from nI_lt (b := 999) (by omega) (by omega)), if_neg (show ¬ nI y = 999 from fun z => h9 ((nI_eq (b := 999) (by omega) (by omega)).mp z))]
    obtain ⟨U1, eU, kU, u0⟩ := rel_act h
    have hU19 : U1.1 19 = Sm.1 19 := kU.2 19 (by decide)
    have l19 : ∀ i, i < 99 → (zld U1 0).1 20 i = Sm.1 19 i := fun i hi => by rw [zld_at U1 hi, hU19]
    have hok0 : bOk st pl tp c ((zld U1 0).1 20) := bOk_congr (ok_b hN) l19
    have z0 : (zld U1 0).1 0 = U1.1 0 := rfl
    have z5 : (zld U1 0).1 5 = Sm.1 5 := kU.2 5 (by decide)
    have z6 : (zld U1 0).1 6 = Sm.1 6 := kU.2 6 (by decide)
    have z17 : (zld U1 0).1 17 = Sm.1 17 := kU.2 17 (by decide)
    obtain ⟨T, U, eT, eV, kT, kV, hg1, hok1, hf, h97, h98⟩ := year37 (S := Sx) (M := zld U1 0) (hb := hb) (y := (zld U1 0).1 20 97) (s := (zld U1 0).1 20 98) hst hpl (by
      rw [z0, z5, z6, u0 21 (by decide) (by decide), u0 18 (by decide) (by decide), u0 52 (by decide) (by decide)]; exact hF) (by rw [z0, u0 46 (by decide) (by decide)]; exact q1) (by rw [z0, u0 47 (by decide) (by decide)]; exact q3) (by rw [z0, u0 47 (by decide) (by decide)]; exact q2) q4 (by rw [z17]; exact q5) (fun o ho => by rw [l19 _ (by omega)]; exact (hB o ho).1) (fun o ho => by rw [l19 _ (by omega)]; exact (hB o ho).2.1) ⟨kp_rfl _ _, kp_rfl _ _, gR_congr hc hg l19, hok0, fun _ _ _ _ _ => rfl, rfl, rfl⟩
    have eL0 := (stdNowX hN hB hg.1 (fun b hb => (hg.2.2.2 b hb).1)).2
    rw [eL0, zb_def, eT, zu_def, eU, zu_def, loadM, zu_def, eV, zb_def]
    obtain ⟨V, eW, kW, hV⟩ := keepM U
    rw [eW, zu_def]
    have v0 : V.1 0 = U1.1 0 := by rw [kW.2 0 (by decide), kV.2 0 (by decide)]; rfl
    have v21 : V.1 21 = U1.1 21 := by rw [kW.2 21 (by decide), kV.2 21 (by decide)]; rfl
    have kM : kp [0, 8, 9, 19, 20, 21] Sm V := kp_trans (kp_trans (kp_trans (kp_in kU (by decide)) (kp_in (kp_zld U1) (by decide))) (kp_in kV (by decide))) (kp_in kW (by decide))
    have hfx : ∀ b j, b < c → 2 ≤ j → j < 8 → V.1 19 (8 * b + j) = Sm.1 19 (8 * b + j) := fun b j hb h2 h8 => by rw [hV _ (by omega), hf b j hb h2 h8, l19 _ (by omega)]
    have hN' : okN st pl tp c (V.1 19) := by
      refine ok_of (bOk_congr hok1 hV) ?_ ?_
      · rw [hV 97 (by omega), h97, l19 97 (by omega), ey, nI_1]
        exact isI_of (by rw [nI_toInt (by omega)]; omega) (by rw [nI_toInt (by omega)]; omega)
      · rw [hV 98 (by omega), h98, l19 98 (by omega)]
        exact seed_is hN.2.2.2.1
    obtain ⟨T', eT', kT', hA'⟩ := rA_new (T := T) (U := V) (U1 := U1) (c := c) (c' := c) hA hN.2.1 hc (Nat.le_refl _) hN' (by
      rw [kT.2 14 (by decide), kT.2 15 (by decide), kT.2 16 (by decide), kT.2 17 (by decide), kT.2 18 (by decide), kT.2 19 (by decide)]
      exact rB_congr hB fun o j ho h2 h8 => hfx o j ho h2 h8) (fun o ho => by
      rw [kT.2 14 (by decide), kT.2 15 (by decide), kT.2 16 (by decide), kT.2 17 (by decide), kT.2 18 (by decide), kT.2 19 (by decide)]
      exact ⟨rfl, rfl, rfl, rfl, rfl, rfl⟩) (kT.2 43 (by decide)) (kT.2 44 (by decide)) (rG_of_gR hN'.2.1 (gR_congr hc hg1 hV) hc) (by rw [kT.2 14 (by decide), kT.2 20 (by decide)]; exact ho) eU v21 v0
    have t0 : T'.1 37 0 = nI c := by rw [kT'.2 37 (by decide)]; exact hg1.1
    have eL : mkS (fun b => decide (0 < T'.1 38 b)) c = mkS (liv (U.1 20)) c := mkS_congr fun b hb => by
      rw [kT'.2 38 (by decide), (hg1.2.2.2 b hb).1]
      rfl
    have e0 : mkS (liv ((zld U1 0).1 20)) c = mkS (liv (Sm.1 19)) c := mkS_congr (liv_congr l19 hc)
    rw [eT', zu_def, livX37 hc t0, zb_def, eL, bcX, zb_def, e0, died_bc hc]
    refine zsame (zRel_act h (kp_trans (kp_in kT (by decide)) (kp_in kT' (by decide))) (kp_in kM (by decide)) (fun i h1 h2 => by rw [v0]; exact u0 i h1 h2) ?_ hH hI hA')
    rw [kT'.2 14 (by decide), kT.2 14 (by decide)]
    exact hO
