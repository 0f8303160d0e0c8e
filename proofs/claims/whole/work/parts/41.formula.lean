/-! ===== how much a bill grows: both formulas ===== -/
theorem join_done (v x y : Int32) (hv : v = -7 ∨ v = -8 ∨ v = -9 ∨ v = -10 ∨ v = -11 ∨ v = -12 ∨ v = -13 ∨ v = -14 ∨ v = -15 ∨ v = -16) (S S' : zS) : ∃ r, f_X2_joined v x y S = some (r, S) ∧ f_X12_done (marg v) x y S' = some (r, S') := by
  unfold f_X2_joined f_X12_done f_X12_done_B211 f_X12_done_B166 f_X12_done_B194 f_X12_done_B180 f_X12_done_B228
  rw [truth0, truth1, zb_def, zb_def]
  rcases hv with rfl | rfl | rfl | rfl | rfl | rfl | rfl | rfl | rfl | rfl
  · rw [show marg (-7) = 124 by decide]
    refine ⟨if x = 0 then (if y = 0 then 0 else 1) else 1, ?_, ?_⟩
    · rw [if_neg (by decide), if_neg (by decide), if_neg (by decide), if_neg (by decide), if_neg (by decide), if_neg (by decide), if_neg (by decide), if_neg (by decide), if_pos rfl]
      by_cases h1 : x = 0
      · by_cases h2 : y = 0 <;> simp [h1, h2]
      · simp [h1]
    · rw [if_neg (by decide), if_neg (by decide), if_neg (by decide), if_neg (by decide), if_neg (by decide), if_neg (by decide), if_neg (by decide), if_neg (by decide), if_neg (by decide)]
      by_cases h1 : x = 0
      · by_cases h2 : y = 0 <;> simp [h1, h2]
      · simp [h1]
  · rw [show marg (-8) = 38 by decide]
    refine ⟨if x = 0 then 0 else (if y = 0 then 0 else 1), ?_, ?_⟩
    · rw [if_neg (by decide), if_neg (by decide), if_neg (by decide), if_neg (by decide), if_neg (by decide), if_neg (by decide), if_neg (by decide), if_pos rfl]
      by_cases h1 : x = 0
      · simp [h1]
      · by_cases h2 : y = 0 <;> simp [h1, h2]
    · rw [if_neg (by decide), if_pos rfl]
      by_cases h1 : x = 0
      · simp [h1]
      · by_cases h2 : y = 0 <;> simp [h1, h2]
  · rw [show marg (-9) = 60 by decide]
    refine ⟨if x < y then 1 else 0, ?_, ?_⟩
    · rw [if_neg (by decide), if_neg (by decide), if_neg (by decide), if_neg (by decide), if_neg (by decide), if_neg (by decide), if_pos rfl]
      by_cases h1 : x < y <;> simp [h1]
    · rw [if_neg (by decide), if_neg (by decide), if_neg (by decide), if_neg (by decide), if_neg (by decide), if_neg (by decide), if_pos rfl]
      by_cases h1 : x < y <;> simp [h1]
  · rw [show marg (-10) = 62 by decide]
    refine ⟨if y < x then 1 else 0, ?_, ?_⟩
    · rw [if_neg (by decide), if_neg (by decide), if_neg (by decide), if_neg (by decide), if_neg (by decide), if_pos rfl]
      by_cases h1 : y < x <;> simp [h1]
    · rw [if_neg (by decide), if_neg (by decide), if_neg (by decide), if_neg (by decide), if_neg (by decide), if_neg (by decide), if_neg (by decide), if_neg (by decide), if_pos rfl]
      by_cases h1 : y < x <;> simp [h1]
  · rw [show marg (-11) = 61 by decide]
    refine ⟨if x = y then 1 else 0, ?_, ?_⟩
    · rw [if_neg (by decide), if_neg (by decide), if_neg (by decide), if_neg (by decide), if_pos rfl]
      by_cases h1 : x = y <;> simp [h1]
    · rw [if_neg (by decide), if_neg (by decide), if_neg (by decide), if_neg (by decide), if_neg (by decide), if_neg (by decide), if_neg (by decide), if_pos rfl]
      by_cases h1 : x = y <;> simp [h1]
  · rw [show marg (-12) = 43 by decide]
    exact ⟨_, rfl, rfl⟩
  · rw [show marg (-13) = 45 by decide]
    exact ⟨_, rfl, rfl⟩
  · rw [show marg (-14) = 42 by decide]
    exact ⟨_, rfl, rfl⟩
  · rw [show marg (-15) = 47 by decide]
    refine ⟨if y = 0 then 0 else x / y, ?_, ?_⟩
    · rw [if_pos rfl]
      by_cases h1 : y = 0 <;> simp [h1]
    · rw [if_neg (by decide), if_neg (by decide), if_neg (by decide), if_neg (by decide), if_neg (by decide), if_pos rfl]
      by_cases h1 : y = 0 <;> simp [h1]
  · rw [show marg (-16) = 37 by decide]
    refine ⟨if y = 0 then 0 else zrem x y, ?_, ?_⟩
    · rw [if_neg (by decide), if_neg (by decide), if_neg (by decide), if_neg (by decide), if_neg (by decide), if_neg (by decide), if_neg (by decide), if_neg (by decide), if_neg (by decide)]
      by_cases h1 : y = 0 <;> simp [h1]
    · rw [if_pos rfl]
      by_cases h1 : y = 0 <;> simp [h1]
/-- only the cells in l were changed -/
def kp (l : List Nat) (S T : zS) : Prop := T.2 = S.2 ∧ ∀ k, k ∉ l → T.1 k = S.1 k
theorem kp_rfl (l : List Nat) (S : zS) : kp l S S := ⟨rfl, fun _ _ => rfl⟩
theorem kp_trans {l : List Nat} {S T U : zS} (h : kp l S T) (h' : kp l T U) : kp l S U := ⟨h'.1.trans h.1, fun k hk => (h'.2 k hk).trans (h.2 k hk)⟩
theorem kp_put {l : List Nat} {S : zS} {k i : Nat} {x : Int32} (h : k ∈ l) : kp l S (zput S k i x) := ⟨rfl, fun k' hk => zput1_ne S k i k' x (fun z => hk (z ▸ h))⟩
theorem kp_sub {l l' : List Nat} {S T : zS} (h : kp l S T) (hl : ∀ k, k ∈ l → k ∈ l') : kp l' S T := ⟨h.1, fun k hk => h.2 k (fun z => hk (hl k z))⟩
theorem formula {T U : zS} {a0 a1 a2 a3 a4 : Int32} (hF : rFm (T.1 9 0) (T.1 9 1) (U.1 0 21) (U.1 0 18) (U.1 0 52) (T.1 10) (U.1 5) (U.1 6)) (u0 : U.1 9 0 = a0) (u1 : U.1 9 1 = a1) (u2 : U.1 9 2 = a2) (u3 : U.1 9 3 = a3) (u4 : U.1 9 4 = a4) : ∃ v T' U', f_X2_result_9 a0 a1 a2 a3 a4 T = some (v, T') ∧ f_X12_grown U = some (v, U') ∧ kp [11, 12] T T' ∧ kp [8] U U' := by
  obtain ⟨len, un, hlen, hun, e1, e2, e3, e4, e5, e6, hst⟩ := hF
  unfold f_X2_result_9 f_X12_grown
  rw [e5]
  simp only [zlet_def, show Int32.toNatClampNeg 0 = 0 from rfl, show Int32.toNatClampNeg 1 = 1 from rfl, show Int32.toNatClampNeg 2 = 2 from rfl, show Int32.toNatClampNeg 3 = 3 from rfl, show Int32.toNatClampNeg 4 = 4 from rfl]
  generalize hT5 : zput (zput (zput (zput (zput T 11 0 a0) 11 1 a1) 11 2 a2) 11 3 a3) 11 4 a4 = T5
  have k5 : kp [11, 12] T T5 := by
    rw [← hT5]
    repeat (refine kp_trans ?_ (kp_put (by decide)))
    exact kp_rfl _ T
  have g0 : T5.1 11 0 = a0 := by rw [← hT5]; rfl
  have g1 : T5.1 11 1 = a1 := by rw [← hT5]; rfl
  have g2 : T5.1 11 2 = a2 := by rw [← hT5]; rfl
  have g3 : T5.1 11 3 = a3 := by rw [← hT5]; rfl
  have g4 : T5.1 11 4 = a4 := by rw [← hT5]; rfl
  clear hT5
  have el : T5.1 9 1 = nI len := by rw [k5.2 9 (by decide)]; exact e3
  by_cases h0 : len = 0
  · subst h0
    rw [if_pos rfl, if_pos rfl]
    refine ⟨0, T5, U, ?_, rfl, k5, kp_rfl _ U⟩
    rw [show zN = 9999 + 1 from rfl, f_X2_result_9_L43, el, if_neg (by decide)]
    unfold f_X2_result_9_B206
    rw [if_neg (by decide)]
  · rw [if_neg h0, if_neg (by decide)]
    have hC : T5.1 10 = T.1 10 := k5.2 10 (by decide)
    refine loopR (f := fun n (a : Int32 × zS) i => f_X2_result_9_L43 n a.1 (nI i) a.2) (f' := fun n (a : Int32 × zS) i => f_X12_grown_L13 n a.1 (nI i) a.2) (fun i a a' => ∃ d : Nat, (d : Int) = fdep (T.1 10) i ∧ d ≤ 31 ∧ a.1 = nI d ∧ a'.1 = nI d ∧ kp [12] T5 a.2 ∧ kp [8] U a'.2 ∧ ∀ j, j < d → a.2.1 12 j = a'.2.1 8 j) (fun o o' => ∃ v T' U', o = some (v, T') ∧ o' = some (v, U') ∧ kp [11, 12] T T' ∧ kp [8] U U') (c := len) ?_ ?_ len 0 zN zN (0, T5) (0, U) (by omega) (by show len < 10000; omega) (by show len < 10000; omega) ⟨0, rfl, by omega, rfl, rfl, kp_rfl _ _, kp_rfl _ _, fun j hj => absurd hj (by omega)⟩
    · rintro n n' ⟨x6, S⟩ ⟨x1, V⟩ i hi ⟨d, hd, hd31, h1, h2, kS, kV, hs⟩
      dsimp only at h1 h2 kS kV hs ⊢
      subst h1; subst h2
      obtain ⟨s5, s6, ⟨v, ev, v1, v2⟩, d1, d2, d3, d4⟩ := hst i hi
      have S91 : S.1 9 1 = nI len := by rw [kS.2 9 (by decide)]; exact el
      have S10 : S.1 10 i = T.1 10 i := by rw [kS.2 10 (by decide), hC]
      have S11 : S.1 11 = T5.1 11 := kS.2 11 (by decide)
      have V18 : V.1 0 18 = nI len := by rw [kV.2 0 (by decide)]; exact e4
      have V5 : V.1 5 i = mstep (T.1 10 i) := by rw [kV.2 5 (by decide)]; exact s5
      have V6 : V.1 6 i = marg (T.1 10 i) := by rw [kV.2 6 (by decide)]; exact s6
      have V9 : V.1 9 = U.1 9 := kV.2 9 (by decide)
      have l1 : nI i < nI len := nI_lt hi (by omega)
      have l2 : nI i < 272 := nI_lt (b := 272) (by omega) (by omega)
      have z2 : zin (nI i) 272 = True := zin_T (by omega) (by omega)
      have z3 : zin (nI i) 320 = True := zin_T (by omega) (by omega)
      have hcl : (nI i).toNatClampNeg = i := nI_clamp (by omega)
      have hcd : (nI d).toNatClampNeg = d := nI_clamp (by omega)
      have hfs : fdep (T.1 10) (i + 1) = fdep (T.1 10) i + (if ¬ T.1 10 i < -5 then 1 else if T.1 10 i = -6 then 0 else -1) := rfl
      have hpush : ∀ (val : Int32), d ≤ 30 → (-6 : Int32) < T.1 10 i → ¬ T.1 10 i < -5 → f_X2_result_9_L43 (n + 1) (nI d) (nI i) S = f_X2_result_9_L43 n (nI (d + 1)) (nI (i + 1)) (zput S 12 d val) → f_X12_grown_L13 (n' + 1) (nI d) (nI i) V = f_X12_grown_L13 n' (nI (d + 1)) (nI (i + 1)) (zput V 8 d val) → ∃ (p1 p2 : Int32 × zS), f_X2_result_9_L43 (n + 1) (nI d) (nI i) S = f_X2_result_9_L43 n p1.1 (nI (i + 1)) p1.2 ∧ f_X12_grown_L13 (n' + 1) (nI d) (nI i) V = f_X12_grown_L13 n' p2.1 (nI (i + 1)) p2.2 ∧ ∃ d : Nat, (d : Int) = fdep (T.1 10) (i + 1) ∧ d ≤ 31 ∧ p1.1 = nI d ∧ p2.1 = nI d ∧ kp [12] T5 p1.2 ∧ kp [8] U p2.2 ∧ ∀ j, j < d → p1.2.1 12 j = p2.2.1 8 j := by
        intro val hd30 hc1 hc2 q1 q2
        refine ⟨(nI (d + 1), zput S 12 d val), (nI (d + 1), zput V 8 d val), q1, q2, d + 1, ?_, by omega, rfl, rfl, kp_trans kS (kp_put (by decide)), kp_trans kV (kp_put (by decide)), fun j hj => ?_⟩
        · rw [hfs, if_pos hc2, ← hd]; rfl
        · show (zput S 12 d val).1 12 j = (zput V 8 d val).1 8 j
          rw [zput1_eq, zput1_eq]
          by_cases hjd : j = d
          · subst hjd; rw [upd_at, upd_at]
          · rw [upd_ne _ _ _ _ hjd, upd_ne _ _ _ _ hjd]; exact hs j (by omega)
      have hd32 : nI d < 32 := nI_lt (b := 32) (by omega) (by omega)
      have zd32 : zin (nI d) 32 = True := zin_T (by omega) (by omega)
      have zd64 : zin (nI d) 64 = True := zin_T (by omega) (by omega)
      rw [S10.symm] at s5
      generalize hc : T.1 10 i = C at *
      by_cases hv0 : 0 ≤ v
      · obtain ⟨m, hm, rfl⟩ : ∃ m : Nat, m ≤ 9999 ∧ v = (m : Int) := ⟨v.toNat, by omega, by omega⟩
        have eC : C = nI m := by
          rw [ev, ← Int32.toInt_inj, nI_toInt (by omega), Int32.toInt_ofInt_of_le (by omega) (by omega)]
        have c1 : (-6 : Int32) < C := by
          rw [eC, Int32.lt_iff_toInt_lt, nI_toInt (by omega)]
          have : (-6 : Int32).toInt = -6 := by decide
          omega
        have c2 : ¬ C < 0 := by rw [eC]; exact nI_not_neg (by omega)
        have c3 : ¬ C < -5 := fun z => c2 (Int32.lt_trans z (by decide))
        have m1 : mstep C = 0 := if_pos c2
        have m2 : marg C = C := if_pos c2
        rw [m1] at V5
        rw [m2] at V6
        refine hpush C (by omega) c1 c3 ?_ ?_
        · rw [f_X2_result_9_L43, S91, if_pos l1, if_pos l2, if_pos (of_eq_true z2), zlet_def, hcl, S10, if_pos c1, if_pos hd32, if_neg c2]
          unfold f_X2_result_9_B113
          rw [if_pos (of_eq_true zd32), zlet_def, hcd, zlet_def, zlet_def, nI_1, nI_1]
        · conv => lhs; rw [f_X12_grown_L13]
          simp only [V18, l1, z3, hcl, V5, V6, zd64, hcd, ↓reduceIte, zlet_def, nI_1, f_X12_grown_B40, f_X12_grown_B74]
      · by_cases hv5 : -5 ≤ v
        · have key : ∀ (j : Nat) (lit : Int32), j < 5 → C = lit → (-6 : Int32) < lit → lit < 0 → ¬ lit < -5 → lit ^^^ (-1) = nI j → mstep lit = 1 → marg lit = nI j → T5.1 11 j = U.1 9 j → ∃ (p1 p2 : Int32 × zS), f_X2_result_9_L43 (n + 1) (nI d) (nI i) S = f_X2_result_9_L43 n p1.1 (nI (i + 1)) p1.2 ∧ f_X12_grown_L13 (n' + 1) (nI d) (nI i) V = f_X12_grown_L13 n' p2.1 (nI (i + 1)) p2.2 ∧ ∃ d : Nat, (d : Int) = fdep (T.1 10) (i + 1) ∧ d ≤ 31 ∧ p1.1 = nI d ∧ p2.1 = nI d ∧ kp [12] T5 p1.2 ∧ kp [8] U p2.2 ∧ ∀ j, j < d → p1.2.1 12 j = p2.2.1 8 j := by
            intro j lit hj eC c1 c2 c3 c4 c5 c6 c7
            rw [eC, c5] at V5
            rw [eC, c6] at V6
            rw [eC] at S10
            have zj : zin (nI j) 5 = True := zin_T hj (by omega)
            have hcj : (nI j).toNatClampNeg = j := nI_clamp (by omega)
            refine hpush (T5.1 11 j) (by omega) (by rw [eC]; exact c1) (by rw [eC]; exact c3) ?_ ?_
            · rw [f_X2_result_9_L43, S91, if_pos l1, if_pos l2, if_pos (of_eq_true z2), zlet_def, hcl, S10, if_pos c1, if_pos hd32, if_pos c2, c4, if_pos (of_eq_true zj), hcj, S11]
              unfold f_X2_result_9_B113
              rw [if_pos (of_eq_true zd32), zlet_def, hcd, zlet_def, zlet_def, nI_1, nI_1]
            · conv => lhs; rw [f_X12_grown_L13]
              simp only [V18, l1, z3, hcl, V5, V6, V9, zj, hcj, c7, zd64, hcd, show ¬ (1 : Int32) = 0 by decide, ↓reduceIte, zlet_def, nI_1, f_X12_grown_B40, f_X12_grown_B74]
          have hv : v = -1 ∨ v = -2 ∨ v = -3 ∨ v = -4 ∨ v = -5 := by omega
          rcases hv with rfl | rfl | rfl | rfl | rfl
          · exact key 0 (-1) (by decide) (ev.trans (by decide)) (by decide) (by decide) (by decide) (by decide) (by decide) (by decide) (by rw [g0, u0])
          · exact key 1 (-2) (by decide) (ev.trans (by decide)) (by decide) (by decide) (by decide) (by decide) (by decide) (by decide) (by rw [g1, u1])
          · exact key 2 (-3) (by decide) (ev.trans (by decide)) (by decide) (by decide) (by decide) (by decide) (by decide) (by decide) (by rw [g2, u2])
          · exact key 3 (-4) (by decide) (ev.trans (by decide)) (by decide) (by decide) (by decide) (by decide) (by decide) (by decide) (by rw [g3, u3])
          · exact key 4 (-5) (by decide) (ev.trans (by decide)) (by decide) (by decide) (by decide) (by decide) (by decide) (by decide) (by rw [g4, u4])
        · by_cases hv6 : v = -6
          · subst hv6
            have eC : C = -6 := ev.trans (by decide)
            have hd1 : 1 ≤ d := by have := d3 eC; omega
            rw [eC, show mstep (-6) = 2 by decide] at V5
            rw [eC] at S10
            have ed : nI d - 1 = nI (d - 1) := by rw [show (1 : Int32) = nI 1 from rfl, pk_sub hd1]
            have z1 : zin (nI (d - 1)) 32 = True := zin_T (by omega) (by omega)
            have z64 : zin (nI (d - 1)) 64 = True := zin_T (by omega) (by omega)
            have hcd1 : (nI (d - 1)).toNatClampNeg = d - 1 := nI_clamp (by omega)
            have hp : (0 : Int32) < nI d := nI_lt (a := 0) (by omega) (by omega)
            have hsd := hs (d - 1) (by omega)
            refine ⟨(nI d, zput S 12 (d - 1) (if S.1 12 (d - 1) = 0 then 1 else 0)), (nI d, zput V 8 (d - 1) (if S.1 12 (d - 1) = 0 then 1 else 0)), ?_, ?_, d, ?_, hd31, rfl, rfl, kp_trans kS (kp_put (by decide)), kp_trans kV (kp_put (by decide)), fun j hj => ?_⟩
            · rw [f_X2_result_9_L43, S91, if_pos l1, if_pos l2, if_pos (of_eq_true z2), zlet_def, hcl, S10, if_neg (show ¬ (-6 : Int32) < -6 by decide), if_pos rfl, if_pos hp, ed, if_pos (of_eq_true z1), hcd1]
              unfold f_X2_result_9_B157
              rw [if_pos (of_eq_true z1), if_pos (of_eq_true z1), zlet_def, zlet_def, zlet_def, zlet_def, hcd1, nI_1]
              by_cases hz : S.1 12 (d - 1) = 0
              · rw [if_pos hz, if_pos hz]
              · rw [if_neg hz, if_neg hz]
            · conv => lhs; rw [f_X12_grown_L13]
              simp only [V18, l1, z3, hcl, V5, ed, z64, hcd1, show ¬ (2 : Int32) = 0 by decide, show ¬ (2 : Int32) = 1 by decide, ↓reduceIte, zlet_def, nI_1, f_X12_grown_B114, truth0, truth1, zb_def, ← hsd]
              by_cases hz : S.1 12 (d - 1) = 0 <;> simp [hz]
            · rw [hfs, eC, if_neg (by decide), if_pos rfl, ← hd]; omega
            · show (zput S 12 _ _).1 12 j = (zput V 8 _ _).1 8 j
              rw [zput1_eq, zput1_eq]
              by_cases hjd : j = d - 1
              · subst hjd; rw [upd_at, upd_at]
              · rw [upd_ne _ _ _ _ hjd, upd_ne _ _ _ _ hjd]; exact hs j hj
          · have hC10 : C = -7 ∨ C = -8 ∨ C = -9 ∨ C = -10 ∨ C = -11 ∨ C = -12 ∨ C = -13 ∨ C = -14 ∨ C = -15 ∨ C = -16 := by
              have hv : v = -7 ∨ v = -8 ∨ v = -9 ∨ v = -10 ∨ v = -11 ∨ v = -12 ∨ v = -13 ∨ v = -14 ∨ v = -15 ∨ v = -16 := by omega
              rcases hv with rfl | rfl | rfl | rfl | rfl | rfl | rfl | rfl | rfl | rfl
              · exact Or.inl (ev.trans (by decide))
              · exact Or.inr (Or.inl (ev.trans (by decide)))
              · exact Or.inr (Or.inr (Or.inl (ev.trans (by decide))))
              · exact Or.inr (Or.inr (Or.inr (Or.inl (ev.trans (by decide)))))
              · exact Or.inr (Or.inr (Or.inr (Or.inr (Or.inl (ev.trans (by decide))))))
              · exact Or.inr (Or.inr (Or.inr (Or.inr (Or.inr (Or.inl (ev.trans (by decide)))))))
              · exact Or.inr (Or.inr (Or.inr (Or.inr (Or.inr (Or.inr (Or.inl (ev.trans (by decide))))))))
              · exact Or.inr (Or.inr (Or.inr (Or.inr (Or.inr (Or.inr (Or.inr (Or.inl (ev.trans (by decide)))))))))
              · exact Or.inr (Or.inr (Or.inr (Or.inr (Or.inr (Or.inr (Or.inr (Or.inr (Or.inl (ev.trans (by decide))))))))))
              · exact Or.inr (Or.inr (Or.inr (Or.inr (Or.inr (Or.inr (Or.inr (Or.inr (Or.inr (ev.trans (by decide))))))))))
            have hfacts : C < -6 ∧ ¬ (-6 : Int32) < C ∧ ¬ C = -6 ∧ C < -5 ∧ mstep C = 3 := by
              rcases hC10 with rfl | rfl | rfl | rfl | rfl | rfl | rfl | rfl | rfl | rfl <;> decide
            obtain ⟨f1, f2, f3, f4, f5⟩ := hfacts
            have hd2 : 2 ≤ d := by have := d4 f1; omega
            rw [f5] at V5
            have ed1 : nI d + (-1) = nI (d - 1) := by
              have := pk_m1 (d - 1)
              rwa [show d - 1 + 1 = d by omega] at this
            have ed2 : nI (d - 1) - 1 = nI (d - 2) := by rw [show (1 : Int32) = nI 1 from rfl, pk_sub (by omega), show d - 1 - 1 = d - 2 by omega]
            have z1 : zin (nI (d - 1)) 32 = True := zin_T (by omega) (by omega)
            have z12 : zin (nI (d - 2)) 32 = True := zin_T (by omega) (by omega)
            have z64 : zin (nI (d - 1)) 64 = True := zin_T (by omega) (by omega)
            have z642 : zin (nI (d - 2)) 64 = True := zin_T (by omega) (by omega)
            have hcd1 : (nI (d - 1)).toNatClampNeg = d - 1 := nI_clamp (by omega)
            have hcd2 : (nI (d - 2)).toNatClampNeg = d - 2 := nI_clamp (by omega)
            have hp : (1 : Int32) < nI d := nI_lt (a := 1) (by omega) (by omega)
            have hs1 := hs (d - 1) (by omega)
            have hs2 := hs (d - 2) (by omega)
            obtain ⟨r, j1, j2⟩ := join_done C (S.1 12 (d - 2)) (S.1 12 (d - 1)) hC10 S V
            refine ⟨(nI (d - 1), zput S 12 (d - 2) r), (nI (d - 1), zput V 8 (d - 2) r), ?_, ?_, d - 1, ?_, by omega, rfl, rfl, kp_trans kS (kp_put (by decide)), kp_trans kV (kp_put (by decide)), fun j hj => ?_⟩
            · rw [f_X2_result_9_L43, S91, if_pos l1, if_pos l2, if_pos (of_eq_true z2), zlet_def, hcl, S10, if_neg f2, if_neg f3, if_pos hp, zlet_def, ed1, ed2, if_pos (of_eq_true z12), if_pos (of_eq_true z1), show f_X2_joined C (S.1 12 (nI (d - 2)).toNatClampNeg) (S.1 12 (nI (d - 1)).toNatClampNeg) S = some (r, S) by rw [hcd1, hcd2]; exact j1, zb_def, if_pos (of_eq_true z12), zlet_def, zlet_def, nI_1, hcd2]
            · conv => lhs; rw [f_X12_grown_L13]
              simp only [V18, l1, z3, hcl, V5, V6, ed1, ed2, z64, z642, hcd1, hcd2, show ¬ (3 : Int32) = 0 by decide, show ¬ (3 : Int32) = 1 by decide, show ¬ (3 : Int32) = 2 by decide, ↓reduceIte, zlet_def, nI_1, ← hs1, ← hs2, j2, zb_def]
            · rw [hfs, if_neg (by simp [f4]), if_neg f3, ← hd]; omega
            · show (zput S 12 _ _).1 12 j = (zput V 8 _ _).1 8 j
              rw [zput1_eq, zput1_eq]
              by_cases hjd : j = d - 2
              · subst hjd; rw [upd_at, upd_at]
              · rw [upd_ne _ _ _ _ hjd, upd_ne _ _ _ _ hjd]; exact hs j (by omega)
    · rintro n n' ⟨x6, S⟩ ⟨x1, V⟩ ⟨d, hd, hd31, h1, h2, kS, kV, hs⟩
      dsimp only at h1 h2 kS kV hs ⊢
      subst h1; subst h2
      have S91 : S.1 9 1 = nI len := by rw [kS.2 9 (by decide)]; exact el
      have V18 : V.1 0 18 = nI len := by rw [kV.2 0 (by decide)]; exact e4
      rw [e6 h0] at hd
      have hd1 : d = 1 := by omega
      subst hd1
      refine ⟨S.1 12 0, S, V, ?_, ?_, kp_trans k5 (kp_sub kS (by decide)), kV⟩
      · rw [f_X2_result_9_L43, S91, if_neg (nI_nlt (Nat.le_refl len) (by omega))]
        unfold f_X2_result_9_B206
        rw [if_pos (by decide), show nI 1 - 1 = nI 0 by decide, if_pos (show zin (nI 0) 32 from vp_in_nI (by omega) (by omega)), nI_clamp (by omega)]
      · rw [f_X12_grown_L13, V18, if_neg (nI_nlt (Nat.le_refl len) (by omega)), hs 0 (by omega), show Int32.toNatClampNeg 0 = 0 from rfl]
