/-! ===== plan: the pair ===== -/
theorem pF_some {st : Nat} {val : List Nat → Nat} : ∀ (r : Nat) (p : List Nat) (b : pB), pF st val r p b ≠ none
  | 0, p, b => by
    show pJ _ _ p b ≠ none
    unfold pJ
    match b with
    | none => simp [pBet]
    | some q =>
      by_cases h : pBet (val p) (cts p) (some q) = true
      · rw [if_pos h]; simp
      · rw [if_neg h]; simp
  | r + 1, p, b => foldN_keep (P := fun b => b ≠ none) st 1 (pF st val r (0 :: p) b) (fun b i _ _ _ => pF_some r (i :: p) b) (pF_some r (0 :: p) b)
theorem powM {st y : Nat} (hst : st ≤ 12) (hy : y ≤ 3) : (st + 1) ^ y ≤ 2197 := by
  have h1 : (st + 1) ^ y ≤ 13 ^ y := Nat.pow_le_pow_left (by omega) y
  have h2 : 13 ^ y ≤ 13 ^ 3 := Nat.pow_le_pow_right (by omega) hy
  omega
theorem rowsM {st y : Nat} {S : zS} {n : Int32} (hst : st ≤ 12) (hy : y ≤ 3) (e : S.1 0 42 = nI st) : f_X12_plan_L31 zN (nI y) n 1 0 S = f_X12_plan_L61 zN (nI y) n (nI ((st + 1) ^ y)) (-1) 0 0 S := by
  have := loopI (f := fun q (a : Int32) k => f_X12_plan_L31 q (nI y) n a (nI k) S) (fun k a => a = nI ((st + 1) ^ k)) (fun o => o = f_X12_plan_L61 zN (nI y) n (nI ((st + 1) ^ y)) (-1) 0 0 S) (c := y) ?_ ?_ y 0 zN 1 (by omega) (by show y < 10000; omega) rfl
  · exact this
  · rintro q a k hk rfl
    refine ⟨nI ((st + 1) ^ (k + 1)), ?_, rfl⟩
    show f_X12_plan_L31 (q + 1) (nI y) n _ (nI k) S = f_X12_plan_L31 q (nI y) n _ (nI (k + 1)) S
    rw [f_X12_plan_L31, if_pos (nI_lt hk (by omega)), e, nI_1, zlet_def, zlet_def, nI_1, pk_mul, Nat.pow_succ]
  · rintro q a rfl
    show f_X12_plan_L31 (q + 1) (nI y) n _ (nI y) S = _
    rw [f_X12_plan_L31, if_neg (nI_nlt (Nat.le_refl _) (by omega))]
theorem downX {S : zS} {k : Nat} {x : Int32} (hk : k < 3) (e : S.1 0 15 = nI k) : f_X11_layDown x S = some (zput (zput S 66 k x) 0 15 (nI (k + 1))) := by
  unfold f_X11_layDown
  rw [e, if_pos (show nI k < 3 from nI_lt (b := 3) hk (by omega)), if_pos (zinN hk (by omega)), zlet_def, zlet_def, nI_clamp (by omega), zput1_ne _ _ _ _ _ (show (0 : Nat) ≠ 66 by decide), e, nI_1]
theorem planLay {y : Nat} {S : zS} {x : Int32} (hy : y ≤ 3) (e : S.1 0 15 = 0) : ∃ T, f_X11_plan_L49 zN (nI y) x 0 S = some (x, T) ∧ kp [0, 66] S T ∧ (∀ i, i ≠ 15 → T.1 0 i = S.1 0 i) ∧ T.1 0 15 = nI y ∧ ∀ k, k < y → T.1 66 k = S.1 58 k := by
  refine loopI (f := fun q (V : zS) k => f_X11_plan_L49 q (nI y) x (nI k) V) (fun k V => kp [0, 66] S V ∧ (∀ i, i ≠ 15 → V.1 0 i = S.1 0 i) ∧ V.1 0 15 = nI k ∧ ∀ j, j < k → V.1 66 j = S.1 58 j) (fun o => ∃ T, o = some (x, T) ∧ kp [0, 66] S T ∧ (∀ i, i ≠ 15 → T.1 0 i = S.1 0 i) ∧ T.1 0 15 = nI y ∧ ∀ k, k < y → T.1 66 k = S.1 58 k) (c := y) ?_ ?_ y 0 zN S (by omega) (by show y < 10000; omega) ⟨kp_rfl _ _, fun _ _ => rfl, e, fun j hj => absurd hj (by omega)⟩
  · rintro q V k hk ⟨kV, h0, h15, h66⟩
    refine ⟨zput (zput V 66 k (V.1 58 k)) 0 15 (nI (k + 1)), ?_, kp_trans kV (kp_trans (kp_put (by decide)) (kp_put (by decide))), fun i hi => ?_, ?_, fun j hj => ?_⟩
    · rw [f_X11_plan_L49, if_pos (nI_lt hk (by omega))]
      unfold f_X9_stakeOf_56
      rw [if_neg (nI_not_neg (by omega)), if_pos (show nI k < 3 from nI_lt (b := 3) (by omega) (by omega)), if_pos (zinN (by omega) (by omega)), zb_def, nI_clamp (by omega), downX (by omega) h15, zu_def, zlet_def, nI_1]
    · rw [zput1_eq, upd_ne _ _ _ _ hi, zput1_ne _ _ _ _ _ (by decide)]
      exact h0 i hi
    · rw [zput1_eq, upd_at]
    · rw [zput1_ne _ _ _ _ _ (by decide), zput1_eq]
      by_cases hjk : j = k
      · subst hjk
        rw [upd_at, kV.2 58 (by decide)]
      · rw [upd_ne _ _ _ _ hjk]
        exact h66 j (by omega)
  · rintro q V ⟨kV, h0, h15, h66⟩
    refine ⟨V, ?_, kV, h0, h15, h66⟩
    show f_X11_plan_L49 (q + 1) (nI y) x (nI y) V = _
    rw [f_X11_plan_L49, if_neg (nI_nlt (Nat.le_refl _) (by omega))]
theorem rng_nI {x : Int32} {lo hi : Nat} (hh : hi < 2 ^ 30) (h1 : ¬ x < nI lo) (h2 : ¬ nI hi < x) (hl : lo < 2 ^ 30) : ∃ y : Nat, lo ≤ y ∧ y ≤ hi ∧ x = nI y := by
  rw [Int32.lt_iff_toInt_lt, nI_toInt (by omega)] at h1 h2
  obtain ⟨y, hy, rfl⟩ := nI_of (x := x) (by rw [Int32.lt_iff_toInt_lt, i0]; omega)
  rw [nI_toInt hy] at h1 h2
  exact ⟨y, by omega, by omega, rfl⟩
theorem lain0 {Sx Sm : zS} (h : zRel Sx Sm) : zRel (zput Sx 0 15 0) (zput Sm 0 60 0) := by
  refine zRel_lie h (kp_put (by decide)) (fun i hi => ?_) (kp_put (by decide)) (fun i h1 _ _ => ?_) ?_
  · rw [zput1_eq, upd_ne _ _ _ _ hi]
  · rw [zput1_eq, upd_ne _ _ _ _ h1]
  · exact ⟨0, by omega, rfl, rfl, fun i hi => absurd hi (by omega)⟩
theorem op_plan : zSt2 zRel f_X11_plan f_X12_plan := by
  intro a w Sx0 Sm0 h0
  show zSame _ _
  unfold f_X11_plan f_X12_plan
  rw [zlet_def, zlet_def, isIn_spec, zb_def]
  have h := lain0 h0
  have e15 : (zput Sx0 0 15 0).1 0 15 = 0 := by rw [zput1_eq, upd_at]
  generalize zput Sx0 0 15 0 = Sx at h e15 ⊢
  generalize zput Sm0 0 60 0 = Sm at h ⊢
  by_cases c1 : a < 1
  · rw [if_pos c1, if_pos c1, if_pos rfl]; exact zsame h
  · rw [if_neg c1, if_neg c1]
    by_cases c2 : 3 < a
    · rw [if_pos c2, if_pos c2, if_pos rfl]; exact zsame h
    · rw [if_neg c2, if_neg c2, if_neg (show ¬ (1 : Int32) = 0 by decide), isIn_spec, zb_def]
      by_cases c3 : w < 1
      · rw [if_pos c3, if_pos c3, if_pos rfl]; exact zsame h
      · rw [if_neg c3, if_neg c3]
        by_cases c4 : 99 < w
        · rw [if_pos c4, if_pos c4, if_pos rfl]; exact zsame h
        · rw [if_neg c4, if_neg c4, if_neg (show ¬ (1 : Int32) = 0 by decide)]
          obtain ⟨y, hy1, hy3, rfl⟩ := rng_nI (lo := 1) (hi := 3) (by omega) c1 c2 (by omega)
          obtain ⟨m, hm1, hm2, rfl⟩ := rng_nI (lo := 1) (hi := 99) (by omega) c3 c4 (by omega)
          have hn : isI 1 99 (nI m) := ⟨m, by omega, by omega, rfl⟩
          obtain ⟨st, pl, tp, pa, c, hH, hA, hI, hN, hB, hg, hO, ho⟩ := rel_all h
          obtain ⟨-, -, -, -, hF, -⟩ := id h
          have hc := hN.1
          obtain ⟨-, hst, hpl, htp, -, p1, p2, -, -, p5, p6, -, -, -, q1, q2, q3, ⟨hb, -, q4, q5⟩, -⟩ := id hH
          have hE : pE st pl c hb Sx Sm := ⟨hst, hpl, hF, q1, q3, q2, q4, q5, p1, p2, hB⟩
          have hS : pS st pl tp c (Sm.1 19) (Sm.1 19) := ⟨ok_b hN, fun _ _ _ _ _ => rfl⟩
          obtain ⟨U, eU, kU, okU, chU⟩ := planM hE hn hS hy3 (powM hst hy3)
          rw [rowsM hst hy3 p2, eU]
          unfold f_X9_best_56_5_37
          rw [zlet_def, zlet_def, zlet_def, zlet_def]
          have kp4 : kp [11, 12, 56, 57, 58, 59, 60, 61, 62] Sx (zput (zput (zput (zput Sx 56 0 (nI y)) 56 1 (nI m)) 56 2 (-1)) 56 3 0) := kp_trans (kp_trans (kp_trans (kp_put (by decide)) (kp_put (by decide))) (kp_put (by decide))) (kp_put (by decide))
          have r37 : rowG (zput (zput (zput (zput Sx 56 0 (nI y)) 56 1 (nI m)) 56 2 (-1)) 56 3 0) 37 = rowG Sx 37 := by
            funext i
            unfold rowG
            rw [kp4.2 37 (by decide), kp4.2 (37 + 1) (by decide), kp4.2 (37 + 2) (by decide)]
          obtain ⟨T1, e1, k1, r1⟩ := stX_37_59 (S := zput (zput (zput (zput Sx 56 0 (nI y)) 56 1 (nI m)) 56 2 (-1)) 56 3 0) (b := 0) (by omega)
          have hI0 : sInv y (nI m) Sx Sm c 0 [] none T1 := by
            refine ⟨kp_trans kp4 (kp_in k1 (by decide)), ?_, ?_, ?_, ?_, trivial, trivial, fun k hk => absurd hk (by omega), ?_⟩
            · rw [k1.2 56 (by decide)]; rfl
            · rw [k1.2 56 (by decide)]; rfl
            · rw [k1.2 56 (by decide)]; rfl
            · rw [k1.2 56 (by decide)]; rfl
            · refine rG_congr hc (rG_of_gR (T := Sx) (g := 37) hN.2.1 hg hc) fun i hi => ?_
              show T1.1 59 (0 * 27 + i) = _
              rw [r1, if_pos (by omega), r37, show 0 * 27 + i - 0 = i by omega]
          obtain ⟨T2, e2, i2, -⟩ := searchX hE hn hS hy3 y 0 5 [] T1 none rfl (by omega) (by omega) hI0
          obtain ⟨k2, w0, w1, w2, w3, w4, w5, -, -⟩ := i2
          obtain ⟨T3, e3, k3, t0, t15, t66⟩ := planLay (y := y) (S := T2) (x := eM (pF st (fun p => vlS c (pth Sm (nI m) (Sm.1 19) p)) y [] none)) hy3 (by rw [k2.2 0 (by decide)]; exact e15)
          have e1' : f_X3_store_37_59 0 (zput (zput (zput (zput Sx 56 0 (nI y)) 56 1 (nI m)) 56 2 (-1)) 56 3 0) = some T1 := e1
          have e2' : f_X9_search_56_5 5 0 0 T1 = some T2 := e2
          rw [e1', zu_def, e2', zu_def, zb_def, w2, e3]
          refine zsame (zRel_lie h (kp_trans (kp_in k2 (by decide)) (kp_in k3 (by decide))) (fun i hi => ?_) (kp_trans (kp_in kU (by decide)) (kp_put (by decide))) (fun i h60 _ _ => ?_) ?_)
          · rw [t0 i hi, k2.2 0 (by decide)]
          · rw [zput1_eq, upd_ne _ _ _ _ h60, kU.2 0 (by decide)]
          · refine ⟨y, hy3, t15, by rw [zput1_eq, upd_at], fun k hk => ?_⟩
            rw [t66 k hk, zput1_ne _ _ _ _ _ (by decide)]
            generalize hbb : pF st (fun p => vlS c (pth Sm (nI m) (Sm.1 19) p)) y [] none = bb at okU chU w5
            match bb, okU, chU, w5 with
            | none, _, _, _ => exact absurd hbb (pF_some _ _ _)
            | some (m', f', p'), ⟨_, _, hl⟩, chU, w5 =>
              exact (w5 k (by omega)).trans (chU k (by omega)).symm
