/-! ===== all lines ===== -/
theorem yX_9 {S T : zS} {x : Int32} (h : yX S T) : yX (zput S 2 9 x) (zput T 2 9 x) := ⟨fun k hk => by rw [zput1_ne _ _ _ _ _ hk, zput1_ne _ _ _ _ _ hk]; exact h.1 k hk, fun i hi => by
  rw [zput1_eq, zput1_eq]
  by_cases h9 : i = 9
  · rw [h9, upd_at, upd_at]
  · rw [upd_ne _ _ _ _ h9, upd_ne _ _ _ _ h9]; exact h.2.1 i hi, h.2.2⟩
theorem line279F {X M : zS} (h : flt X M) : f_X12_readLine_B279 M = some (zput M 0 48 1) := by
  have hf : ¬ (zput M 0 48 1).1 0 2 = 0 := (flt_pos h).2
  unfold f_X12_readLine_B279 f_X12_readLine_B305
  rw [zlet_def, if_neg hf, if_neg hf]
theorem allL {cb : Nat → Nat} {n : Nat} : ∀ (t fx fm q st pl tp bl pa ln hb : Nat) (g f d : Bool) (X M : zS), 1601 ≤ q + t → t < fx → t < fm → cur cb n q X M → pI st pl tp bl pa ln hb g f d X M → (ln = 0 → bl = 0) → ln ≤ q →
    (∃ X' M' q' st pl tp bl pa ln hb g f d, f_X7_readAll_2_21_L46 fx X = f_X7_readAll_2_21_B95 X' ∧ f_X12_readAll_L103 fm M = some M' ∧ pI st pl tp bl pa ln hb g f d X' M' ∧ cur cb n q' X' M' ∧ gX X X' ∧ gMf M M') ∨ ∃ X' M', f_X7_readAll_2_21_L46 fx X = some (0, X') ∧ f_X12_readAll_L103 fm M = some M' ∧ flt X' M' ∧ gX X X' ∧ gMf M M' := by
  intro t
  induction t with
  | zero =>
    intro fx fm q st pl tp bl pa ln hb g f d X M hq hfx hfm hc
    have := q_le hc
    omega
  | succ t ih =>
    intro fx fm q st pl tp bl pa ln hb g f d X M hq hfx hfm hc hI h0 hln
    obtain ⟨fx, rfl⟩ : ∃ j, fx = j + 1 := ⟨fx - 1, by omega⟩
    obtain ⟨fm, rfl⟩ : ∃ j, fm = j + 1 := ⟨fm - 1, by omega⟩
    have hq16 := q_le hc
    have e29 : X.1 2 9 = nI ln := hI.2.2.2.1.2.1
    have h16 : ¬ (1600 : Int32) < X.1 2 9 := by
      rw [e29]
      exact nI_nlt (b := ln) (a := 1600) (by omega) (by omega)
    rw [f_X7_readAll_2_21_L46, if_neg h16, f_X12_readAll_L103, if_pos hc.2.2.2.2.1]
    by_cases hend : X.1 2 6 = 0
    · left
      rw [if_pos hend, if_pos ((tk_end hc.2.1).mpr hend)]
      exact ⟨X, M, q, st, pl, tp, bl, pa, ln, hb, g, f, d, rfl, rfl, hI, hc, gX_rfl X, gMf_rfl M⟩
    · rw [if_neg hend, if_neg (fun z => hend ((tk_end hc.2.1).mp z))]
      obtain ⟨fm', hl, he⟩ := lineD hc hI h0
      rw [he]
      rcases hl with ⟨X1, M1, q1, st1, pl1, tp1, bl1, pa1, hb1, g1, f1, d1, y1, y2, y3, y4, y5, y6, y7⟩ | ⟨X', M', y1, y2, y3, y4, y5⟩
      · rw [y1, zb_def, if_neg (by decide), y2]
        have hcA : cur cb n q1 X1 (zput M1 0 48 1) := cur_M0 y4 (Or.inl (by decide))
        have hq1 := q_le y4
        have h591 : (zput M1 0 48 1).1 0 6 = 59 ↔ X1.1 2 6 = 3 ∧ X1.1 2 7 = 59 := tk_sgn hcA.2.1 (c := 59) (by decide)
        have e29' : X1.1 2 9 = nI ln := y3.2.2.2.1.2.1
        unfold f_X7_takeSign_2 f_X12_readLine_B279 f_X12_readLine_B305
        rw [signBX, zb_def, z01, zlet_def, if_pos hcA.2.2.2.2.1]
        by_cases h59 : X1.1 2 6 = 3 ∧ X1.1 2 7 = 59
        · obtain ⟨X2, M2, q2, s1, s2, s3, s4, s5, -, s6, -⟩ := stepC hcA (by rw [h59.1]; decide)
          have hq2 := s6 (by rw [h59.1]; decide)
          have e29'' : X2.1 2 9 = nI ln := by rw [s3.2.1 9 (by omega)]; exact e29'
          rw [if_pos h59, s1, zu_def, zb_def, if_neg (by decide), zlet_def, e29'', nI_1, if_pos (h591.mpr h59), if_pos hcA.2.2.2.2.1, s2, zu_def, zu_def]
          have hI2 := pI_y (pI_ln y3 (by omega)) (yX_9 (x := nI (ln + 1)) s3) s4
          have gx2 : gX X (zput X2 2 9 (nI (ln + 1))) := gX_trans (gX_trans y6 (gX_y s3)) (gX_put (Or.inl rfl) (by decide))
          have gm2 : gMf M M2 := gMf_trans (gMf_trans y7 (gMf_put0 (i := 48) (x := 1) (by decide))) (gMf_y s4)
          rcases ih fx fm q2 st1 pl1 tp1 bl1 pa1 (ln + 1) hb1 g1 f1 d1 _ M2 (by omega) (by omega) (by omega) (cur_X2 s5 (by decide)) hI2 (fun z => by omega) (by omega) with ⟨X', M', q', st', pl', tp', bl', pa', ln', hb', g', f', d', z1, z2, z3, z4, z5, z6⟩ | ⟨X', M', z1, z2, z3, z4, z5⟩
          · exact Or.inl ⟨X', M', q', st', pl', tp', bl', pa', ln', hb', g', f', d', z1, z2, z3, z4, gX_trans gx2 z5, gMf_trans gm2 z6⟩
          · exact Or.inr ⟨X', M', z1, z2, z3, gX_trans gx2 z4, gMf_trans gm2 z5⟩
        · right
          obtain ⟨X', M', r1, r2, r3⟩ := refuseC hcA
          obtain ⟨fm, rfl⟩ : ∃ j, fm = j + 1 := ⟨fm - 1, by omega⟩
          rw [if_neg h59, r1, zb_def, if_pos znb0, zb_def, if_pos rfl, if_neg (fun z => h59 (h591.mp z)), r2, zu_def, if_neg (flt_pos r3.1).2, zu_def, f_X12_readAll_L103, if_neg (flt_pos r3.1).2]
          exact ⟨X', M', rfl, rfl, r3.1, gX_trans y6 (gX_bad r3).1, gMf_trans (gMf_trans y7 (gMf_put0 (i := 48) (x := 1) (by decide))) (gX_bad r3).2⟩
      · right
        obtain ⟨fm, rfl⟩ : ∃ j, fm = j + 1 := ⟨fm - 1, by omega⟩
        have hf2 : flt X' (zput M' 0 48 1) := flt_e y3 rfl rfl
        rw [y1, zb_def, if_pos rfl, y2, line279F y3, zu_def, f_X12_readAll_L103, if_neg (flt_pos hf2).2]
        exact ⟨X', _, rfl, rfl, hf2, y4, gMf_trans y5 (gMf_put0 (by decide))⟩
theorem clr21 (S : zS) : ∃ T, f_X4_clear_21 S = some T ∧ kp [21, 24, 25] S T ∧ T.1 21 0 = 8 ∧ T.1 21 1 = 0 ∧ T.1 21 2 = 0 ∧ T.1 21 3 = 0 ∧ T.1 21 4 = 0 ∧ T.1 21 6 = 0 ∧ T.1 21 9 = 0 ∧ T.1 21 10 = 1 ∧ T.1 21 11 = 0 ∧ (∀ i, i < 12 → T.1 24 i = 0) ∧ T.1 25 0 = 0 ∧ T.1 25 1 = 0 := by
  unfold f_X4_clear_21
  rw [zlet_def, zlet_def, zlet_def, zlet_def, zlet_def, zlet_def]
  have k0 : kp [21, 24, 25] S (zput (zput (zput (zput (zput (zput S 21 0 8) 21 1 0) 21 2 0) 21 3 0) 21 4 0) 21 6 0) := kp_trans (kp_trans (kp_trans (kp_trans (kp_trans (kp_put (by decide)) (kp_put (by decide))) (kp_put (by decide))) (kp_put (by decide))) (kp_put (by decide))) (kp_put (by decide))
  have e0 : ∀ i, (zput (zput (zput (zput (zput (zput S 21 0 8) 21 1 0) 21 2 0) 21 3 0) 21 4 0) 21 6 0).1 21 i = upd (upd (upd (upd (upd (upd (S.1 21) 0 8) 1 0) 2 0) 3 0) 4 0) 6 0 i := fun i => rfl
  generalize zput (zput (zput (zput (zput (zput S 21 0 8) 21 1 0) 21 2 0) 21 3 0) 21 4 0) 21 6 0 = S1 at k0 e0
  refine loopI (f := fun q (V : zS) i => f_X4_clear_21_L33 q (nI i) V) (fun i V => kp [24] S1 V ∧ ∀ j, j < i → V.1 24 j = 0) (fun o => ∃ T, o = some T ∧ kp [21, 24, 25] S T ∧ T.1 21 0 = 8 ∧ T.1 21 1 = 0 ∧ T.1 21 2 = 0 ∧ T.1 21 3 = 0 ∧ T.1 21 4 = 0 ∧ T.1 21 6 = 0 ∧ T.1 21 9 = 0 ∧ T.1 21 10 = 1 ∧ T.1 21 11 = 0 ∧ (∀ i, i < 12 → T.1 24 i = 0) ∧ T.1 25 0 = 0 ∧ T.1 25 1 = 0) (c := 12) ?_ ?_ 12 0 zN S1 (by omega) (by decide) ⟨kp_rfl _ _, fun j hj => absurd hj (by omega)⟩
  · rintro q V i hi ⟨kV, hV⟩
    refine ⟨zput V 24 i 0, ?_, kp_trans kV (kp_put (by decide)), fun j hj => ?_⟩
    · rw [f_X4_clear_21_L33, if_pos (show nI i < 12 from nI_lt (b := 12) hi (by omega)), if_pos (zinN (by omega) (by omega)), zlet_def, zlet_def, nI_1, nI_clamp (by omega)]
    · rw [zput1_eq]
      by_cases hji : j = i
      · rw [hji, upd_at]
      · rw [upd_ne _ _ _ _ hji]; exact hV j (by omega)
  · rintro q V ⟨kV, hV⟩
    have e21 : ∀ i, V.1 21 i = upd (upd (upd (upd (upd (upd (S.1 21) 0 8) 1 0) 2 0) 3 0) 4 0) 6 0 i := fun i => by rw [kV.2 21 (by decide)]; exact e0 i
    refine ⟨zput (zput (zput (zput (zput V 21 9 0) 21 10 1) 21 11 0) 25 0 0) 25 1 0, ?_, kp_trans (kp_trans k0 (kp_in kV (by decide))) (kp_trans (kp_trans (kp_trans (kp_trans (kp_put (by decide)) (kp_put (by decide))) (kp_put (by decide))) (kp_put (by decide))) (kp_put (by decide))), ?_, ?_, ?_, ?_, ?_, ?_, rfl, rfl, rfl, hV, rfl, rfl⟩
    · rw [f_X4_clear_21_L33, if_neg (by decide), zlet_def, zlet_def, zlet_def]
      unfold f_X2_clear_25
      rw [zlet_def, zlet_def, zu_def]
    · show V.1 21 0 = 8
      rw [e21]; rfl
    · show V.1 21 1 = 0
      rw [e21]; rfl
    · show V.1 21 2 = 0
      rw [e21]; rfl
    · show V.1 21 3 = 0
      rw [e21]; rfl
    · show V.1 21 4 = 0
      rw [e21]; rfl
    · show V.1 21 6 = 0
      rw [e21]; rfl
theorem zmin16 {n : Nat} (h : n ≤ 1600) : zmin (nI n) 1600 = nI n := by
  unfold zmin
  rw [if_neg (show ¬ (1600 : Int32) < nI n from nI_nlt (b := n) (a := 1600) (by omega) (by omega))]
def gPs : List Nat := [18, 21, 42, 43, 44, 45, 46, 47, 52, 56, 57, 60, 72, 73]
def gMs (S T : zS) : Prop := (∀ k, k ∉ gFr → T.1 k = S.1 k) ∧ T.1 0 1 = 0 ∧ ∀ i, i ∈ gPs → T.1 0 i = S.1 0 i
theorem gX_kp {S T : zS} (h : kp [21, 24, 25] S T) : gX S T := ⟨fun k a b => h.2 k (fun z => by
  simp only [List.mem_cons, List.not_mem_nil, or_false] at z
  omega), fun i => by rw [h.1], fun z => by rw [h.2 30 (by decide)]; exact z⟩
theorem allC {n : Nat} {X M : zS} {cb : Nat → Nat} (hn : n ≤ 1600) (e1 : M.1 0 1 = nI n) (hcb : ∀ i, i < 1600 → cb i < 256 ∧ M.1 1 i = nI (cb i) ∧ X.1 1 i = bI (cb i)) (hz : ∀ i, i < 24 → X.2 4 i = zres.getD i 0) (hO : ∀ b, b < 12 → ∃ s : Nat, s < 12 ∧ X.1 30 b = nI s) :
    (∃ X' M' q' st pl tp bl pa ln hb g f d, f_X7_readAll_2_21 (nI n) X = f_X7_readAll_2_21_B95 X' ∧ f_X12_readAll M = some M' ∧ pI st pl tp bl pa ln hb g f d X' M' ∧ cur cb n q' X' M' ∧ gX X X' ∧ gMs M M') ∨ ∃ X' M', f_X7_readAll_2_21 (nI n) X = some (0, X') ∧ f_X12_readAll M = some M' ∧ flt X' M' ∧ gX X X' ∧ gMs M M' := by
  -- the class, ahead of the first token
  obtain ⟨Xa, x1, x2, y0, y1, y2, y3, y4, y6, y9, y10, y11, y24, y250, y251⟩ := clr21 (zput (zput (zput (zput (zput X 2 0 0) 2 1 (-1)) 2 3 (nI n)) 2 5 0) 2 10 0)
  have hXa2 : ∀ i, Xa.1 2 i = (zput (zput (zput (zput (zput X 2 0 0) 2 1 (-1)) 2 3 (nI n)) 2 5 0) 2 10 0).1 2 i := fun i => by rw [x2.2 2 (by decide)]
  have hXak : ∀ k, k ≠ 2 → k ≠ 21 → k ≠ 24 → k ≠ 25 → Xa.1 k = X.1 k := fun k h2 h21 h24 h25 => by
    rw [x2.2 k (by simp [h21, h24, h25]), zput1_ne _ _ _ _ _ h2, zput1_ne _ _ _ _ _ h2, zput1_ne _ _ _ _ _ h2, zput1_ne _ _ _ _ _ h2, zput1_ne _ _ _ _ _ h2]
  have hXaL : Xa.2 = X.2 := x2.1
  have gxa : gX X Xa := gX_trans (gX_trans (gX_trans (gX_trans (gX_trans (gX_put (Or.inl rfl) (by decide)) (gX_put (Or.inl rfl) (by decide))) (gX_put (Or.inl rfl) (by decide))) (gX_put (Or.inl rfl) (by decide))) (gX_put (Or.inl rfl) (by decide))) (gX_kp x2)
  -- the reference, ahead of the first token
  have hMk : ∀ k, k ≠ 0 → (zput (zput (zput (zput (zput (zput (zput (zput (zput (zput (zput (zput (zput (zput (zput (zput (zput (zput (zput M 0 5 (nI n)) 0 1 0) 0 4 0) 0 2 0) 0 3 (-1)) 0 34 8) 0 35 0) 0 36 0) 0 37 0) 0 38 0) 0 39 0) 0 40 1) 0 41 0) 0 48 0) 0 49 0) 0 50 0) 0 51 0) 0 20 0) 0 17 0).1 k = M.1 k := fun k hk => by
    rw [zput1_ne _ _ _ _ _ hk, zput1_ne _ _ _ _ _ hk, zput1_ne _ _ _ _ _ hk, zput1_ne _ _ _ _ _ hk, zput1_ne _ _ _ _ _ hk, zput1_ne _ _ _ _ _ hk, zput1_ne _ _ _ _ _ hk, zput1_ne _ _ _ _ _ hk, zput1_ne _ _ _ _ _ hk, zput1_ne _ _ _ _ _ hk, zput1_ne _ _ _ _ _ hk, zput1_ne _ _ _ _ _ hk, zput1_ne _ _ _ _ _ hk, zput1_ne _ _ _ _ _ hk, zput1_ne _ _ _ _ _ hk, zput1_ne _ _ _ _ _ hk, zput1_ne _ _ _ _ _ hk, zput1_ne _ _ _ _ _ hk, zput1_ne _ _ _ _ _ hk]
  have hM0 : ∀ i, i ∈ gPs → (zput (zput (zput (zput (zput (zput (zput (zput (zput (zput (zput (zput (zput (zput (zput (zput (zput (zput (zput M 0 5 (nI n)) 0 1 0) 0 4 0) 0 2 0) 0 3 (-1)) 0 34 8) 0 35 0) 0 36 0) 0 37 0) 0 38 0) 0 39 0) 0 40 1) 0 41 0) 0 48 0) 0 49 0) 0 50 0) 0 51 0) 0 20 0) 0 17 0).1 0 i = M.1 0 i := fun i hi => by
    simp only [gPs, List.mem_cons, List.not_mem_nil, or_false] at hi
    rcases hi with rfl | rfl | rfl | rfl | rfl | rfl | rfl | rfl | rfl | rfl | rfl | rfl | rfl | rfl <;> rfl
  have hall : f_X12_readAll M = zu (f_X12_token (zput (zput (zput (zput (zput (zput (zput (zput (zput (zput (zput (zput (zput (zput (zput (zput (zput (zput (zput M 0 5 (nI n)) 0 1 0) 0 4 0) 0 2 0) 0 3 (-1)) 0 34 8) 0 35 0) 0 36 0) 0 37 0) 0 38 0) 0 39 0) 0 40 1) 0 41 0) 0 48 0) 0 49 0) 0 50 0) 0 51 0) 0 20 0) 0 17 0)) fun T21 => f_X12_readAll_L103 zN T21 := by
    unfold f_X12_readAll
    rw [zlet_def, zlet_def, zlet_def, zlet_def, zlet_def, zlet_def, zlet_def, zlet_def, zlet_def, zlet_def, zlet_def, zlet_def, zlet_def, zlet_def, zlet_def, zlet_def, zlet_def, zlet_def, zlet_def, e1]
  have m5 : (zput (zput (zput (zput (zput (zput (zput (zput (zput (zput (zput (zput (zput (zput (zput (zput (zput (zput (zput M 0 5 (nI n)) 0 1 0) 0 4 0) 0 2 0) 0 3 (-1)) 0 34 8) 0 35 0) 0 36 0) 0 37 0) 0 38 0) 0 39 0) 0 40 1) 0 41 0) 0 48 0) 0 49 0) 0 50 0) 0 51 0) 0 20 0) 0 17 0).1 0 5 = nI n := rfl
  have m1 : (zput (zput (zput (zput (zput (zput (zput (zput (zput (zput (zput (zput (zput (zput (zput (zput (zput (zput (zput M 0 5 (nI n)) 0 1 0) 0 4 0) 0 2 0) 0 3 (-1)) 0 34 8) 0 35 0) 0 36 0) 0 37 0) 0 38 0) 0 39 0) 0 40 1) 0 41 0) 0 48 0) 0 49 0) 0 50 0) 0 51 0) 0 20 0) 0 17 0).1 0 1 = 0 := rfl
  have m4 : (zput (zput (zput (zput (zput (zput (zput (zput (zput (zput (zput (zput (zput (zput (zput (zput (zput (zput (zput M 0 5 (nI n)) 0 1 0) 0 4 0) 0 2 0) 0 3 (-1)) 0 34 8) 0 35 0) 0 36 0) 0 37 0) 0 38 0) 0 39 0) 0 40 1) 0 41 0) 0 48 0) 0 49 0) 0 50 0) 0 51 0) 0 20 0) 0 17 0).1 0 4 = nI 0 := rfl
  have m2 : (zput (zput (zput (zput (zput (zput (zput (zput (zput (zput (zput (zput (zput (zput (zput (zput (zput (zput (zput M 0 5 (nI n)) 0 1 0) 0 4 0) 0 2 0) 0 3 (-1)) 0 34 8) 0 35 0) 0 36 0) 0 37 0) 0 38 0) 0 39 0) 0 40 1) 0 41 0) 0 48 0) 0 49 0) 0 50 0) 0 51 0) 0 20 0) 0 17 0).1 0 2 = 0 := rfl
  have m3 : (zput (zput (zput (zput (zput (zput (zput (zput (zput (zput (zput (zput (zput (zput (zput (zput (zput (zput (zput M 0 5 (nI n)) 0 1 0) 0 4 0) 0 2 0) 0 3 (-1)) 0 34 8) 0 35 0) 0 36 0) 0 37 0) 0 38 0) 0 39 0) 0 40 1) 0 41 0) 0 48 0) 0 49 0) 0 50 0) 0 51 0) 0 20 0) 0 17 0).1 0 3 = -1 := rfl
  have m34 : (zput (zput (zput (zput (zput (zput (zput (zput (zput (zput (zput (zput (zput (zput (zput (zput (zput (zput (zput M 0 5 (nI n)) 0 1 0) 0 4 0) 0 2 0) 0 3 (-1)) 0 34 8) 0 35 0) 0 36 0) 0 37 0) 0 38 0) 0 39 0) 0 40 1) 0 41 0) 0 48 0) 0 49 0) 0 50 0) 0 51 0) 0 20 0) 0 17 0).1 0 34 = nI 8 := rfl
  have m35 : (zput (zput (zput (zput (zput (zput (zput (zput (zput (zput (zput (zput (zput (zput (zput (zput (zput (zput (zput M 0 5 (nI n)) 0 1 0) 0 4 0) 0 2 0) 0 3 (-1)) 0 34 8) 0 35 0) 0 36 0) 0 37 0) 0 38 0) 0 39 0) 0 40 1) 0 41 0) 0 48 0) 0 49 0) 0 50 0) 0 51 0) 0 20 0) 0 17 0).1 0 35 = nI 0 := rfl
  have m36 : (zput (zput (zput (zput (zput (zput (zput (zput (zput (zput (zput (zput (zput (zput (zput (zput (zput (zput (zput M 0 5 (nI n)) 0 1 0) 0 4 0) 0 2 0) 0 3 (-1)) 0 34 8) 0 35 0) 0 36 0) 0 37 0) 0 38 0) 0 39 0) 0 40 1) 0 41 0) 0 48 0) 0 49 0) 0 50 0) 0 51 0) 0 20 0) 0 17 0).1 0 36 = nI 0 := rfl
  have m37 : (zput (zput (zput (zput (zput (zput (zput (zput (zput (zput (zput (zput (zput (zput (zput (zput (zput (zput (zput M 0 5 (nI n)) 0 1 0) 0 4 0) 0 2 0) 0 3 (-1)) 0 34 8) 0 35 0) 0 36 0) 0 37 0) 0 38 0) 0 39 0) 0 40 1) 0 41 0) 0 48 0) 0 49 0) 0 50 0) 0 51 0) 0 20 0) 0 17 0).1 0 37 = nI 0 := rfl
  have m38 : (zput (zput (zput (zput (zput (zput (zput (zput (zput (zput (zput (zput (zput (zput (zput (zput (zput (zput (zput M 0 5 (nI n)) 0 1 0) 0 4 0) 0 2 0) 0 3 (-1)) 0 34 8) 0 35 0) 0 36 0) 0 37 0) 0 38 0) 0 39 0) 0 40 1) 0 41 0) 0 48 0) 0 49 0) 0 50 0) 0 51 0) 0 20 0) 0 17 0).1 0 38 = nI 0 := rfl
  have m39 : (zput (zput (zput (zput (zput (zput (zput (zput (zput (zput (zput (zput (zput (zput (zput (zput (zput (zput (zput M 0 5 (nI n)) 0 1 0) 0 4 0) 0 2 0) 0 3 (-1)) 0 34 8) 0 35 0) 0 36 0) 0 37 0) 0 38 0) 0 39 0) 0 40 1) 0 41 0) 0 48 0) 0 49 0) 0 50 0) 0 51 0) 0 20 0) 0 17 0).1 0 39 = 0 := rfl
  have m40 : (zput (zput (zput (zput (zput (zput (zput (zput (zput (zput (zput (zput (zput (zput (zput (zput (zput (zput (zput M 0 5 (nI n)) 0 1 0) 0 4 0) 0 2 0) 0 3 (-1)) 0 34 8) 0 35 0) 0 36 0) 0 37 0) 0 38 0) 0 39 0) 0 40 1) 0 41 0) 0 48 0) 0 49 0) 0 50 0) 0 51 0) 0 20 0) 0 17 0).1 0 40 = 1 := rfl
  have m41 : (zput (zput (zput (zput (zput (zput (zput (zput (zput (zput (zput (zput (zput (zput (zput (zput (zput (zput (zput M 0 5 (nI n)) 0 1 0) 0 4 0) 0 2 0) 0 3 (-1)) 0 34 8) 0 35 0) 0 36 0) 0 37 0) 0 38 0) 0 39 0) 0 40 1) 0 41 0) 0 48 0) 0 49 0) 0 50 0) 0 51 0) 0 20 0) 0 17 0).1 0 41 = 0 := rfl
  have m48 : (zput (zput (zput (zput (zput (zput (zput (zput (zput (zput (zput (zput (zput (zput (zput (zput (zput (zput (zput M 0 5 (nI n)) 0 1 0) 0 4 0) 0 2 0) 0 3 (-1)) 0 34 8) 0 35 0) 0 36 0) 0 37 0) 0 38 0) 0 39 0) 0 40 1) 0 41 0) 0 48 0) 0 49 0) 0 50 0) 0 51 0) 0 20 0) 0 17 0).1 0 48 = 0 := rfl
  have m49 : (zput (zput (zput (zput (zput (zput (zput (zput (zput (zput (zput (zput (zput (zput (zput (zput (zput (zput (zput M 0 5 (nI n)) 0 1 0) 0 4 0) 0 2 0) 0 3 (-1)) 0 34 8) 0 35 0) 0 36 0) 0 37 0) 0 38 0) 0 39 0) 0 40 1) 0 41 0) 0 48 0) 0 49 0) 0 50 0) 0 51 0) 0 20 0) 0 17 0).1 0 49 = 0 := rfl
  have m50 : (zput (zput (zput (zput (zput (zput (zput (zput (zput (zput (zput (zput (zput (zput (zput (zput (zput (zput (zput M 0 5 (nI n)) 0 1 0) 0 4 0) 0 2 0) 0 3 (-1)) 0 34 8) 0 35 0) 0 36 0) 0 37 0) 0 38 0) 0 39 0) 0 40 1) 0 41 0) 0 48 0) 0 49 0) 0 50 0) 0 51 0) 0 20 0) 0 17 0).1 0 50 = 0 := rfl
  have m51 : (zput (zput (zput (zput (zput (zput (zput (zput (zput (zput (zput (zput (zput (zput (zput (zput (zput (zput (zput M 0 5 (nI n)) 0 1 0) 0 4 0) 0 2 0) 0 3 (-1)) 0 34 8) 0 35 0) 0 36 0) 0 37 0) 0 38 0) 0 39 0) 0 40 1) 0 41 0) 0 48 0) 0 49 0) 0 50 0) 0 51 0) 0 20 0) 0 17 0).1 0 51 = 0 := rfl
  have m20 : (zput (zput (zput (zput (zput (zput (zput (zput (zput (zput (zput (zput (zput (zput (zput (zput (zput (zput (zput M 0 5 (nI n)) 0 1 0) 0 4 0) 0 2 0) 0 3 (-1)) 0 34 8) 0 35 0) 0 36 0) 0 37 0) 0 38 0) 0 39 0) 0 40 1) 0 41 0) 0 48 0) 0 49 0) 0 50 0) 0 51 0) 0 20 0) 0 17 0).1 0 20 = 0 := rfl
  rw [hall]
  generalize (zput (zput (zput (zput (zput (zput (zput (zput (zput (zput (zput (zput (zput (zput (zput (zput (zput (zput (zput M 0 5 (nI n)) 0 1 0) 0 4 0) 0 2 0) 0 3 (-1)) 0 34 8) 0 35 0) 0 36 0) 0 37 0) 0 38 0) 0 39 0) 0 40 1) 0 41 0) 0 48 0) 0 49 0) 0 50 0) 0 51 0) 0 20 0) 0 17 0) = Ma at hMk hM0 hall m5 m1 m4 m2 m3 m34 m35 m36 m37 m38 m39 m40 m41 m48 m49 m50 m51 m20
  have hT : txt cb n Xa Ma := ⟨hn, by rw [hXa2]; rfl, m5, fun i hi => by rw [hMk 1 (by decide), hXak 1 (by decide) (by decide) (by decide) (by decide)]; exact hcb i hi, fun i hi => by rw [hXaL]; exact hz i hi⟩
  obtain ⟨X1, M1, q1, s1, s2, s3, s4, -, s5⟩ := stepB (b := 0) hT (by omega) (by rw [hXa2]; rfl) m4
  have hc1 : cur cb n q1 (zput X1 2 9 0) M1 := cur_X2 ⟨txt_f hT s3 s4, s5, by rw [s3.2.1 0 (by decide) (by decide) (by decide) (by decide), hXa2]; rfl, by rw [s3.2.1 1 (by decide) (by decide) (by decide) (by decide), hXa2]; rfl, by rw [s4.2.1 2 (by decide) (by decide) (by decide) (by decide)]; exact m2, by rw [s4.2.1 3 (by decide) (by decide) (by decide) (by decide)]; exact m3⟩ (by decide)
  have hI : pI 8 0 0 0 0 0 0 false false false (zput X1 2 9 0) M1 := by
    refine pI_y (X := zput Xa 2 9 0) (M := Ma) ?_ (yX_9 (yX_f s3)) (yM_f s4)
    have nm0 : ∀ base, base ≤ 19 → nmOk base 0 (zput Xa 2 9 0) Ma := fun base hb => ⟨hb, fun i hi => absurd hi (by omega), fun i j _ hj => absurd hj (by omega)⟩
    refine ⟨⟨⟨by omega, by omega, by omega, by omega, by omega, by omega⟩, y0, m34, y1, m35, y2, m36, y3, m38, y4, m37⟩, ⟨y9.trans m39.symm, ⟨0, by omega, by omega, m39⟩, y10.trans m40.symm, ⟨1, by omega, by omega, m40⟩, y11.trans m41.symm, ⟨0, by omega, by omega, m41⟩⟩, ⟨by decide, y6, fun p hp => absurd hp (by omega), fun p hp => absurd hp (by omega)⟩, ⟨by omega, rfl, m48, ?_, m49, m50, m51⟩, ⟨nm0 0 (by omega), nm0 4 (by omega), nm0 8 (by omega), nm0 16 (by omega)⟩, ⟨fun p t hp => absurd hp (by omega), fun p t _ hp ht => y24 _ (by omega)⟩, ⟨fun b hb => absurd hb (by omega), fun b hb => ?_⟩, ⟨fun _ => ⟨y250, y251, m20⟩, fun z => absurd z (by decide)⟩⟩
    · show Xa.1 2 10 = _
      rw [hXa2]; rfl
    · show ∃ s : Nat, s < 12 ∧ Xa.1 30 b = nI s
      rw [hXak 30 (by decide) (by decide) (by decide) (by decide)]; exact hO b hb
  have hx : f_X7_readAll_2_21 (nI n) X = f_X7_readAll_2_21_L46 zN (zput X1 2 9 0) := by
    unfold f_X7_readAll_2_21
    rw [zlet_def, zlet_def, zmin16 hn, zlet_def, zlet_def, zlet_def, x1, zu_def, s1, zu_def, zlet_def]
  have gx1 : gX X (zput X1 2 9 0) := gX_trans (gX_trans gxa (gX_y (yX_f s3))) (gX_put (Or.inl rfl) (by decide))
  have gms : ∀ M', gMf M1 M' → gMs M M' := fun M' hg => by
    have h1 := gMf_trans (gMf_y (yM_f s4)) hg
    refine ⟨fun k hk => by rw [h1.1 k hk, hMk k (fun z => hk (by rw [z]; decide))], by rw [h1.2 1 (by decide)]; exact m1, fun i hi => ?_⟩
    have hi' : i ∈ gPr := by
      simp only [gPs, gPr, List.mem_cons, List.not_mem_nil, or_false] at hi ⊢
      omega
    rw [h1.2 i hi', hM0 i hi]
  rw [hx, s2, zu_def]
  rcases allL 1601 zN zN q1 8 0 0 0 0 0 0 false false false (zput X1 2 9 0) M1 (by omega) (by decide) (by decide) hc1 hI (fun _ => rfl) (by omega) with ⟨X', M', q', st', pl', tp', bl', pa', ln', hb', g', f', d', z1, z2, z3, z4, z5, z6⟩ | ⟨X', M', z1, z2, z3, z4, z5⟩
  · exact Or.inl ⟨X', M', q', st', pl', tp', bl', pa', ln', hb', g', f', d', z1, z2, z3, z4, gX_trans gx1 z5, gms M' z6⟩
  · exact Or.inr ⟨X', M', z1, z2, z3, gX_trans gx1 z4, gms M' z5⟩
