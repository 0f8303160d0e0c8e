/-! ===== a step, on both sides ===== -/
set_option maxHeartbeats 1000000 in
theorem stepB {cb : Nat → Nat} {n b : Nat} {X M : zS} (hT : txt cb n X M) (hb : b ≤ n) (e1 : X.1 2 5 = nI b) (e2 : M.1 0 4 = nI b) : ∃ X' M' q, f_X7_step_2 X = some X' ∧ f_X12_token M = some M' ∧ fX X X' ∧ fM M M' ∧ b ≤ q ∧ tk n q X' M' := by
  have hn := hT.1
  have hzN : zN = 10000 := rfl
  obtain ⟨q, X1, M1, km, hbq, hqn, hnb, ex, em, fx1, fm1, x4, m4⟩ := blanks (n - b) b zN zN (zput X 2 4 (nI b)) M (by omega) (by omega) (by omega) (txt_f hT (fX_put (Or.inl rfl)) (fM_rfl M)) (by rw [zput1_eq, upd_at]) e2
  have fx0 : fX X X1 := fX_trans (fX_put (Or.inl rfl)) fx1
  have hT1 : txt cb n X1 M1 := txt_f hT fx0 fm1
  have hx : f_X7_step_2 X = f_X7_step_2_B60 X1 := by
    unfold f_X7_step_2
    rw [zlet_def, e1]
    exact ex
  have hm : f_X12_token M = f_X12_token_L0 (km + 1) M1 := em
  rw [hx, hm]
  -- the reference's start
  have fR : fM M1 (zput (zputL (zput M1 0 7 (nI q)) 0 9 0) 0 8 0) := fM_trans (fM_trans (fM_put (by omega)) fM_putL) (fM_put (by omega))
  have R4 : (zput (zputL (zput M1 0 7 (nI q)) 0 9 0) 0 8 0).1 0 4 = nI q := by
    rw [zput1_eq, upd_ne _ _ _ _ (by decide)]
    show (zput M1 0 7 (nI q)).1 0 4 = _
    rw [zput1_eq, upd_ne _ _ _ _ (by decide)]; exact m4
  have R7 : (zput (zputL (zput M1 0 7 (nI q)) 0 9 0) 0 8 0).1 0 7 = nI q := by
    rw [zput1_eq, upd_ne _ _ _ _ (by decide)]
    show (zput M1 0 7 (nI q)).1 0 7 = _
    rw [zput1_eq, upd_at]
  have R8 : (zput (zputL (zput M1 0 7 (nI q)) 0 9 0) 0 8 0).1 0 8 = nI 0 := by rw [zput1_eq, upd_at]; rfl
  have R9 : (zput (zputL (zput M1 0 7 (nI q)) 0 9 0) 0 8 0).2 0 9 = nL 0 := (zputL2 (zput M1 0 7 (nI q)) 0 9 0 9 0).trans (if_pos ⟨rfl, rfl⟩)
  have hh : f_X12_here 0 M1 = some (if q < n then nI (cb q) else -1, M1) := by
    have := hereM (k := 0) hT1 (by omega) m4
    rwa [Nat.add_zero] at this
  have hh7 : f_X12_here 0 (zput M1 0 7 (nI q)) = some (if q < n then nI (cb q) else -1, zput M1 0 7 (nI q)) := by
    have := hereM (k := 0) (txt_f hT1 (fX_rfl X1) (fM_put (i := 7) (x := nI q) (by omega))) (show q + 0 ≤ 100000 by omega) (by rw [zput1_eq, upd_ne _ _ _ _ (by decide)]; exact m4)
    rwa [Nat.add_zero] at this
  have hstart : f_X12_token_L0 (km + 1) M1 = (zlet (zput (zputL (zput M1 0 7 (nI q)) 0 9 0) 0 8 0) fun T14 => if (if q < n then nI (cb q) else -1) < 0 then zlet (zput T14 0 6 0) fun T16 => f_X12_token_B232 0 T16 else zb (f_X12_isLetter (if q < n then nI (cb q) else -1) T14) fun r18 T17 => if r18 = 0 then zb (f_X12_isDigit (if q < n then nI (cb q) else -1) T17) fun r22 T21 => if r22 = 0 then zb (f_X12_isSign (if q < n then nI (cb q) else -1) T21) fun r26 T25 => if r26 = 0 then f_X12_token_B229 1 3 T25 else f_X12_token_B229 1 (if q < n then nI (cb q) else -1) T25 else f_X12_token_L144 zN 0 T21 else f_X12_token_L78 zN 0 T17) := by
    have c32 : ¬ (if q < n then nI (cb q) else -1) = (32 : Int32) := by
      by_cases h : q < n
      · rw [if_pos h]
        exact fun z => (hnb h).1 ((nI_c (k := 32) (hT1.2.2.2.1 q (by omega)).1 (by omega)).mp z)
      · rw [if_neg h]; decide
    have c10 : ¬ (if q < n then nI (cb q) else -1) = (10 : Int32) := by
      by_cases h : q < n
      · rw [if_pos h]
        exact fun z => (hnb h).2 ((nI_c (k := 10) (hT1.2.2.2.1 q (by omega)).1 (by omega)).mp z)
      · rw [if_neg h]; decide
    rw [f_X12_token_L0, hh, zb_def, if_neg c32, hh, zb_def, if_neg c10, zlet_def, m4, hh7, zb_def]
    rfl
  rw [hstart, zlet_def]
  have F : fM M (zput (zputL (zput M1 0 7 (nI q)) 0 9 0) 0 8 0) := fM_trans fm1 fR
  have hTR : txt cb n X1 (zput (zputL (zput M1 0 7 (nI q)) 0 9 0) 0 8 0) := txt_f hT1 (fX_rfl X1) fR
  generalize zput (zputL (zput M1 0 7 (nI q)) 0 9 0) 0 8 0 = R at R4 R7 R8 R9 F hTR
  unfold f_X7_step_2_B60
  rw [zlet_def, x4]
  have fx2 : fX X (zput X1 2 5 (nI q)) := fX_trans fx0 (fX_put (by omega))
  have hT2 : txt cb n (zput X1 2 5 (nI q)) R := txt_f hTR (fX_put (by omega)) (fM_rfl R)
  have y4 : (zput X1 2 5 (nI q)).1 2 4 = nI q := by rw [zput1_eq, upd_ne _ _ _ _ (by decide)]; exact x4
  have y5 : (zput X1 2 5 (nI q)).1 2 5 = nI q := by rw [zput1_eq, upd_at]
  generalize zput X1 2 5 (nI q) = Y at fx2 hT2 y4 y5
  by_cases hqlt : q < n
  · simp only [if_pos hqlt]
    obtain ⟨hc, -, hb2⟩ := hT2.2.2.2.1 q (by omega)
    have hY1 : Y.1 1 (Y.1 2 4).toNatClampNeg = bI (cb q) := by rw [y4, nI_clamp (by omega)]; exact hb2
    have hz : zin (nI q) 1600 := zinN (by omega) (by omega)
    rw [if_neg (nI_not_neg (by omega)), isLtM hc, zb_def]
    simp only [hY1]
    rw [y4, hT2.2.1, if_pos (nI_lt hqlt (by omega)), if_pos hz, if_pos hz]
    cases hl : isLt (cb q) with
    | true =>
      have hng : ¬ (bI (cb q) < 97 ∨ 122 < bI (cb q)) := fun z => by rw [(bI_lt _ hc).mp z] at hl; cases hl
      rw [if_neg (fun z => hng (Or.inl z)), if_neg (fun z => hng (Or.inr z))]
      simp only [if_true]
      rw [if_neg (by decide)]
      obtain ⟨K, k1, k2, k3⟩ := runEx isLt cb (n - q) q n (by omega)
      have hK : 0 < K := by
        rcases Nat.eq_zero_or_pos K with h | h
        · subst h
          rcases k3 with k3 | ⟨-, k3⟩
          · omega
          · rw [Nat.add_zero, hl] at k3; cases k3
        · exact h
      -- the class
      unfold f_X7_stepWord_2
      rw [zlet_def]
      obtain ⟨X3, g1, g2, g3, g4, g5⟩ := wordX k1 k2 k3 K 0 zN (zputL Y 2 8 0) (by omega) (by omega) (txt_f hT2 fX_putL (fM_rfl R)) y5 ((zputL2 Y 2 8 2 8 0).trans (if_pos ⟨rfl, rfl⟩))
      obtain ⟨M3, j1, j2, j3, j4, j5⟩ := wordM (X := Y) k1 k2 k3 K 0 zN R (by omega) (by omega) hT2 R4 R9
      have z4 : X3.1 2 4 = nI q := g3.trans y4
      have fx3 : fX X X3 := fX_trans fx2 (fX_trans fX_putL g2)
      have fm3 : fM M M3 := fM_trans F j2
      rw [g1, show f_X12_token_L78 zN 0 R = _ from j1]
      unfold f_X7_stepWord_2_B83
      rw [g4, z4, pk_sub (show q ≤ q + K by omega), show q + K - q = K by omega]
      unfold f_X7_stepWord_2_B103 f_X12_token_B131 f_X12_token_B232
      by_cases h8 : 8 < K
      · rw [if_pos (show (8 : Int32) < nI K from nI_lt (a := 8) h8 (by omega)), if_pos h8, zlet_def, zlet_def, zlet_def]
        obtain ⟨X4, r1, r2, r3, r4⟩ := rsvX (X := zput (zput X3 2 6 4) 2 7 (-1)) (txt_f (txt_f hT2 (fX_trans fX_putL g2) (fM_rfl R)) (fX_trans (fX_put (i := 6) (x := 4) (by omega)) (fX_put (i := 7) (x := -1) (by omega))) (fM_rfl R)) (by rw [zput1_eq, upd_at])
        rw [r1, zu_def, if_pos (by rw [zput1_eq, upd_at])]
        have fx4 : fX X X4 := by
          refine fX_trans fx3 (fX_trans (fX_trans (fX_put (i := 6) (x := 4) (by omega)) (fX_put (i := 7) (x := -1) (by omega))) ⟨fun k hk => r2.2 k (by simpa using hk), fun i _ _ _ h7 => r3 i h7, fun k i _ => by rw [r2.1]⟩)
        refine ⟨X4, zput M3 0 6 3, q, rfl, rfl, fx4, fM_trans fm3 (fM_put (by omega)), hbq, q + K, by omega, k1, ?_, ?_, ?_, Or.inr (Or.inr (Or.inr (Or.inr ⟨?_, ?_⟩)))⟩
        · rw [r3 4 (by decide), zput1_eq, upd_ne _ _ _ _ (by decide), zput1_eq, upd_ne _ _ _ _ (by decide)]; exact z4
        · rw [zput1_eq, upd_ne _ _ _ _ (by decide), j4]; exact R7
        · rw [r3 5 (by decide), zput1_eq, upd_ne _ _ _ _ (by decide), zput1_eq, upd_ne _ _ _ _ (by decide)]; exact g4
        · rw [r3 6 (by decide), zput1_eq, upd_ne _ _ _ _ (by decide), zput1_eq, upd_at]
        · rw [zput1_eq, upd_at]
      · rw [if_neg (show ¬ (8 : Int32) < nI K from nI_nlt (b := K) (a := 8) (by omega) (by omega)), if_neg h8, zlet_def, zlet_def, zlet_def]
        obtain ⟨X4, r1, r2, r3, r4⟩ := rsvX (X := zput (zput X3 2 6 1) 2 7 (-1)) (txt_f (txt_f hT2 (fX_trans fX_putL g2) (fM_rfl R)) (fX_trans (fX_put (i := 6) (x := 1) (by omega)) (fX_put (i := 7) (x := -1) (by omega))) (fM_rfl R)) (by rw [zput1_eq, upd_at])
        rw [r1, zu_def, if_neg (by rw [zput1_eq, upd_at]; decide), zlet_def]
        have fx4 : fX X X4 := by
          refine fX_trans fx3 (fX_trans (fX_trans (fX_put (i := 6) (x := 1) (by omega)) (fX_put (i := 7) (x := -1) (by omega))) ⟨fun k hk => r2.2 k (by simpa using hk), fun i _ _ _ h7 => r3 i h7, fun k i _ => by rw [r2.1]⟩)
        have z28 : X4.2 2 8 = nL (E5 (fun i => cb (q + i)) K) := by rw [r2.1]; exact g5
        refine ⟨X4, _, q, rfl, rfl, fx4, fM_trans fm3 (fM_trans (fM_put (i := 6) (x := 1) (by omega)) (fM_put (by omega))), hbq, q + K, by omega, k1, ?_, ?_, ?_, Or.inr (Or.inl ⟨?_, ?_, ?_, by omega, ?_, ?_⟩)⟩
        · rw [r3 4 (by decide), zput1_eq, upd_ne _ _ _ _ (by decide), zput1_eq, upd_ne _ _ _ _ (by decide)]; exact z4
        · rw [zput1_eq, upd_ne _ _ _ _ (by decide), zput1_eq, upd_ne _ _ _ _ (by decide), j4]; exact R7
        · rw [r3 5 (by decide), zput1_eq, upd_ne _ _ _ _ (by decide), zput1_eq, upd_ne _ _ _ _ (by decide)]; exact g4
        · rw [r3 6 (by decide), zput1_eq, upd_ne _ _ _ _ (by decide), zput1_eq, upd_at]
        · rw [zput1_eq, upd_ne _ _ _ _ (by decide), zput1_eq, upd_at]
        · rw [zput1_eq, upd_at, zput1_eq, upd_ne _ _ _ _ (by decide), j3, nI_add]
        · refine ⟨K, fun i => cb (q + i), by omega, fun i hi => k2 i hi, z28, ?_⟩
          show M3.2 0 9 = _
          rw [j5, show min K 8 = K by omega]
        · rw [r4, r2.1]
    | false =>
      simp only [Bool.false_eq_true, if_false, if_true]
      have hlt := (bI_lt _ hc).mpr hl
      have e122 : (if bI (cb q) < 97 then f_X7_step_2_B122 Y else if 122 < bI (cb q) then f_X7_step_2_B122 Y else zu (f_X7_stepWord_2 Y) fun T8 => some T8) = f_X7_step_2_B122 Y := by
        by_cases h' : bI (cb q) < 97
        · rw [if_pos h']
        · rw [if_neg h', if_pos (hlt.resolve_left h')]
      rw [e122, isDgM hc, zb_def]
      unfold f_X7_step_2_B122
      simp only [hY1]
      rw [y4, if_pos hz, if_pos hz]
      cases hd : isDg (cb q) with
      | true =>
        have hng : ¬ (bI (cb q) < 48 ∨ 57 < bI (cb q)) := fun z => by rw [(bI_dg _ hc).mp z] at hd; cases hd
        rw [if_neg (fun z => hng (Or.inl z)), if_neg (fun z => hng (Or.inr z))]
        simp only [if_true]
        rw [if_neg (by decide)]
        obtain ⟨K, k1, k2, k3⟩ := runEx isDg cb (n - q) q n (by omega)
        have hK : 0 < K := by
          rcases Nat.eq_zero_or_pos K with h | h
          · subst h
            rcases k3 with k3 | ⟨-, k3⟩
            · omega
            · rw [Nat.add_zero, hd] at k3; cases k3
          · exact h
        unfold f_X7_stepNumber_2
        rw [zlet_def]
        obtain ⟨X3, g1, g2, g3, g4, g5⟩ := numX k1 k2 k3 K 0 zN (zput Y 2 7 0) (by omega) (by omega) (txt_f hT2 (fX_put (by omega)) (fM_rfl R)) (by rw [zput1_eq, upd_ne _ _ _ _ (by decide)]; exact y5) (by rw [zput1_eq, upd_at]; rfl)
        obtain ⟨M3, j1, j2, j3, j4, j5⟩ := numM (X := Y) k1 k2 k3 K 0 zN R (by omega) (by omega) hT2 R4 R8
        have z4 : X3.1 2 4 = nI q := g3.trans (by rw [zput1_eq, upd_ne _ _ _ _ (by decide)]; exact y4)
        have fx3 : fX X X3 := fX_trans fx2 (fX_trans (fX_put (by omega)) g2)
        have fm3 : fM M M3 := fM_trans F j2
        have hT3 : txt cb n X3 R := txt_f hT2 (fX_trans (fX_put (i := 7) (x := 0) (by omega)) g2) (fM_rfl R)
        rw [g1, show f_X12_token_L144 zN 0 R = _ from j1]
        have hx3 : f_X7_stepNumber_2_B81 X3 = if 4 < K ∨ q + K < n ∧ isLt (cb (q + K)) = true then f_X7_stepNumber_2_B149 4 X3 else f_X7_stepNumber_2_B149 2 X3 := by
          have h125 : ∀ s : Int32, (s = 0 ∨ s = 1) → f_X7_stepNumber_2_B125 s X3 = if 4 < K ∨ s = 1 then f_X7_stepNumber_2_B149 4 X3 else f_X7_stepNumber_2_B149 2 X3 := fun s hs => by
            unfold f_X7_stepNumber_2_B125
            rw [g4, z4, pk_sub (show q ≤ q + K by omega), show q + K - q = K by omega]
            rcases hs with rfl | rfl
            · rw [if_pos rfl]
              by_cases h4 : 4 < K
              · rw [if_pos (show (4 : Int32) < nI K from nI_lt (a := 4) h4 (by omega)), if_pos (Or.inl h4)]
              · rw [if_neg (show ¬ (4 : Int32) < nI K from nI_nlt (b := K) (a := 4) (by omega) (by omega)), if_neg (fun z => z.elim h4 (by decide))]
            · rw [if_neg (by decide), if_pos (Or.inr rfl)]
          unfold f_X7_stepNumber_2_B81
          by_cases hlt : q + K < n
          · obtain ⟨hcK, -, hbK⟩ := hT3.2.2.2.1 (q + K) (by omega)
            have hXK : X3.1 1 (X3.1 2 5).toNatClampNeg = bI (cb (q + K)) := by rw [g4, nI_clamp (by omega)]; exact hbK
            simp only [hXK]
            have hzK : zin (nI (q + K)) 1600 := zinN (by omega) (by omega)
            rw [g4, hT3.2.1, if_pos (nI_lt hlt (by omega)), if_pos hzK, if_pos hzK, h125 0 (Or.inl rfl), h125 1 (Or.inr rfl)]
            cases hlK : isLt (cb (q + K)) with
            | true =>
              have hng : ¬ (bI (cb (q + K)) < 97 ∨ 122 < bI (cb (q + K))) := fun z => by rw [(bI_lt _ hcK).mp z] at hlK; cases hlK
              rw [if_neg (fun z => hng (Or.inl z)), if_neg (fun z => hng (Or.inr z)), if_pos (Or.inr rfl), if_pos (Or.inr ⟨hlt, rfl⟩)]
            | false =>
              have hlt' := (bI_lt _ hcK).mpr hlK
              have h01 : (4 < K ∨ (0 : Int32) = 1) ↔ (4 < K ∨ q + K < n ∧ false = true) := by
                constructor
                · rintro (h | h)
                  · exact Or.inl h
                  · exact absurd h (by decide)
                · rintro (h | h)
                  · exact Or.inl h
                  · exact absurd h.2 (by decide)
              by_cases h' : bI (cb (q + K)) < 97
              · rw [if_pos h']
                by_cases h4 : 4 < K ∨ (0 : Int32) = 1
                · rw [if_pos h4, if_pos (h01.mp h4)]
                · rw [if_neg h4, if_neg (fun z => h4 (h01.mpr z))]
              · rw [if_neg h', if_pos (hlt'.resolve_left h')]
                by_cases h4 : 4 < K ∨ (0 : Int32) = 1
                · rw [if_pos h4, if_pos (h01.mp h4)]
                · rw [if_neg h4, if_neg (fun z => h4 (h01.mpr z))]
          · rw [g4, hT3.2.1, if_neg (nI_nlt (by omega) (by omega)), h125 0 (Or.inl rfl)]
            by_cases h4 : 4 < K
            · rw [if_pos (Or.inl h4), if_pos (Or.inl h4)]
            · rw [if_neg (fun z => z.elim h4 (by decide)), if_neg (fun z => z.elim h4 (fun w => hlt w.1))]
        rw [hx3]
        unfold f_X7_stepNumber_2_B149 f_X12_token_B208 f_X12_token_B232
        by_cases hbad : 4 < K ∨ q + K < n ∧ isLt (cb (q + K)) = true
        · rw [if_pos hbad, if_pos hbad, zlet_def, zlet_def, zu_def, if_pos (by rw [zput1_eq, upd_at])]
          refine ⟨_, _, q, rfl, rfl, fX_trans fx3 (fX_put (by omega)), fM_trans fm3 (fM_put (by omega)), hbq, q + K, by omega, k1, ?_, ?_, ?_, Or.inr (Or.inr (Or.inr (Or.inr ⟨?_, ?_⟩)))⟩
          · rw [zput1_eq, upd_ne _ _ _ _ (by decide)]; exact z4
          · rw [zput1_eq, upd_ne _ _ _ _ (by decide), j4]; exact R7
          · rw [zput1_eq, upd_ne _ _ _ _ (by decide)]; exact g4
          · rw [zput1_eq, upd_at]
          · rw [zput1_eq, upd_at]
        · rw [if_neg hbad, if_neg hbad, zlet_def, zlet_def, zu_def, if_neg (by rw [zput1_eq, upd_at]; decide), zlet_def]
          have hK4 : K ≤ 4 := by
            rcases Nat.lt_or_ge 4 K with h | h
            · exact absurd (Or.inl h) hbad
            · exact h
          have hv : V10 (fun i => cb (q + i)) K ≤ 9999 := by
            have h1 := V10_lt (f := fun i => cb (q + i)) K k2
            have h2 : 10 ^ K ≤ 10 ^ 4 := Nat.pow_le_pow_right (by omega) hK4
            omega
          refine ⟨_, _, q, rfl, rfl, fX_trans fx3 (fX_put (by omega)), fM_trans fm3 (fM_trans (fM_put (i := 6) (x := 2) (by omega)) (fM_put (by omega))), hbq, q + K, by omega, k1, ?_, ?_, ?_, Or.inr (Or.inr (Or.inl ⟨?_, ?_, ?_, by omega, _, hv, ?_, ?_⟩))⟩
          · rw [zput1_eq, upd_ne _ _ _ _ (by decide)]; exact z4
          · rw [zput1_eq, upd_ne _ _ _ _ (by decide), zput1_eq, upd_ne _ _ _ _ (by decide), j4]; exact R7
          · rw [zput1_eq, upd_ne _ _ _ _ (by decide)]; exact g4
          · rw [zput1_eq, upd_at]
          · rw [zput1_eq, upd_ne _ _ _ _ (by decide), zput1_eq, upd_at]
          · rw [zput1_eq, upd_at, zput1_eq, upd_ne _ _ _ _ (by decide), j3, nI_add]
          · rw [zput1_eq, upd_ne _ _ _ _ (by decide)]; exact g5
          · rw [zput1_eq, upd_ne _ _ _ _ (by decide), zput1_eq, upd_ne _ _ _ _ (by decide), j5, show min K 4 = K by omega]
      | false =>
        simp only [Bool.false_eq_true, if_false, if_true]
        have hlt2 := (bI_dg _ hc).mpr hd
        have e157 : (if bI (cb q) < 48 then f_X7_step_2_B157 Y else if 57 < bI (cb q) then f_X7_step_2_B157 Y else zu (f_X7_stepNumber_2 Y) fun T6 => some T6) = f_X7_step_2_B157 Y := by
          by_cases h' : bI (cb q) < 48
          · rw [if_pos h']
          · rw [if_neg h', if_pos (hlt2.resolve_left h')]
        rw [e157, gS_eq, zb_def, gS_tab _ hc]
        unfold f_X7_step_2_B157
        rw [y4, if_pos hz, zlet_def]
        have hv7 : Y.1 1 (nI q).toNatClampNeg &&& 255 = nI (cb q) := by rw [nI_clamp (by omega), hb2, bI_255 _ hc]
        rw [hv7]
        obtain ⟨r, er, hr⟩ := idxX (S := zput Y 2 7 (nI (cb q))) hc
        rw [show (zput Y 2 7 (nI (cb q))).1 2 7 = nI (cb q) by rw [zput1_eq, upd_at], bI_chr _ hc, er, zb_def]
        unfold f_X7_step_2_B193 f_X12_token_B229 f_X12_token_B232
        by_cases hs : cb q ∈ sgs
        · rw [if_neg (fun z => (hr.mp z) hs), if_pos hs, if_neg (by decide), zlet_def, zlet_def, zlet_def]
          have hs3 : ¬ nI (cb q) = 3 := fun z => by
            have := (nI_c (k := 3) hc (by omega)).mp z
            rw [this] at hs
            exact absurd hs (by decide)
          rw [if_neg (by rw [zput1_eq, upd_at]; exact hs3), zlet_def]
          refine ⟨_, _, q, rfl, rfl, fX_trans fx2 (fX_trans (fX_trans (fX_put (i := 7) (x := nI (cb q)) (by omega)) (fX_put (i := 6) (x := 3) (by omega))) (fX_put (by omega))), fM_trans F (fM_trans (fM_put (i := 6) (x := nI (cb q)) (by omega)) (fM_put (by omega))), hbq, q + 1, by omega, by omega, ?_, ?_, ?_, Or.inr (Or.inr (Or.inr (Or.inl ⟨?_, ?_, by omega, cb q, hs, ?_, ?_⟩)))⟩
          · rw [zput1_eq, upd_ne _ _ _ _ (by decide), zput1_eq, upd_ne _ _ _ _ (by decide), zput1_eq, upd_ne _ _ _ _ (by decide)]; exact y4
          · rw [zput1_eq, upd_ne _ _ _ _ (by decide), zput1_eq, upd_ne _ _ _ _ (by decide)]; exact R7
          · rw [zput1_eq, upd_at, zput1_eq, upd_ne _ _ _ _ (by decide), zput1_eq, upd_ne _ _ _ _ (by decide), y4, nI_1]
          · rw [zput1_eq, upd_ne _ _ _ _ (by decide), zput1_eq, upd_at]
          · rw [zput1_eq, upd_at, zput1_eq, upd_ne _ _ _ _ (by decide), R4, nI_1]
          · rw [zput1_eq, upd_ne _ _ _ _ (by decide), zput1_eq, upd_ne _ _ _ _ (by decide), zput1_eq, upd_at]
          · rw [zput1_eq, upd_ne _ _ _ _ (by decide), zput1_eq, upd_at]
        · rw [if_pos (hr.mpr hs), if_neg hs, if_pos rfl, zlet_def, zlet_def, zlet_def, if_pos (by rw [zput1_eq, upd_at])]
          refine ⟨_, _, q, rfl, rfl, fX_trans fx2 (fX_trans (fX_trans (fX_put (i := 7) (x := nI (cb q)) (by omega)) (fX_put (i := 6) (x := 4) (by omega))) (fX_put (by omega))), fM_trans F (fM_put (by omega)), hbq, q + 1, by omega, by omega, ?_, ?_, ?_, Or.inr (Or.inr (Or.inr (Or.inr ⟨?_, ?_⟩)))⟩
          · rw [zput1_eq, upd_ne _ _ _ _ (by decide), zput1_eq, upd_ne _ _ _ _ (by decide), zput1_eq, upd_ne _ _ _ _ (by decide)]; exact y4
          · rw [zput1_eq, upd_ne _ _ _ _ (by decide)]; exact R7
          · rw [zput1_eq, upd_at, zput1_eq, upd_ne _ _ _ _ (by decide), zput1_eq, upd_ne _ _ _ _ (by decide), y4, nI_1]
          · rw [zput1_eq, upd_ne _ _ _ _ (by decide), zput1_eq, upd_at]
          · rw [zput1_eq, upd_at]
  · simp only [if_neg hqlt]
    rw [y4, hT2.2.1, if_neg (nI_nlt (by omega) (by omega)), zlet_def, if_pos (show (-1 : Int32) < 0 by decide), zlet_def]
    unfold f_X12_token_B232
    rw [if_neg (by rw [zput1_eq, upd_at]; decide), zlet_def]
    refine ⟨_, _, q, rfl, rfl, fX_trans fx2 (fX_put (by omega)), fM_trans F (fM_trans (fM_put (i := 6) (x := 0) (by omega)) (fM_put (by omega))), hbq, q, by omega, hqn, ?_, ?_, ?_, Or.inl ⟨?_, ?_, ?_⟩⟩
    · rw [zput1_eq, upd_ne _ _ _ _ (by decide)]; exact y4
    · rw [zput1_eq, upd_ne _ _ _ _ (by decide), zput1_eq, upd_ne _ _ _ _ (by decide)]; exact R7
    · rw [zput1_eq, upd_ne _ _ _ _ (by decide)]; exact y5
    · rw [zput1_eq, upd_at]
    · rw [zput1_eq, upd_ne _ _ _ _ (by decide), zput1_eq, upd_at]
    · rw [zput1_eq, upd_at, zput1_eq, upd_ne _ _ _ _ (by decide), R4]
      exact nI_add q 0
