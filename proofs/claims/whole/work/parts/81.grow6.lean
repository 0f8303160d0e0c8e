/-! ===== the formula: a unit, a level ===== -/
theorem fullM {M : zS} {u : Nat} (hu : u ≤ 30) (h20 : M.1 0 20 = nI u) (h22 : M.1 0 22 = nI u) : f_X12_isFull M = some (if u = 30 then 1 else 0, M) := by
  unfold f_X12_isFull
  rw [h20, h22, if_neg (show ¬ nI u = 60 from fun z => by have := (nI_eq (b := 60) (by omega) (by omega)).mp z; omega)]
  by_cases h : u = 30
  · rw [if_pos (show nI u = 30 by rw [h]; rfl), if_pos h]
  · rw [if_neg (show ¬ nI u = 30 from fun z => h ((nI_eq (b := 30) (by omega) (by omega)).mp z)), if_neg h]
theorem countM0 {M : zS} {u : Nat} (h20 : M.1 0 20 = nI u) (h22 : M.1 0 22 = nI u) : f_X12_countUnit M = some (zput (zput M 0 20 (nI (u + 1))) 0 22 (nI (u + 1))) := by
  unfold f_X12_countUnit
  rw [zlet_def, zlet_def, h20, nI_1, show (zput M 0 20 (nI (u + 1))).1 0 22 = nI u from h22, nI_1]
theorem count_k {M : zS} {a b : Int32} : kM M (zput (zput M 0 20 a) 0 22 b) := kM_trans (kM_put0 (by omega)) (kM_put0 (by omega))
theorem stk_k {l : List Int32} {M : zS} {a b : Int32} (h : stk l M) : stk l (zput (zput M 0 20 a) 0 22 b) := h
theorem stk_a {l : List Int32} {M M' : zS} (h : stk l M) (ha : aM M M') : stk l M' := by
  obtain ⟨s1, s2, s3, s4, s5⟩ := h
  exact ⟨s1, by rw [ha.2.1 19 (by decide) (by decide) (by decide) (by decide) (by decide) (by decide)]; exact s2, fun i hi => by rw [ha.1 7 (by decide)]; exact s3 i hi, s4, by rw [ha.2.1 23 (by decide) (by decide) (by decide) (by decide) (by decide) (by decide)]; exact s5⟩
theorem leafW : ∀ j : Nat, j < 5 → ¬ Int32.ofInt (-1 - (j : Int)) = -6 ∧ mstep (Int32.ofInt (-1 - (j : Int))) = 1 ∧ marg (Int32.ofInt (-1 - (j : Int))) = nI j ∧ ¬ Int32.ofInt (-1 - (j : Int)) < -5 ∧ ¬ Int32.ofInt (-1 - (j : Int)) < -6 := by decide
theorem leafN {v : Nat} (hv : v ≤ 9999) : ¬ nI v = -6 ∧ mstep (nI v) = 0 ∧ marg (nI v) = nI v ∧ ¬ nI v < -5 ∧ ¬ nI v < -6 := by
  have h0 : ¬ nI v < 0 := nI_not_neg (by omega)
  have ht : (nI v).toInt = v := nI_toInt (by omega)
  have e6 : (-6 : Int32).toInt = -6 := rfl
  have e5 : (-5 : Int32).toInt = -5 := rfl
  refine ⟨fun z => ?_, ?_, ?_, fun z => ?_, fun z => ?_⟩
  · rw [z, e6] at ht; omega
  · unfold mstep; rw [if_pos h0]
  · unfold marg; rw [if_pos h0]
  · rw [Int32.lt_iff_toInt_lt, ht, e5] at z; omega
  · rw [Int32.lt_iff_toInt_lt, ht, e6] at z; omega
set_option maxHeartbeats 1000000 in
/-- a plain unit -/
theorem leafLV {cb : Nat → Nat} {n w : Nat} {l : List Int32} {u ns q k : Nat} {dl : Int} {X M : zS} {s0 a0 b0 : Int32} (hw : w ≤ 7) (h1 : dp l = w) (hG : gI cb n q l [] u ns dl X M) (hP : ns + nb l ≤ 9 * u + w) (hk : zN ≤ k + q) (hu : u < 30) (hkind : ¬ X.1 2 6 = 4 ∧ ¬ X.1 2 6 = 0) (hr : ∃ v : Int, s0 = Int32.ofInt v ∧ -16 ≤ v ∧ v ≤ 9999) (h6 : ¬ s0 = -6) (hms : mstep s0 = a0) (hma : marg s0 = b0) (h5 : ¬ s0 < -5) (h7 : ¬ s0 < -6) : LO cb n q 5 w l u dl (zlet (zput X 25 0 ((X.1 25 0) + 1)) fun T1 => zu (f_X7_step_2 T1) fun T3 => zu (f_X2_emit_25 s0 T3) fun T6 => some (1, T6)) (zu (zu (f_X12_add a0 b0 (zput (zput M 0 20 (nI (u + 1))) 0 22 (nI (u + 1)))) fun T2 => zu (f_X12_token T2) fun T4 => some T4) fun T => RS k T) X M := by
  obtain ⟨a1, a2, a3, a4, a5, a6, a7, a8, a9, a10, a11⟩ := hG
  right
  have a7' : X.1 25 1 = nI ns := a7
  have hadd := addS (M := zput (zput M 0 20 (nI (u + 1))) 0 22 (nI (u + 1))) (ns := ns) (by omega) a8 a0 b0
  have hkk : kM M (zput (zput (zput (zput (zput M 0 20 (nI (u + 1))) 0 22 (nI (u + 1))) 3 ns a0) 4 ns b0) 0 17 (nI (ns + 1))) := kM_trans count_k (kM_trans (kM_trans (kM_put (by omega)) (kM_put (by omega))) (kM_put0 (by omega)))
  have hc1 : cur cb n q (zput X 25 0 (nI (u + 1))) (zput (zput (zput (zput (zput M 0 20 (nI (u + 1))) 0 22 (nI (u + 1))) 3 ns a0) 4 ns b0) 0 17 (nI (ns + 1))) := cur_c (cur_X a1 (by decide) (by decide)) hkk
  obtain ⟨X1, M1, q1, s1, s2, s3, s4, s5, -, s6, -⟩ := stepC hc1 hkind.1
  have hq1 := s6 hkind.2
  have hem := emitX (X := X1) (len := ns) (by omega) (by rw [s3.1 25 (by decide)]; exact a7') s0
  have e250 : X.1 25 0 + 1 = nI (u + 1) := by rw [a3, nI_1]
  have em : ∀ i, 9 ≤ i → M1.1 0 i = (zput (zput (zput (zput (zput M 0 20 (nI (u + 1))) 0 22 (nI (u + 1))) 3 ns a0) 4 ns b0) 0 17 (nI (ns + 1))).1 0 i := fun i hi => s4.2.1 i (by omega) (by omega) (by omega) (by omega)
  refine ⟨zput (zput X1 26 ns s0) 25 1 (nI (ns + 1)), M1, q1, k, [], u + 1, ns + 1, ?_, ?_, ?_, ?_, by omega, hq1, ?_, ?_, by omega, fun c hc => absurd hc (by simp), by simp, ?_⟩
  · rw [zlet_def, e250, s1, zu_def, hem, zu_def]
  · rw [hadd, zu_def, s2, zu_def, zu_def]
  · exact vX_trans (vX_trans (vX_put (Or.inl rfl)) (vX_y s3)) (vX_trans (vX_put (Or.inr rfl)) (vX_put (Or.inl rfl)))
  · exact vM_trans (vM_c hkk) (vM_y s4)
  · refine ⟨cur_X (cur_X s5 (by decide) (by decide)) (by decide) (by decide), by omega, ?_, ?_, ?_, ?_, rfl, ?_, fun i hi => ?_, fun i hi => absurd hi (by show ¬ i < 0; omega), ?_⟩
    · show X1.1 25 0 = _
      rw [s3.1 25 (by decide)]
      rfl
    · rw [em 20 (by omega)]; rfl
    · rw [em 22 (by omega)]; rfl
    · exact stk_y (M := zput (zput (zput (zput (zput M 0 20 (nI (u + 1))) 0 22 (nI (u + 1))) 3 ns a0) 4 ns b0) 0 17 (nI (ns + 1))) a6 s4
    · rw [em 17 (by omega)]; rfl
    · show M1.1 3 i = mstep (upd (X1.1 26) ns s0 i) ∧ M1.1 4 i = marg (upd (X1.1 26) ns s0 i)
      rw [s4.1 3 (by decide), s4.1 4 (by decide), s3.1 26 (by decide)]
      show upd (M.1 3) ns a0 i = mstep (upd (X.1 26) ns s0 i) ∧ upd (M.1 4) ns b0 i = marg (upd (X.1 26) ns s0 i)
      by_cases hin : i = ns
      · rw [hin, upd_at, upd_at, upd_at, hms, hma]; exact ⟨rfl, rfl⟩
      · rw [upd_ne _ _ _ _ hin, upd_ne _ _ _ _ hin, upd_ne _ _ _ _ hin]; exact a9 i (by omega)
    · show wfC (upd (X1.1 26) ns s0) (ns + 1) (u + 1) (dl + 1)
      rw [s3.1 26 (by decide)]
      have hd : dlt s0 = 1 := by unfold dlt; rw [if_pos h5]
      have hw3 := a11.2.2.1
      have hw4 := a11.2.2.2
      have := wf_emit (u' := u + 1) (x := s0) a11 hr (fun z => absurd z h6) (fun z => absurd z h7) (by omega) (by omega) (by rw [hd]; omega) (by rw [hd]; omega)
      rw [hd] at this
      exact this
  · show ns + 1 + nb l + 1 ≤ 9 * (u + 1)
    omega
  · unfold nxT
    rcases jc_op (zput (zput X1 26 ns s0) 25 1 (nI (ns + 1))) with ⟨-, z⟩ | ⟨-, z, -⟩
    · exact Or.inr (Or.inl z)
    · exact Or.inl (by omega)
set_option maxHeartbeats 2000000 in
theorem unitLV {cb : Nat → Nat} {n w : Nat} {F : Int32 → Int32 → zS → Option (Int32 × zS)} (hw : w ≤ 7) (hF : w < 7 → LV cb n F 0 (w + 1)) {l : List Int32} {u ns q m k : Nat} {dl : Int} {X M : zS} (h1 : dp l = w) (h3 : l.length ≤ 6 * w + 5) (hG : gI cb n q l [] u ns dl X M) (hP : ns + nb l ≤ 9 * u + w) (hm : zN ≤ m + w) (hk : zN ≤ k + q) (hnot : ¬ (X.1 2 6 = 1 ∧ X.1 2 7 = 19) ∨ mayN l = false) : LO cb n q 5 w l u dl (f_X7_readUnit_2_25 F (nI w) X) (RU m k M) X M := by
  have hc := hG.1
  have hq := q_le hc
  have hzN : zN = 10000 := rfl
  obtain ⟨a1, a2, a3, a4, a5, a6, a7, a8, a9, a10, a11⟩ := id hG
  have a6' : stk l M := a6
  have e23 : M.1 0 23 = nI w := by rw [← h1]; exact a6'.2.2.2.2
  obtain ⟨m, rfl⟩ : ∃ j, m = j + 1 + 1 := ⟨m - 2, by omega⟩
  have hlen : l.length < 100 := by omega
  have h53 : f_X12_unit_L2 (m + 1 + 1) 1 M = f_X12_unit_B53 (f_X12_unit_L2 (m + 1)) 1 M := by
    rw [f_X12_unit_L2, if_neg (by decide), if_pos hc.2.2.2.2.1, show f_X12_isWord 7237492 M = _ from wordBM hc.2.1 (k := 19) (by omega), zb_def, z01]
    by_cases hw19 : X.1 2 6 = 1 ∧ X.1 2 7 = nI 19
    · rw [if_pos hw19, mayM a6', zb_def, hnot.resolve_left (fun z => z hw19), if_pos (show (if false = true then (1 : Int32) else 0) = 0 from rfl)]
    · rw [if_neg hw19]
  have hsg := tk_sgn hc.2.1 (c := 40) (by decide)
  unfold RU f_X7_readUnit_2_25
  rw [h53, signBX, zb_def]
  unfold f_X12_unit_B53
  by_cases hb : X.1 2 6 = 3 ∧ X.1 2 7 = 40
  · -- a bracket
    rw [if_pos hb, if_neg (by decide), if_pos (show M.1 0 6 = 40 from hsg.mpr hb), fullM a2 a4 a5, zb_def, e23]
    unfold f_X7_readUnit_2_25_B20 f_X7_readUnit_2_25_B38
    rw [if_neg (show ¬ (1 : Int32) = 0 by decide), a3, if_neg (show ¬ (1 : Int32) = 0 by decide)]
    by_cases hno : u = 30 ∨ 6 < w
    · left
      obtain ⟨X', M', r1, r2, r3⟩ := refuseC hc
      have hf := flt_pos r3.1
      have hx : (if nI u < 30 then (if (6 : Int32) < nI w then f_X7_readUnit_2_25_B57 F X else f_X7_readUnit_2_25_B62 F (nI w) 1 (-6) X) else f_X7_readUnit_2_25_B57 F X) = f_X7_readUnit_2_25_B57 F X := by
        by_cases h30 : u = 30
        · rw [if_neg (show ¬ nI u < 30 by rw [h30]; decide)]
        · rw [if_pos (show nI u < 30 from nI_lt (b := 30) (by omega) (by omega)), if_pos (show (6 : Int32) < nI w from nI_lt (a := 6) (hno.resolve_left h30) (by omega))]
      have hmm : (if (if u = 30 then (1 : Int32) else 0) = 0 then (if (6 : Int32) < nI w then f_X12_unit_B78 (f_X12_unit_L2 (m + 1)) 1 M else f_X12_unit_B83 (f_X12_unit_L2 (m + 1)) 1 M) else f_X12_unit_B78 (f_X12_unit_L2 (m + 1)) 1 M) = f_X12_unit_B78 (f_X12_unit_L2 (m + 1)) 1 M := by
        by_cases h30 : u = 30
        · rw [if_pos h30, if_neg (by decide)]
        · rw [if_neg h30, if_pos rfl, if_pos (show (6 : Int32) < nI w from nI_lt (a := 6) (hno.resolve_left h30) (by omega))]
      rw [hx, hmm]
      unfold f_X7_readUnit_2_25_B57 f_X12_unit_B78 f_X12_unit_B83
      have hk' : stk l M' := stk_a a6' r3.2.2
      have h20' : M'.1 0 20 = nI u := by rw [r3.2.2.2.1 20 (by decide) (by decide) (by decide) (by decide) (by decide) (by decide)]; exact a4
      have h22' : M'.1 0 22 = nI u := by rw [r3.2.2.2.1 22 (by decide) (by decide) (by decide) (by decide) (by decide) (by decide)]; exact a5
      have hou := openUpM (c := 1) (stk_k (a := nI (u + 1)) (b := nI (u + 1)) hk') hlen
      rw [if_neg (show ¬ (zput (zput M' 0 20 (nI (u + 1))) 0 22 (nI (u + 1))).1 0 2 = 0 from hf.2)] at hou
      rw [r1, zb_def, if_pos znb0, r2, zu_def, countM0 h20' h22', zu_def, show f_X12_openUp 20 (zput (zput M' 0 20 (nI (u + 1))) 0 22 (nI (u + 1))) = _ from hou, zu_def]
      have hfl : flt X' (zput (zput (zput (zput (zput M' 0 20 (nI (u + 1))) 0 22 (nI (u + 1))) 7 l.length (oc 1)) 0 19 (nI (l.length + 1))) 0 23 (nI (dp l + 1))) := flt_e r3.1 rfl rfl
      rw [ruF hfl (by omega) (by omega)]
      exact ⟨X', _, rfl, rfl, hfl, (gX_bad r3).1, gMf_trans (gX_bad r3).2 (gMf_v (vM_c (kM_trans count_k open_k)))⟩
    · have hu : u < 30 := by omega
      rw [if_pos (show nI u < 30 from nI_lt (b := 30) hu (by omega)), if_neg (show ¬ (6 : Int32) < nI w from nI_nlt (b := w) (a := 6) (by omega) (by omega)), if_neg (show ¬ u = 30 by omega), if_pos rfl, if_neg (show ¬ (6 : Int32) < nI w from nI_nlt (b := w) (a := 6) (by omega) (by omega))]
      unfold f_X7_readUnit_2_25_B62 f_X12_unit_B83
      have hou := openUpM (c := 1) (stk_k (a := nI (u + 1)) (b := nI (u + 1)) a6') hlen
      rw [if_pos (show (zput (zput M 0 20 (nI (u + 1))) 0 22 (nI (u + 1))).1 0 2 = 0 from hc.2.2.2.2.1)] at hou
      have hcO : cur cb n q (zput X 25 0 (nI (u + 1))) (zput (zput (zput (zput (zput M 0 20 (nI (u + 1))) 0 22 (nI (u + 1))) 7 l.length (oc 1)) 0 19 (nI (l.length + 1))) 0 23 (nI (dp l + 1))) := cur_c (cur_X hc (by decide) (by decide)) (kM_trans count_k open_k)
      obtain ⟨X1, M1, q1, s1, s2, s3, s4, s5, -, s6, -⟩ := stepC hcO (by show ¬ X.1 2 6 = 4; rw [hb.1]; decide)
      have hq1 := s6 (by show ¬ X.1 2 6 = 0; rw [hb.1]; decide)
      rw [zlet_def, a3, nI_1, s1, zu_def, if_neg (by decide), nI_1, countM0 a4 a5, zu_def, show f_X12_openUp 20 (zput (zput M 0 20 (nI (u + 1))) 0 22 (nI (u + 1))) = _ from hou, s2, zu_def, zu_def]
      have hG1 : gI cb n q1 (1 :: l) [] (u + 1) ns dl X1 M1 := by
        refine gI_y (q := q) (X := zput X 25 0 (nI (u + 1))) (M := zput (zput (zput (zput (zput M 0 20 (nI (u + 1))) 0 22 (nI (u + 1))) 7 l.length (oc 1)) 0 19 (nI (l.length + 1))) 0 23 (nI (dp l + 1))) ⟨hcO, by omega, rfl, rfl, rfl, openM (stk_k (a := nI (u + 1)) (b := nI (u + 1)) a6') hlen (Or.inl rfl), a7, a8, a9, a10, ?_⟩ s3 s4 s5
        obtain ⟨w1, w2, w3, w4⟩ := a11
        exact ⟨w1, w2, w3, by omega⟩
      have hdp : dp (1 :: l) = w + 1 := by show dp l + _ = _; rw [if_pos (Or.inl rfl), h1]
      have hnb : nb (1 :: l) = nb l := by show nb l + _ = _; rw [if_pos rfl]; rfl
      have hvX : vX X X1 := vX_trans (vX_put (Or.inl rfl)) (vX_y s3)
      have hvM : vM M M1 := vM_trans (vM_c (kM_trans count_k open_k)) (vM_y s4)
      have hIH := hF (by omega) (1 :: l) (u + 1) ns q1 (m + 1) k dl X1 M1 hdp (Or.inl rfl) (by rw [List.length_cons]; omega) hG1 (by rw [hnb]; omega) (by omega) (by omega) (Or.inl (by omega))
      unfold RU at hIH
      rcases hIH with ⟨X', M', b1, b2, b3, b4, b5⟩ | ⟨X2, M2, q2, k2, p, u2, ns2, b1, b2, b3, b4, b5, b6, b7, b8, b9, b10, b11, b12⟩
      · left
        rw [show F 0 (nI (w + 1)) X1 = _ from b1, zb_def, if_pos rfl]
        exact ⟨X', M', rfl, b2, b3, gX_trans (gX_v hvX) b4, gMf_trans (gMf_v hvM) b5⟩
      · obtain ⟨g1, g2, g3, g4, g5, g6, g7, g8, g9, g10, g11⟩ := id b7
        have hq2 := q_le g1
        have hbr : hbF (p ++ 1 :: l) (p ++ 1 :: l).length = true := (hbF_mem _).mpr (by simp)
        rw [show F 0 (nI (w + 1)) X1 = _ from b1, zb_def, if_neg (by decide), b2]
        unfold f_X7_takeSign_2
        rw [signBX, zb_def, z01]
        by_cases h41 : X2.1 2 6 = 3 ∧ X2.1 2 7 = 41
        · right
          obtain ⟨k2, rfl⟩ : ∃ j, k2 = j + 1 := ⟨k2 - 1, by omega⟩
          have hnbp : nb (p ++ 1 :: l) = p.length + nb l := by rw [nb_app, nb_ops (fun c hc => (b10 c hc).1), hnb]
          obtain ⟨M3, c1, c2, c3, c4, c5, c6, c7, c8⟩ := closeM (l := 1 :: l) (x := 0) (by omega) (Or.inl rfl) p zN ns2 M2 g6 g8 (by omega) (fun c hc => ⟨(b10 c hc).1, by omega⟩) (by omega)
          have hs3 : stk l (zput (zput M3 0 19 (nI l.length)) 0 23 (nI (dp l))) := by
            obtain ⟨t1, t2, t3, t4, t5⟩ := c2
            refine ⟨by omega, rfl, fun i hi => ?_, fun c hc => t4 c (List.mem_cons_of_mem _ hc), rfl⟩
            show M3.1 7 i = _
            rw [t3 i (by show i < l.length + 1; omega), ti_lt hi]
          have hcC : cur cb n q2 X2 (zput (zput M3 0 19 (nI l.length)) 0 23 (nI (dp l))) := cur_c g1 (kM_trans c6 (kM_trans (kM_put0 (by omega)) (kM_put0 (by omega))))
          obtain ⟨X3, M4, q3, t1, t2, t3, t4, t5, -, t6, -⟩ := stepC hcC (by rw [h41.1]; decide)
          have hq3 := t6 (by rw [h41.1]; decide)
          have hjc2 : jc X2 = 0 := by unfold jc; rw [h41.1, h41.2]; rfl
          have e19 : M3.1 0 19 = nI (l.length + 1) := c2.2.1
          have e233 : M3.1 0 23 = nI (w + 1) := by rw [← hdp]; exact c2.2.2.2.2
          have hRS : RS (k2 + 1) M2 = RS k2 M4 := by
            unfold RS
            rw [f_X12_readGrow_L30, if_neg (by decide), if_pos g1.2.2.2.2.1, signM g1.2.1, zb_def, if_pos (show M2.1 0 6 = 41 from (tk_sgn g1.2.1 (c := 41) (by decide)).mpr h41), brkM g6, zb_def, hbr, if_pos rfl, if_neg (by decide)]
            unfold f_X12_close
            rw [show f_X12_close_L0 zN 0 M2 = _ from c1, zu_def, zlet_def, e19, show nI (l.length + 1) - 1 = nI l.length from pk_sub (b := 1) (by omega), zlet_def, show (zput M3 0 19 (nI l.length)).1 0 23 = nI (w + 1) from e233, show nI (w + 1) - 1 = nI (dp l) by rw [h1]; exact pk_sub (b := 1) (by omega), t2, zu_def]
          rw [if_pos h41, t1, zu_def, zb_def, if_neg (by decide), hRS]
          refine ⟨X3, M4, q3, k2, [], u2, ns2 + p.length, rfl, rfl, vX_trans hvX (vX_trans b3 (vX_y t3)), vM_trans hvM (vM_trans b4 (vM_trans (vM_c (kM_trans c6 (kM_trans (kM_put0 (by omega)) (kM_put0 (by omega))))) (vM_y t4))), by omega, by omega, ?_, ?_, by omega, fun c hc => absurd hc (by simp), by simp, ?_⟩
          · refine gI_y (q := q2) (X := X2) (M := zput (zput M3 0 19 (nI l.length)) 0 23 (nI (dp l))) ⟨hcC, g2, g3, c7.trans g4, c8.trans g5, hs3, g7, c3, fun i hi => ?_, fun i hi => absurd hi (by show ¬ i < 0; omega), g11⟩ t3 t4 t5
            show M3.1 3 i = mstep (X2.1 26 i) ∧ M3.1 4 i = marg (X2.1 26 i)
            by_cases hin : i < ns2
            · rw [(c5 i hin).1, (c5 i hin).2]; exact g9 i hin
            · obtain ⟨j, rfl⟩ : ∃ j, i = ns2 + j := ⟨i - ns2, by omega⟩
              rw [(c4 j (by omega)).1, (c4 j (by omega)).2, g10 j (by omega)]
              exact ⟨rfl, rfl⟩
          · show ns2 + p.length + nb l + 1 ≤ 9 * u2
            omega
          · unfold nxT
            rcases jc_op X3 with ⟨-, z⟩ | ⟨-, z, -⟩
            · exact Or.inr (Or.inl z)
            · exact Or.inl (by omega)
        · left
          obtain ⟨X', M', r1, r2, r3⟩ := refuseC g1
          have hst : RS k2 M2 = f_X12_readGrow_B157 M2 := rsStop g1 g6 (Or.inl h41) (by
            unfold nxT at b12
            rcases b12 with h | h | ⟨h, -, h'⟩
            · omega
            · rcases jc_op X2 with ⟨z, -⟩ | ⟨-, z, -⟩
              · exact Or.inl z
              · omega
            · exact Or.inr ⟨h, hr_app p _ h'⟩) (by omega)
          rw [if_neg h41, r1, zb_def, if_pos znb0, zb_def, if_pos rfl, hst]
          unfold f_X12_readGrow_B157 f_X12_readGrow_B176
          rw [if_pos g1.2.2.2.2.1, brkM g6, zb_def, hbr, if_pos rfl, if_neg (by decide), r2, zu_def, if_neg (flt_pos r3.1).2]
          exact ⟨X', M', rfl, rfl, r3.1, gX_trans (gX_v (vX_trans hvX b3)) (gX_bad r3).1, gMf_trans (gMf_v (vM_trans hvM b4)) (gX_bad r3).2⟩
  · -- no bracket
    have hM40 : ¬ M.1 0 6 = 40 := fun z => hb (hsg.mp z)
    rw [if_neg hb, if_pos rfl, if_neg hM40]
    have h101 : f_X12_unit_L2 (m + 1) 0 M = f_X12_unit_B101 M := by rw [f_X12_unit_L2, if_pos rfl]
    rw [h101]
    unfold f_X12_unit_B101
    rw [if_neg (cur_nf hc)]
    -- refused, for want of room or of a unit
    have refusal : ∀ (x2 : Int32), ∃ X' M', f_X7_refuseToken_2 X = some (0, X') ∧ zu (f_X12_unit_B133 x2 M) (fun T => RS k T) = some M' ∧ flt X' M' ∧ gX X X' ∧ gMf M M' := by
      intro x2
      obtain ⟨X', M', r1, r2, r3⟩ := refuseC hc
      refine ⟨X', M', r1, ?_, r3.1, (gX_bad r3).1, (gX_bad r3).2⟩
      unfold f_X12_unit_B133 f_X12_unit_B138
      rw [r2, zu_def, if_pos (flt_pos r3.1).1, zu_def, rsF r3.1 (by omega)]
    rcases unitT hc.2.1 with ⟨v, v1, v2, v3, v4, v5, v6⟩ | ⟨j, j1, j2, j3, j4, j5⟩ | ⟨o1, o2, o3⟩
    · obtain ⟨l1, l2, l3, l4, l5⟩ := leafN v1
      rw [v3, zb_def, v4, zb_def, if_pos v5]
      unfold f_X7_readUnit_2_25_B20 f_X7_readUnit_2_25_B38 f_X12_unit_B126
      rw [if_pos rfl, if_neg l1, a3, if_pos rfl, fullM a2 a4 a5, zb_def, z01]
      by_cases h30 : u = 30
      · left
        obtain ⟨X', M', r1, r2, r3, r4, r5⟩ := refusal (-1)
        unfold f_X7_readUnit_2_25_B57
        rw [if_pos h30, if_neg (show ¬ nI u < 30 by rw [h30]; decide), r1, zb_def, if_pos znb0, r2]
        exact ⟨X', M', rfl, rfl, r3, r4, r5⟩
      · rw [if_neg h30, if_pos (show nI u < 30 from nI_lt (b := 30) (by omega) (by omega))]
        unfold f_X7_readUnit_2_25_B62 f_X12_unit_B138 f_X12_unit_B160 f_X12_unit_B172
        rw [if_neg (cur_nf hc), countM0 a4 a5, zu_def, if_pos (show (-1 : Int32) < 0 by decide), if_pos (show (-1 : Int32) < 0 by decide), show (zput (zput M 0 20 (nI (u + 1))) 0 22 (nI (u + 1))).1 0 8 = nI v from v6]
        simp only [↓reduceIte]
        exact leafLV hw h1 hG hP hk (by omega) (by rw [v2]; decide) ⟨v, rfl, by omega, by omega⟩ l1 l2 l3 l4 l5
    · obtain ⟨l1, l2, l3, l4, l5⟩ := leafW j j1
      rw [j3, zb_def, j4, zb_def, if_neg j5, if_neg (nI_not_neg (by omega))]
      unfold f_X7_readUnit_2_25_B20 f_X7_readUnit_2_25_B38 f_X12_unit_B126
      rw [if_pos rfl, if_neg l1, a3, if_pos rfl, fullM a2 a4 a5, zb_def, z01]
      by_cases h30 : u = 30
      · left
        obtain ⟨X', M', r1, r2, r3, r4, r5⟩ := refusal (nI j)
        unfold f_X7_readUnit_2_25_B57
        rw [if_pos h30, if_neg (show ¬ nI u < 30 by rw [h30]; decide), r1, zb_def, if_pos znb0, r2]
        exact ⟨X', M', rfl, rfl, r3, r4, r5⟩
      · rw [if_neg h30, if_pos (show nI u < 30 from nI_lt (b := 30) (by omega) (by omega))]
        unfold f_X7_readUnit_2_25_B62 f_X12_unit_B138 f_X12_unit_B160 f_X12_unit_B172
        rw [if_neg (cur_nf hc), countM0 a4 a5, zu_def, if_neg (nI_not_neg (by omega)), if_neg (nI_not_neg (by omega))]
        simp only [↓reduceIte]
        exact leafLV hw h1 hG hP hk (by omega) (by rw [j2]; decide) ⟨-1 - (j : Int), rfl, by omega, by omega⟩ l1 l2 l3 l4 l5
    · left
      obtain ⟨X', M', r1, r2, r3, r4, r5⟩ := refusal (-1)
      rw [o1, zb_def, o2, zb_def, if_neg o3, if_pos (show (-1 : Int32) < 0 by decide)]
      unfold f_X7_readUnit_2_25_B20
      rw [if_pos rfl, if_pos rfl, r1, zb_def, if_pos znb0, r2]
      exact ⟨X', M', rfl, rfl, r3, r4, r5⟩
