/-! ===== the formula: a not, the joined parts of a level ===== -/
theorem stk_len {l : List Int32} {M : zS} (h : stk l M) : l.length ≤ 100 := h.1
theorem gI_c {cb : Nat → Nat} {n q : Nat} {l p : List Int32} {u ns : Nat} {dl : Int} {X M : zS} (h : gI cb n q l p u ns dl X M) : cur cb n q X M := h.1
/-- a not, ahead of one that may be -/
theorem notLV {cb : Nat → Nat} {n w : Nat} {F : Int32 → Int32 → zS → Option (Int32 × zS)} (hw : w ≤ 7) (hF : w < 7 → LV cb n F 2 (w + 1)) {l : List Int32} {u ns q m k : Nat} {dl : Int} {X M : zS} (h1 : dp l = w) (h2 : stopAt 4 l) (h3 : l.length ≤ 6 * w + 2) (hG : gI cb n q l [] u ns dl X M) (hP : ns + nb l ≤ 9 * u + w) (hm : zN ≤ m + w) (hk : zN ≤ k + q) (hn : X.1 2 6 = 1 ∧ X.1 2 7 = 19) : LO cb n q 2 w l u dl (zb (f_X7_readNot_2_25 F (nI w) X) fun r9 T8 => if znb r9 then some (r9, T8) else none) (RU m k M) X M := by
  have hc := hG.1
  have hq := q_le hc
  have hzN : zN = 10000 := rfl
  obtain ⟨a1, a2, a3, a4, a5, a6, a7, a8, a9, a10, a11⟩ := id hG
  have a6' : stk l M := a6
  have e23 : M.1 0 23 = nI w := by rw [← h1]; exact a6'.2.2.2.2
  obtain ⟨m, rfl⟩ : ∃ j, m = j + 1 := ⟨m - 1, by omega⟩
  have hlen : l.length < 100 := by omega
  have hru : RU (m + 1) k M = if 6 < w then zu (zu (f_X12_wrong 2 M) fun T13 => f_X12_unit_B44 (f_X12_unit_L2 m) 1 T13) (fun T => RS k T) else zu (f_X12_unit_B44 (f_X12_unit_L2 m) 1 M) (fun T => RS k T) := by
    unfold RU
    rw [f_X12_unit_L2, if_neg (by decide), if_pos hc.2.2.2.2.1, show f_X12_isWord 7237492 M = _ from wordBM hc.2.1 (k := 19) (by omega), zb_def, z01, if_pos (show X.1 2 6 = 1 ∧ X.1 2 7 = nI 19 from hn), mayM a6', zb_def, may_stop h2, if_pos rfl, if_neg (by decide), e23]
    by_cases h6 : 6 < w
    · rw [if_pos (show (6 : Int32) < nI w from nI_lt (a := 6) h6 (by omega)), if_pos h6]
    · rw [if_neg (show ¬ (6 : Int32) < nI w from nI_nlt (b := w) (a := 6) (by omega) (by omega)), if_neg h6]
  rw [hru]
  unfold f_X7_readNot_2_25 f_X12_unit_B44
  by_cases h6 : 6 < w
  · left
    obtain ⟨X', M', r1, r2, r3⟩ := refuseC hc
    have hf := flt_pos r3.1
    have hk' : stk l M' := by
      obtain ⟨s1, s2, s3, s4, s5⟩ := a6'
      exact ⟨s1, by rw [r3.2.2.2.1 19 (by decide) (by decide) (by decide) (by decide) (by decide) (by decide)]; exact s2, fun i hi => by rw [r3.2.2.1 7 (by decide)]; exact s3 i hi, s4, by rw [r3.2.2.2.1 23 (by decide) (by decide) (by decide) (by decide) (by decide) (by decide)]; exact s5⟩
    have hou := openUpM (c := -6) hk' hlen
    rw [if_neg hf.2] at hou
    rw [if_pos (show (6 : Int32) < nI w from nI_lt (a := 6) h6 (by omega)), r1, zb_def, if_pos znb0, zb_def, if_pos znb0, if_pos h6, r2, zu_def, show f_X12_openUp 21 M' = _ from hou, zu_def]
    have hfl : flt X' (zput (zput (zput M' 7 l.length (oc (-6))) 0 19 (nI (l.length + 1))) 0 23 (nI (dp l + 1))) := flt_e r3.1 rfl rfl
    rw [ruF hfl (by omega) (by omega)]
    exact ⟨X', _, rfl, rfl, hfl, (gX_bad r3).1, gMf_trans (gX_bad r3).2 (gMf_v (vM_c open_k))⟩
  · have hou := openUpM (c := -6) a6' hlen
    rw [if_pos hc.2.2.2.2.1] at hou
    have hcO : cur cb n q X (zput (zput (zput M 7 l.length (oc (-6))) 0 19 (nI (l.length + 1))) 0 23 (nI (dp l + 1))) := cur_c hc open_k
    obtain ⟨X1, M1, q1, s1, s2, s3, s4, s5, -, s6, -⟩ := stepC hcO (by rw [hn.1]; decide)
    have hq1 := s6 (by rw [hn.1]; decide)
    rw [if_neg (show ¬ (6 : Int32) < nI w from nI_nlt (b := w) (a := 6) (by omega) (by omega)), s1, zu_def, nI_1, if_neg h6, show f_X12_openUp 21 M = _ from hou, s2, zu_def, zu_def]
    have hG1 : gI cb n q1 (-6 :: l) [] u ns dl X1 M1 := by
      refine gI_y (q := q) (X := X) (M := zput (zput (zput M 7 l.length (oc (-6))) 0 19 (nI (l.length + 1))) 0 23 (nI (dp l + 1))) ⟨hcO, a2, a3, a4, a5, openM a6' hlen (Or.inr rfl), a7, a8, a9, a10, a11⟩ s3 s4 s5
    have hdp : dp (-6 :: l) = w + 1 := by show dp l + _ = _; rw [if_pos (Or.inr rfl), h1]
    have hnb : nb (-6 :: l) = nb l + 1 := by show nb l + _ = _; rw [if_neg (by decide)]
    have hvX : vX X X1 := vX_y s3
    have hvM : vM M M1 := vM_trans (vM_c open_k) (vM_y s4)
    have hIH := hF (by omega) (-6 :: l) u ns q1 m k dl X1 M1 hdp (Or.inr ⟨Or.inl rfl, by decide⟩) (by rw [List.length_cons]; omega) hG1 (by rw [hnb]; omega) (by omega) (by omega) (Or.inl (Nat.le_refl 2))
    rcases hIH with ⟨X', M', b1, b2, b3, b4, b5⟩ | ⟨X', M', q', k', p, u', ns', b1, b2, b3, b4, b5, b6, b7, b8, b9, b10, b11, b12⟩
    · left
      rw [show F 2 (nI (w + 1)) X1 = _ from b1, zb_def, if_pos rfl, zb_def, if_pos znb0]
      exact ⟨X', M', rfl, b2, b3, gX_trans (gX_v hvX) b4, gMf_trans (gMf_v hvM) b5⟩
    · right
      have hu30 := b7.2.1
      have hnbp : nb (p ++ (-6 :: l)) = p.length + nb l + 1 := by rw [nb_app, nb_ops (fun c hc => (b10 c hc).1), hnb]; omega
      have hdl0 := a11.2.2.1
      obtain ⟨X2, e1, e2, e3, e4⟩ := gI_emit b7 (Or.inl rfl) (by omega) (fun _ => by omega) (fun z => absurd z (by decide))
      rw [show F 2 (nI (w + 1)) X1 = _ from b1, zb_def, if_neg (by decide), e1, zu_def, zb_def, if_pos znb1]
      have hjc : jc X2 = jc X' := by unfold jc; rw [e4]
      refine ⟨X2, M', q', k', p ++ [-6], u', ns', rfl, b2, vX_trans hvX (vX_trans b3 e3), vM_trans hvM b4, b5, by omega, ?_, ?_, b9, ?_, ?_, ?_⟩
      · have : dl + 1 + dlt (-6) = dl + 1 := by rw [show dlt (-6) = 0 from rfl]; omega
        rw [← this]; exact e2
      · rw [List.append_assoc]
        exact b8
      · intro c hcm
        rcases List.mem_append.mp hcm with h | h
        · exact b10 c h
        · rw [List.mem_singleton] at h
          rw [h]; exact ⟨Or.inl rfl, by decide⟩
      · rw [List.length_append, List.length_singleton]; omega
      · unfold nxT at b12 ⊢
        rw [hjc]
        rcases b12 with h | h | ⟨h, h', h''⟩
        · exact Or.inl h
        · exact Or.inr (Or.inl h)
        · exact Or.inr (Or.inr ⟨h, h', hr_app p _ h''⟩)
/-- no sign joins any more: the reference stops -/
theorem rsStop {cb : Nat → Nat} {n q : Nat} {s : List Int32} {X M : zS} {k : Nat} (hc : cur cb n q X M) (hs : stk s M) (h41 : ¬ (X.1 2 6 = 3 ∧ X.1 2 7 = nI 41) ∨ hbF s s.length = false) (hj : jc X = 0 ∨ lvC (jc X) = 2 ∧ hr s = true) (hk : 1 < k) : RS k M = f_X12_readGrow_B157 M := by
  obtain ⟨k, rfl⟩ : ∃ j, k = j + 1 + 1 := ⟨k - 2, by omega⟩
  unfold RS
  have h94 : f_X12_readGrow_B94 (f_X12_readGrow_L30 (k + 1)) 1 (if jc X = 0 then 0 else oc (jc X)) M = f_X12_readGrow_B157 M := by
    unfold f_X12_readGrow_B94
    have hend : f_X12_readGrow_L30 (k + 1) 0 M = f_X12_readGrow_B157 M := by rw [f_X12_readGrow_L30, if_pos rfl]
    rcases hj with hj | ⟨hj, hr1⟩
    · rw [if_pos hj, if_pos rfl, hend]
    · rcases jc_op X with ⟨z, -⟩ | ⟨ho, -, hn0, -, -, h4, -⟩
      · rw [if_pos z, if_pos rfl, hend]
      · have hoc : ¬ oc (jc X) = 0 := by
          rcases ho with h | h | h | h | h | h | h | h | h | h | h <;> rw [h] <;> decide
        rw [if_neg hn0, if_neg hoc, tightM ho, zb_def, h4.mpr hj, if_pos (show nI 4 = 4 from rfl), relM hs, zb_def, hr1, if_pos rfl, if_neg (by decide), hend]
  rw [f_X12_readGrow_L30, if_neg (by decide), if_pos hc.2.2.2.2.1, signM hc.2.1, zb_def]
  by_cases hs41 : M.1 0 6 = 41
  · have hx := (tk_sgn hc.2.1 (c := 41) (by decide)).mp hs41
    rw [if_pos hs41, brkM hs, zb_def, h41.resolve_left (fun z => z hx), if_pos (show (if false = true then (1 : Int32) else 0) = 0 from rfl), h94]
  · rw [if_neg hs41, h94]
theorem lo_thr (lv : Nat) : lo lv ≤ thr lv ∧ thr lv ≤ lo (lv + 1) ∧ thr lv < thr (lv + 1) := by
  match lv with
  | 0 => decide
  | 1 => decide
  | 2 => decide
  | l + 3 => exact ⟨by show l + 5 ≤ l + 1 + 4; omega, by show l + 1 + 4 ≤ l + 1 + 5; omega, by show l + 1 + 4 < l + 2 + 4; omega⟩
theorem tg_thr {X : zS} {lv : Nat} (h : lvC (jc X) = lv) (hl : lv ≤ 4) : isOp (jc X) ∧ tg (jc X) = thr lv ∧ ¬ jc X = 0 ∧ ¬ jc X = -6 ∧ jc X < -6 := by
  rcases jc_op X with ⟨-, z⟩ | ⟨ho, -, h0, h6, -, -, ht, hlt⟩
  · omega
  · refine ⟨ho, ?_, h0, h6, hlt⟩
    rw [ht, h]
    match lv, hl with
    | 0, _ => rfl
    | 1, _ => rfl
    | 2, _ => rfl
    | 3, _ => rfl
    | 4, _ => rfl
set_option maxHeartbeats 1000000 in
/-- the joined parts of one level -/
theorem loopLV {cb : Nat → Nat} {n lv w : Nat} {F : Int32 → Int32 → zS → Option (Int32 × zS)} (hlv : lv ≤ 4) (hw : w ≤ 7) (hF : LV cb n F (lv + 1) w) {l : List Int32} (h1 : dp l = w) (h2 : stopAt (thr lv) l) (h3 : l.length ≤ 6 * w + lv) : ∀ (t fuel i : Nat) (p : List Int32) (u ns q k : Nat) (dl : Int) (X M : zS), 31 ≤ u + t → t < fuel → gI cb n q l p u ns (dl + 1) X M → ns + nb (p ++ l) + 1 ≤ 9 * u → (∀ c ∈ p, isOp c ∧ thr lv ≤ tg c) → p.length ≤ (5 - lv) + (7 - w) → nxT (lv + 1) p X → zN ≤ k + q → i < u → 0 ≤ dl → (lv = 2 → (i = 0 ∧ ∀ c ∈ p, isOp c ∧ 5 ≤ tg c) ∨ (i = 1 ∧ hr p = true)) →
    (∃ X' M', f_X7_readLevel_2_25_L70 F fuel (nI lv) (nI w) (if lv = 2 then 1 else 30) (if lvC (jc X) = lv then jc X else 0) (nI i) X = some (0, X') ∧ RS k M = some M' ∧ flt X' M' ∧ gX X X' ∧ gMf M M') ∨ ∃ X' M' q' k' p' u' ns', f_X7_readLevel_2_25_L70 F fuel (nI lv) (nI w) (if lv = 2 then 1 else 30) (if lvC (jc X) = lv then jc X else 0) (nI i) X = some (1, X') ∧ RS k M = RS k' M' ∧ vX X X' ∧ vM M M' ∧ zN ≤ k' + q' ∧ q ≤ q' ∧ gI cb n q' l p' u' ns' (dl + 1) X' M' ∧ ns' + nb (p' ++ l) + 1 ≤ 9 * u' ∧ u ≤ u' ∧ (∀ c ∈ p', isOp c ∧ lo lv ≤ tg c) ∧ p'.length ≤ (5 - lv) + (7 - w) ∧ nxT lv p' X' := by
  intro t
  induction t with
  | zero =>
    intro fuel i p u ns q k dl X M hu hf hG
    have := hG.2.1
    omega
  | succ t ih =>
    intro fuel i p u ns q k dl X M hu hf hG hP hp hpl hx hk hi hdl h22
    obtain ⟨fuel, rfl⟩ : ∃ j, fuel = j + 1 := ⟨fuel - 1, by omega⟩
    have hzN : zN = 10000 := rfl
    have hc := hG.1
    have hq := q_le hc
    obtain ⟨a1, a2, a3, a4, a5, a6, a7, a8, a9, a10, a11⟩ := id hG
    have hlo := lo_thr lv
    have stay : nxT lv p X → f_X7_readLevel_2_25_L70 F (fuel + 1) (nI lv) (nI w) (if lv = 2 then 1 else 30) (if lvC (jc X) = lv then jc X else 0) (nI i) X = some (1, X) → ∃ X' M' q' k' p' u' ns', f_X7_readLevel_2_25_L70 F (fuel + 1) (nI lv) (nI w) (if lv = 2 then 1 else 30) (if lvC (jc X) = lv then jc X else 0) (nI i) X = some (1, X') ∧ RS k M = RS k' M' ∧ vX X X' ∧ vM M M' ∧ zN ≤ k' + q' ∧ q ≤ q' ∧ gI cb n q' l p' u' ns' (dl + 1) X' M' ∧ ns' + nb (p' ++ l) + 1 ≤ 9 * u' ∧ u ≤ u' ∧ (∀ c ∈ p', isOp c ∧ lo lv ≤ tg c) ∧ p'.length ≤ (5 - lv) + (7 - w) ∧ nxT lv p' X' := fun hn he => ⟨X, M, q, k, p, u, ns, he, rfl, vX_rfl X, vM_rfl M, hk, Nat.le_refl _, hG, hP, Nat.le_refl _, fun c hc => ⟨(hp c hc).1, by have := (hp c hc).2; omega⟩, hpl, hn⟩
    by_cases hdone : lv = 2 ∧ i = 1
    · right
      obtain ⟨rfl, rfl⟩ := hdone
      refine stay ?_ (by rw [f_X7_readLevel_2_25_L70, if_pos (show (2 : Nat) = 2 from rfl), if_neg (by decide)])
      have hrp : hr p = true := by
        rcases h22 rfl with ⟨z, -⟩ | ⟨-, z⟩
        · omega
        · exact z
      unfold nxT at hx ⊢
      rcases hx with h | h | ⟨-, h, -⟩
      · by_cases h2' : lvC (jc X) = 2
        · exact Or.inr (Or.inr ⟨h2', by omega, hrp⟩)
        · exact Or.inl (by omega)
      · exact Or.inr (Or.inl h)
      · omega
    · have hlt : nI i < (if lv = 2 then (1 : Int32) else 30) := by
        by_cases hl2 : lv = 2
        · rw [if_pos hl2]
          rcases h22 hl2 with ⟨z, -⟩ | ⟨z, -⟩
          · rw [z]; decide
          · exact absurd ⟨hl2, z⟩ hdone
        · rw [if_neg hl2]
          exact nI_lt (b := 30) (by omega) (by omega)
      by_cases hjl : lvC (jc X) = lv
      · -- one more part
        obtain ⟨ho, htg, hj0, hj6, hjlt⟩ := tg_thr hjl hlv
        have hoc : ¬ oc (jc X) = 0 := by
          rcases ho with h | h | h | h | h | h | h | h | h | h | h <;> rw [h] <;> decide
        have hkind : ¬ X.1 2 6 = 4 ∧ ¬ X.1 2 6 = 0 := by
          constructor
          · intro z
            apply hj0
            unfold jc jcF
            rw [z, if_neg (by decide), if_neg (by decide)]
          · intro z
            apply hj0
            unfold jc jcF
            rw [z, if_neg (by decide), if_neg (by decide)]
        have hs41 : ¬ M.1 0 6 = 41 := fun z => by
          have z' := (tk_sgn hc.2.1 (c := 41) (by decide)).mp z
          apply hj0
          unfold jc
          rw [z'.1, z'.2]
          rfl
        obtain ⟨k, rfl⟩ : ∃ j, k = j + 1 := ⟨k - 1, by omega⟩
        have hnbp : nb (p ++ l) = p.length + nb l := by rw [nb_app, nb_ops (fun c hc => (hp c hc).1)]
        obtain ⟨M1, c1, c2, c3, c4, c5, c6, c7, c8⟩ := closeM (x := thr lv) (by
          match lv, hlv with
          | 0, _ => decide
          | 1, _ => decide
          | 2, _ => decide
          | 3, _ => decide
          | 4, _ => decide) h2 p zN ns M a6 a8 (by omega) hp (by omega)
        have hl100 : l.length < 100 := by omega
        have hcl : M1.1 0 19 = nI l.length := c2.2.1
        have hcP : cur cb n q X (zput (zput M1 7 l.length (oc (jc X))) 0 19 (nI (l.length + 1))) := cur_c hc (kM_trans c6 (kM_trans (kM_put (by omega)) (kM_put0 (by omega))))
        obtain ⟨X1, M2, q1, s1, s2, s3, s4, s5, -, s6, -⟩ := stepC hcP hkind.1
        have hq1 := s6 hkind.2
        have hRS : RS (k + 1) M = RU zN k M2 := by
          have h113 : f_X12_readGrow_B113 (f_X12_readGrow_L30 k) 1 (oc (jc X)) M = RU zN k M2 := by
            unfold f_X12_readGrow_B113 f_X12_unit f_X12_close
            rw [tightM ho, zb_def, htg, c1, zu_def, hcl, if_pos (zinN (by omega) (by omega)), zlet_def, nI_clamp (by omega), zlet_def, show (zput M1 7 l.length (oc (jc X))).1 0 19 = nI l.length from hcl, nI_1, s2, zu_def]
            rfl
          unfold RS
          rw [f_X12_readGrow_L30, if_neg (by decide), if_pos hc.2.2.2.2.1, signM hc.2.1, zb_def, if_neg hj0, if_neg hs41]
          unfold f_X12_readGrow_B94
          rw [if_neg hoc, tightM ho, zb_def]
          by_cases hl2 : lv = 2
          · have hrel : hr (p ++ l) = false := by
              rcases h22 hl2 with ⟨-, z⟩ | ⟨z, -⟩
              · rw [hr_hi p l z]
                subst hl2
                exact hr_stop h2
              · exact absurd ⟨hl2, z⟩ hdone
            rw [htg, hl2, if_pos (show nI (thr 2) = 4 from rfl), relM a6, zb_def, hrel, if_pos (show (if false = true then (1 : Int32) else 0) = 0 from rfl), h113]
          · have ht4 : ¬ nI (tg (jc X)) = 4 := fun z => by
              have hlt7 := (oc_op ho).2.2.2.1
              have := (nI_eq (b := 4) (by omega) (by omega)).mp z
              rw [htg] at this
              match lv, hlv with
              | 0, _ => exact absurd this (by decide)
              | 1, _ => exact absurd this (by decide)
              | 2, _ => exact hl2 rfl
              | 3, _ => exact absurd this (by decide)
              | 4, _ => exact absurd this (by decide)
            rw [if_neg ht4, h113]
        have hG1 : gI cb n q1 (jc X :: l) [] u (ns + p.length) (dl + 1) X1 M2 := by
          refine gI_y (q := q) (X := X) (M := zput (zput M1 7 l.length (oc (jc X))) 0 19 (nI (l.length + 1))) ⟨hcP, a2, a3, c7.trans a4, c8.trans a5, pushM c2 hl100 ho hj6, a7, c3, fun i hi => ?_, fun i hi => absurd hi (by show ¬ i < 0; omega), a11⟩ s3 s4 s5
          show M1.1 3 i = mstep (X.1 26 i) ∧ M1.1 4 i = marg (X.1 26 i)
          by_cases hin : i < ns
          · rw [(c5 i hin).1, (c5 i hin).2]; exact a9 i hin
          · obtain ⟨j, rfl⟩ : ∃ j, i = ns + j := ⟨i - ns, by omega⟩
            rw [(c4 j (by omega)).1, (c4 j (by omega)).2, a10 j (by omega)]
            exact ⟨rfl, rfl⟩
        have hvM1 : vM M M2 := vM_trans (vM_c (kM_trans c6 (kM_trans (kM_put (by omega)) (kM_put0 (by omega))))) (vM_y s4)
        have hvX1 : vX X X1 := vX_y s3
        have hdpc : dp (jc X :: l) = w := by show dp l + _ = _; rw [if_neg (fun z => z.elim (oc_op ho).2.1 hj6), h1]; rfl
        have hnbc : nb (jc X :: l) = nb l + 1 := by show nb l + _ = _; rw [if_neg (oc_op ho).2.1]
        have hIH := hF (jc X :: l) u (ns + p.length) q1 zN k (dl + 1) X1 M2 hdpc (Or.inr ⟨ho, by rw [htg]; exact hlo.2.2⟩) (by rw [List.length_cons]; omega) hG1 (by rw [hnbc]; omega) (by omega) (by omega) (by
          by_cases hl2 : lv ≤ 1
          · exact Or.inl (by omega)
          · right; right
            have h4 : 4 ≤ tg (jc X) := by
              rw [htg]
              match lv, hlv, hl2 with
              | 2, _, _ => decide
              | 3, _, _ => decide
              | 4, _, _ => decide
            show (decide (jc X = 1) || decide (tg (jc X) < 4)) = false
            rw [decide_eq_false (oc_op ho).2.1, decide_eq_false (by omega)]
            rfl)
        rw [f_X7_readLevel_2_25_L70, if_pos hlt, if_pos hjl, if_neg hj0, s1, zu_def, nI_1 lv, hRS]
        rcases hIH with ⟨X', M', b1, b2, b3, b4, b5⟩ | ⟨X2, M3, q2, k2, p2, u2, ns2, b1, b2, b3, b4, b5, b6, b7, b8, b9, b10, b11, b12⟩
        · left
          rw [b1, zb_def, if_pos rfl]
          exact ⟨X', M', rfl, b2, b3, gX_trans (gX_v hvX1) b4, gMf_trans (gMf_v hvM1) b5⟩
        · have hu30 := b7.2.1
          have hnbp2 : nb (p2 ++ (jc X :: l)) = p2.length + nb l + 1 := by rw [nb_app, nb_ops (fun c hc => (b10 c hc).1), hnbc]; omega
          obtain ⟨X3, e1, e2, e3, e4⟩ := gI_emit b7 ho (by omega) (fun z => absurd z hj6) (fun _ => by omega)
          have hdlt : dlt (jc X) = -1 := by
            unfold dlt
            rw [if_neg (fun z => z (by
              rw [Int32.lt_iff_toInt_lt] at hjlt ⊢
              have e1 : (-6 : Int32).toInt = -6 := rfl
              have e2 : (-5 : Int32).toInt = -5 := rfl
              omega)), if_neg hj6]
          have hjc3 : jc X3 = jc X2 := by unfold jc; rw [e4]
          have hG3 : gI cb n q2 l (p2 ++ [jc X]) u2 ns2 (dl + 1) X3 M3 := by
            have : dl + 1 + 1 + dlt (jc X) = dl + 1 := by rw [hdlt]; omega
            rw [← this]; exact e2
          have hnx3 : nxT (lv + 1) (p2 ++ [jc X]) X3 := by
            unfold nxT at b12 ⊢
            rw [hjc3]
            rcases b12 with h | h | ⟨h, h', h''⟩
            · exact Or.inl h
            · exact Or.inr (Or.inl h)
            · exact Or.inr (Or.inr ⟨h, h', hr_app p2 _ h''⟩)
          have hp3 : ∀ c ∈ p2 ++ [jc X], isOp c ∧ thr lv ≤ tg c := fun c hcm => by
            rcases List.mem_append.mp hcm with h | h
            · exact ⟨(b10 c h).1, by have := (b10 c h).2; omega⟩
            · rw [List.mem_singleton] at h
              rw [h]; exact ⟨ho, by omega⟩
          have hres := ih fuel (i + 1) (p2 ++ [jc X]) u2 ns2 q2 k2 dl X3 M3 (by omega) (by omega) hG3 (by rw [List.append_assoc]; exact b8) hp3 (by rw [List.length_append, List.length_singleton]; omega) hnx3 b5 (by omega) hdl (fun hl2 => Or.inr ⟨by
              rcases h22 hl2 with ⟨z, -⟩ | ⟨z, -⟩
              · omega
              · exact absurd ⟨hl2, z⟩ hdone, by
              rw [hr_hi p2 [jc X] (fun c hc => ⟨(b10 c hc).1, by
                have := (b10 c hc).2
                rw [hl2] at this
                exact this⟩)]
              show (if jc X = 1 then false else if 4 < tg (jc X) then hr [] else decide (tg (jc X) = 4)) = true
              rw [if_neg (oc_op ho).2.1, htg, hl2]
              decide⟩)
          rw [b1, zb_def, if_neg (by decide), e1, zu_def, joinX hlv, zb_def, zlet_def, nI_1, b2]
          rcases hres with ⟨X', M', g1, g2, g3, g4, g5⟩ | ⟨X', M', q', k', p', u', ns', g1, g2, g3, g4, g5, g6, g7, g8, g9, g10, g11, g12⟩
          · exact Or.inl ⟨X', M', g1, g2, g3, gX_trans (gX_v (vX_trans hvX1 (vX_trans b3 e3))) g4, gMf_trans (gMf_v (vM_trans hvM1 b4)) g5⟩
          · exact Or.inr ⟨X', M', q', k', p', u', ns', g1, g2, vX_trans (vX_trans hvX1 (vX_trans b3 e3)) g3, vM_trans (vM_trans hvM1 b4) g4, g5, by omega, g7, g8, by omega, g10, g11, g12⟩
      · right
        refine stay ?_ (by rw [f_X7_readLevel_2_25_L70, if_pos hlt, if_neg hjl, if_pos rfl])
        unfold nxT at hx ⊢
        rcases hx with h | h | ⟨h, h', h''⟩
        · exact Or.inl (by omega)
        · exact Or.inr (Or.inl h)
        · exact Or.inr (Or.inr ⟨h, by omega, h''⟩)
