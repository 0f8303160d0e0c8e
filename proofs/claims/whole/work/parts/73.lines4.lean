/-! ===== wants ===== -/
theorem wants72 {X M : zS} (h : flt X M) (x1 x2 : Int32) : f_X12_readWants_B72 x1 x2 M = some M := by
  have hf := (flt_pos h).1
  unfold f_X12_readWants_B72
  rw [fVal hf, zb_def, fTold hf, zb_def, if_pos hf]
theorem wants61 {X M : zS} (h : flt X M) (x1 x2 : Int32) : f_X12_readWants_B61 x1 x2 M = some M := by
  unfold f_X12_readWants_B61
  rw [if_neg (flt_pos h).2, wants72 h]
theorem wants26 {X M : zS} (h : flt X M) (x1 : Int32) : f_X12_readWants_B26 x1 M = some M := by
  unfold f_X12_readWants_B26
  rw [fOld (flt_pos h).1, zb_def, if_neg (flt_pos h).2, wants61 h]
theorem pI_wants {st pl tp bl pa ln hb p t w : Nat} {x : Int32} {g f d : Bool} {X M : zS} (hI : pI st pl tp bl pa ln hb g f d X M) (hp : p < pa) (ht : t < tp) (hx : isI (-9) 9 x) (e23 : X.1 23 (4 * p + t) = x) (h1 : 1 ≤ w) (h2 : w ≤ 9) (o23 : ∀ i, i ≠ 4 * p + t → True) : pI st pl tp bl pa ln hb g f d (zput X 24 (4 * p + t) (nI w)) (zput (zput M 12 (4 * p + t) x) 13 (4 * p + t) (nI w)) := by
  obtain ⟨a1, a2, a3, a4, a5, a6, a7, a8⟩ := hI
  obtain ⟨⟨b1, b2, b3, b4, b5, b6⟩, -⟩ := id a1
  refine ⟨a1, a2, a3, a4, a5, ⟨fun p' t' hp' ht' => ?_, fun p' t' hp' hp3 ht' => ?_⟩, a7, a8⟩
  · show isI 0 9 (upd (M.1 13) (4 * p + t) (nI w) (4 * p' + t')) ∧ upd (X.1 24) (4 * p + t) (nI w) (4 * p' + t') = upd (M.1 13) (4 * p + t) (nI w) (4 * p' + t') ∧ (upd (M.1 13) (4 * p + t) (nI w) (4 * p' + t') ≠ 0 → isI (-9) 9 (upd (M.1 12) (4 * p + t) x (4 * p' + t')) ∧ X.1 23 (4 * p' + t') = upd (M.1 12) (4 * p + t) x (4 * p' + t'))
    by_cases hk : 4 * p' + t' = 4 * p + t
    · rw [hk, upd_at, upd_at, upd_at]
      exact ⟨⟨w, by omega, by omega, rfl⟩, rfl, fun _ => ⟨hx, e23⟩⟩
    · rw [upd_ne _ _ _ _ hk, upd_ne _ _ _ _ hk, upd_ne _ _ _ _ hk]
      exact a6.1 p' t' hp' ht'
  · show upd (X.1 24) (4 * p + t) (nI w) (4 * p' + t') = 0
    rw [upd_ne _ _ _ _ (by omega)]
    exact a6.2 p' t' hp' hp3 ht'
theorem pI_23 {st pl tp bl pa ln hb i : Nat} {x : Int32} {g f d : Bool} {X M : zS} (hI : pI st pl tp bl pa ln hb g f d X M) (h0 : X.1 24 i = 0) : pI st pl tp bl pa ln hb g f d (zput X 23 i x) M := by
  obtain ⟨a1, a2, a3, a4, a5, a6, a7, a8⟩ := hI
  refine ⟨a1, a2, a3, a4, a5, ⟨fun p' t' hp' ht' => ?_, a6.2⟩, a7, a8⟩
  obtain ⟨w1, w2, w3⟩ := a6.1 p' t' hp' ht'
  refine ⟨w1, w2, fun z => ?_⟩
  obtain ⟨w4, w5⟩ := w3 z
  refine ⟨w4, ?_⟩
  show upd (X.1 23) i x (4 * p' + t') = _
  by_cases hk : 4 * p' + t' = i
  · rw [← hk, w2] at h0
    exact absurd h0 z
  · rw [upd_ne _ _ _ _ hk]; exact w5
theorem lnWants {cb : Nat → Nat} {n q st pl tp bl pa ln hb : Nat} {g f d : Bool} {X M : zS} (h : cur cb n q X M) (hw : X.1 2 6 = 1 ∧ X.1 2 7 = nI 5) (hI : pI st pl tp bl pa ln hb g f d X M) : lnR cb n q ln (f_X7_readWants_2_21 X) (fun K => zu (f_X12_readWants M) K) X M := by
  obtain ⟨X1, M1, q1, e1, e2, e3, e4, e5, -, e6, -⟩ := stepC h (i1w hw).1
  have hq := e6 (i1w hw).2
  have hI1 := pI_y hI e3 e4
  obtain ⟨⟨⟨b1, b2, b3, b4, b5, b6⟩, c1, c2, c3, c4, c5, c6, c7, c8, c9, c10⟩, a2, a3, a4, ⟨n1, n2, n3, n4⟩, a6, a7, a8⟩ := id hI1
  unfold f_X7_readWants_2_21 f_X12_readWants
  rw [e1, zu_def, c7, e2]
  simp only [zu_def]
  rw [c8]
  have gx1 := gX_y e3
  have gm1 := gMf_y e4
  rcases oldC e5 n4 with ⟨X2, M2, q2, p, g1, g2, g3, g4, g5, g6, g7, g8, g9⟩ | ⟨X', M', g1, g2, g3⟩
  · have hI2 := pI_y hI1 g6 g7
    obtain ⟨⟨-, -, -, -, -, d5, d6, -⟩, -, -, -, ⟨-, m2, -, -⟩, w6, -, -⟩ := id hI2
    rw [show f_X7_takeKnown_2 16 (nI pa) X1 = _ from g1, zb_def, if_neg (by decide), zlet_def, zlet_def, g5, d5, show f_X12_oldName 16 (nI pa) M1 = _ from g2]
    simp only [zb_def]
    rw [if_pos e5.2.2.2.2.1, g3]
    simp only [zu_def]
    unfold f_X12_readWants_B26
    rw [d6]
    have hqq := tk_q g8.2.1
    have gx2 := gX_trans gx1 (gX_y g6)
    have gm2 := gMf_trans gm1 (gMf_y g7)
    rcases oldC g8 m2 with ⟨X3, M3, q3, t, k1, k2, k3, k4, k5, k6, k7, k8, k9⟩ | ⟨X', M', k1, k2, k3⟩
    · have hI3 := pI_y hI2 k6 k7
      obtain ⟨-, -, -, -, -, w63, -, -⟩ := id hI3
      have e4' : nI p * 4 + nI t = nI (4 * p + t) := by rw [show (4 : Int32) = nI 4 from rfl, pk_mul, nI_add, Nat.mul_comm]
      have e4m : (4 : Int32) * nI p + nI t = nI (4 * p + t) := by rw [show (4 : Int32) = nI 4 from rfl, pk_mul, nI_add]
      have hz : zin (nI (4 * p + t)) 12 := zinN (by omega) (by omega)
      have hlt : nI (4 * p + t) < 12 := nI_lt (b := 12) (by omega) (by omega)
      have gx3 := gX_trans gx2 (gX_y k6)
      have gm3 := gMf_trans gm2 (gMf_y k7)
      obtain ⟨w1, w2, w3⟩ := w6.1 p t g4 (by omega)
      have w2' : X3.1 24 (4 * p + t) = M2.1 13 (4 * p + t) := by rw [k6.1 24 (by decide)]; exact w2
      rw [show f_X7_takeKnown_2 4 (nI tp) X2 = _ from k1, zb_def, if_neg (by decide), zlet_def, k5, e4', if_neg (nI_not_neg (by omega)), if_pos hlt, if_pos hlt, if_pos hz]
      simp only [nI_clamp (show 4 * p + t < 2 ^ 31 by omega), w2']
      rw [show f_X12_oldName 4 (nI tp) M2 = _ from k2]
      simp only [zb_def]
      rw [if_pos g8.2.2.2.2.1, e4m, if_pos hz]
      simp only [nI_clamp (show 4 * p + t < 2 ^ 31 by omega)]
      by_cases h0 : M2.1 13 (4 * p + t) = 0
      · -- not told yet
        rw [if_pos h0, h0, if_neg (show ¬ (0 : Int32) < 0 by decide)]
        unfold f_X12_readWants_B61
        rw [if_pos g8.2.2.2.2.1, k3]
        simp only [zu_def]
        unfold f_X12_readWants_B72
        rcases valC k8 with ⟨X4, M4, q4, x, v1, v2, v3, v4, v5, v6, v7, v8⟩ | ⟨X', M', r, v1, v2, v3⟩
        · rw [v1, zb_def, if_neg (by decide), if_pos hz, zlet_def, v4, v2]
          simp only [zb_def]
          have hI4 := pI_y hI3 v5 v6
          have z24 : X4.1 24 (4 * p + t) = 0 := by rw [v5.1 24 (by decide), w2', h0]
          have hI4' : pI st pl tp bl pa ln hb g f d (zput X4 23 (4 * p + t) x) M4 := pI_23 hI4 z24
          have hc4 : cur cb n q4 (zput X4 23 (4 * p + t) x) M4 := cur_X v7 (by decide) (by decide)
          have gx4 : gX X (zput X4 23 (4 * p + t) x) := gX_trans (gX_trans gx3 (gX_y v5)) (gX_put (Or.inr ⟨by decide, by decide⟩) (by decide))
          have gm4 := gMf_trans gm3 (gMf_y v6)
          rcases toldC (k := 16) (lo := 1) (hi := 9) hc4 (by omega) (by omega) (by omega) with ⟨X5, X', M', q', w, t1, t2, t3, t4, t5, t6, t7, t8, t9, t10, t11⟩ | ⟨X', M', r, t1, t2, t3⟩ | ⟨X5, X', M', r, t1, t2, t3, t4, t5⟩
          · left
            have hI5 := pI_y hI4' t8 t9
            rw [show f_X7_takeWord_2 16 (zput X4 23 (4 * p + t) x) = _ from t1, zb_def, if_neg (by decide), show f_X7_takeNumber_2 1 9 X5 = _ from t2, zb_def, if_neg (by decide), if_pos hz, zlet_def, t7, show f_X12_told 25209 1 9 M4 = _ from t4]
            simp only [zb_def]
            rw [if_neg (cur_nf t10), e4m, if_pos hz]
            simp only [zlet_def, nI_clamp (show 4 * p + t < 2 ^ 31 by omega), if_pos hz]
            refine ⟨_, _, q', st, pl, tp, bl, pa, hb, g, f, d, rfl, fun K => rfl, pI_wants hI5 g4 k4 v3 (by rw [t8.1 23 (by decide), zput1_eq, upd_at]) t5 t6 (fun _ _ => trivial), cur_M (cur_M (cur_X t10 (by decide) (by decide)) (by decide) (by decide)) (by decide) (by decide), by omega, gX_trans (gX_trans gx4 (gX_y t8)) (gX_put (Or.inr ⟨by decide, by decide⟩) (by decide)), gMf_trans (gMf_trans gm4 (gMf_y t9)) (gMf_trans (gMf_put (by decide) (by decide)) (gMf_put (by decide) (by decide)))⟩
          · right
            rw [show f_X7_takeWord_2 16 (zput X4 23 (4 * p + t) x) = _ from t1, zb_def, if_pos rfl, show f_X12_told 25209 1 9 M4 = _ from t2]
            simp only [zb_def]
            rw [if_pos (flt_pos t3.1).1]
            exact ⟨X', M', rfl, fun K => rfl, t3.1, gX_trans gx4 (gX_bad t3).1, gMf_trans gm4 (gX_bad t3).2⟩
          · right
            rw [show f_X7_takeWord_2 16 (zput X4 23 (4 * p + t) x) = _ from t1, zb_def, if_neg (by decide), show f_X7_takeNumber_2 1 9 X5 = _ from t3, zb_def, if_pos rfl, show f_X12_told 25209 1 9 M4 = _ from t4]
            simp only [zb_def]
            rw [if_pos (flt_pos t5.1).1]
            exact ⟨X', M', rfl, fun K => rfl, t5.1, gX_trans gx4 (gX_bad t5).1, gMf_trans gm4 (gX_bad t5).2⟩
        · right
          rw [v1, zb_def, if_pos rfl, v2]
          simp only [zb_def]
          rw [fTold (flt_pos v3.1).1]
          simp only [zb_def]
          rw [if_pos (flt_pos v3.1).1]
          exact ⟨X', M', rfl, fun K => rfl, v3.1, gX_trans gx3 (gX_bad v3).1, gMf_trans gm3 (gX_bad v3).2⟩
      · right
        have hpos : (0 : Int32) < M2.1 13 (4 * p + t) := by
          obtain ⟨v, v1, v2, v3⟩ := w1
          rw [v3] at h0 ⊢
          rw [Int32.lt_iff_toInt_lt, Int32.toInt_ofInt_of_le (by omega) (by omega), i0]
          by_cases hv : v = 0
          · rw [hv] at h0; exact absurd rfl h0
          · omega
        rw [if_neg h0, if_pos hpos]
        have hw3 := wrongM (e := 3) g8
        have hk2 : X2.1 2 6 = 1 := by
          by_cases hx : X2.1 2 6 = 1
          · exact hx
          · exfalso
            unfold f_X7_takeKnown_2 at k1
            rw [nameBX, zb_def, z01, if_neg (fun z => hx z.1)] at k1
            obtain ⟨Xr, Mr, r1, -, -⟩ := refuseC g8
            rw [r1, zb_def, if_pos znb0] at k1
            cases k1
        rw [if_neg (by rw [hk2]; decide)] at hw3
        unfold f_X7_readWants_2_21_B88 f_X7_refuse_2
        rw [zlet_def, zlet_def, zb_def, if_pos znb0, show f_X12_wrong 3 M2 = _ from hw3]
        simp only [zu_def]
        have hfl : flt (zput (zput X3 2 0 3) 2 1 (X2.1 2 4)) (zput (zput M2 0 2 (nI 3)) 0 3 (nI q2)) := by
          refine ⟨3, q2, by omega, by omega, by have := g8.1.1; omega, ?_, ?_, ?_, ?_⟩
          · rw [zput1_eq, upd_ne _ _ _ _ (by decide), zput1_eq, upd_at]; rfl
          · rw [zput1_eq, upd_ne _ _ _ _ (by decide), zput1_eq, upd_at]
          · rw [zput1_eq, upd_at]; exact hqq.2.1
          · rw [zput1_eq, upd_at]
        rw [wants61 hfl]
        exact ⟨_, _, rfl, fun K => rfl, hfl, gX_trans gx3 (gX_trans (gX_put (Or.inl rfl) (by decide)) (gX_put (Or.inl rfl) (by decide))), gMf_trans gm2 (gMf_trans (gMf_put0 (by decide)) (gMf_put0 (by decide)))⟩
    · right
      rw [show f_X7_takeKnown_2 4 (nI tp) X2 = _ from k1, zb_def, if_pos rfl, show f_X12_oldName 4 (nI tp) M2 = _ from k2]
      simp only [zb_def]
      rw [if_neg (flt_pos k3.1).2, wants61 k3.1]
      exact ⟨X', M', rfl, fun K => rfl, k3.1, gX_trans gx2 (gX_bad k3).1, gMf_trans gm2 (gX_bad k3).2⟩
  · right
    rw [show f_X7_takeKnown_2 16 (nI pa) X1 = _ from g1, zb_def, if_pos rfl, show f_X12_oldName 16 (nI pa) M1 = _ from g2]
    simp only [zb_def]
    rw [if_neg (flt_pos g3.1).2, wants26 g3.1]
    exact ⟨X', M', rfl, fun K => rfl, g3.1, gX_trans gx1 (gX_bad g3).1, gMf_trans gm1 (gX_bad g3).2⟩
