/-! ===== a bill, whole ===== -/
theorem z_ub {M' : zS} {o : Option zS} (h : o = some M') (K : zS → Option zS) : zu o K = K M' := by rw [h]; rfl
/-- the stake and what it says -/
theorem bill53 {cb : Nat → Nat} {n q st pl tp bl pa ln hb p : Nat} {g f d : Bool} {X M : zS} (h : cur cb n q X M) (hI : pI st pl tp bl pa ln hb g f d X M) (hn : nmOk 8 (bl + 1) X M) (hbl : bl < 8) (e3 : M.1 18 (8 * bl + 3) = nI p) (hp : p < pl) : lnR cb n q ln (zb (f_X7_takeWord_2 12 X) fun r17 T16 => if r17 = 0 then some (0, T16) else zb (f_X7_takeNumber_2 0 ((T16.1 21 0) - 1) T16) fun r21 T20 => if r21 = 0 then some (0, T20) else zlet (T20.1 2 11) fun v23 => zb (f_X7_isWord_2 13 T20) fun r26 T25 => if r26 = 0 then f_X7_readBill_2_21_B130 (nI bl) (nI p) v23 (-1) 0 T25 else zu (f_X7_step_2 T25) fun T29 => zb (f_X7_takeKnown_2 4 (T29.1 21 2) T29) fun r32 T31 => if r32 = 0 then some (0, T31) else zlet (T31.1 2 11) fun v34 => zb (f_X7_takeSaying_2 T31) fun r37 T36 => if r37 = 0 then some (0, T36) else zlet (T36.1 2 11) fun v39 => f_X7_readBill_2_21_B130 (nI bl) (nI p) v23 v34 v39 T36) (fun K => zu (f_X12_readBill_B53 (nI (8 * bl)) M) K) X M := by
  have hst : 2 ≤ st ∧ st ≤ 12 := ⟨hI.1.1.1, hI.1.1.2.1⟩
  have htp : tp ≤ 4 := hI.1.1.2.2.2.1
  obtain ⟨p2, z2, c2⟩ := z96 (j := 2) hbl (by omega)
  obtain ⟨p4, z4, c4⟩ := z96 (j := 4) hbl (by omega)
  have e34 : M.1 0 34 = nI st := hI.1.2.2.1
  have e210 : X.1 21 0 = nI st := hI.1.2.1
  have hs1 : nI st - 1 = nI (st - 1) := pk_sub (b := 1) (by omega)
  unfold f_X12_readBill_B53
  rw [e34, hs1]
  rcases toldC (k := 12) (lo := 0) (hi := st - 1) h (by omega) (by omega) (by omega) with ⟨X1, X2, M2, q2, s, t1, t2, t3, t4, t5, t6, t7, t8, t9, t10, t11⟩ | ⟨X', M', r, t1, t2, t3⟩ | ⟨X1, X', M', r, t1, t2, t3, t4, t5⟩
  · have e21 : X1.1 21 0 = nI st := by rw [t3.1 21 (by decide)]; exact e210
    rw [show f_X7_takeWord_2 12 X = _ from t1, zb_def, if_neg (by decide), e21, hs1, show f_X7_takeNumber_2 0 (nI (st - 1)) X1 = _ from t2, zb_def, if_neg (by decide), zlet_def, t7, wordBX, zb_def, z01, show f_X12_told 24948 0 (nI (st - 1)) M = _ from t4]
    simp only [zb_def]
    rw [show nI (8 * bl) + 2 = _ from p2, if_pos z2]
    simp only [zlet_def, c2]
    have hI2 : pI st pl tp bl pa ln hb g f d X2 (zput M2 18 (8 * bl + 2) (nI s)) := pI_18 (pI_y hI t8 t9)
    have hc2 : cur cb n q2 X2 (zput M2 18 (8 * bl + 2) (nI s)) := cur_M t10 (by decide) (by decide)
    have hnn2 : nmOk 8 (bl + 1) X2 (zput M2 18 (8 * bl + 2) (nI s)) := (nmOk_y hn t8 t9 : nmOk 8 (bl + 1) X2 M2)
    have u3 : (zput M2 18 (8 * bl + 2) (nI s)).1 18 (8 * bl + 3) = nI p := by rw [zput1_eq, upd_ne _ _ _ _ (by omega), t9.1 18 (by decide)]; exact e3
    have u2 : (zput M2 18 (8 * bl + 2) (nI s)).1 18 (8 * bl + 2) = nI s := by rw [zput1_eq, upd_at]
    have gx2 : gX X X2 := gX_y t8
    have gm2 : gMf M (zput M2 18 (8 * bl + 2) (nI s)) := gMf_trans (gMf_y t9) (gMf_put (by decide) (by decide))
    have e36 : (zput M2 18 (8 * bl + 2) (nI s)).1 0 36 = nI tp := hI2.1.2.2.2.2.2.2.1
    have hn4 : nmOk 4 tp X2 (zput M2 18 (8 * bl + 2) (nI s)) := hI2.2.2.2.2.1.2.1
    rw [e36]
    generalize zput M2 18 (8 * bl + 2) (nI s) = MA at hI2 hc2 hnn2 u3 u2 gm2 e36 hn4
    rcases behC (k := 13) hc2 (by omega) hn4 with ⟨g1, g2⟩ | ⟨g1, X3, g2, g3, ⟨X4, M4, q4, i, g4, g5, g6, g7, g8, g9, g10, g11⟩ | ⟨X', M', r, g4, g5, g6⟩⟩
    · -- it says nothing
      rw [if_neg (show ¬ (X2.1 2 6 = 1 ∧ X2.1 2 7 = 13) from g1), show f_X12_nameBehind 1935767923 4 (nI tp) MA = _ from g2]
      simp only [zb_def]
      rw [show nI (8 * bl) + 4 = _ from p4, if_pos z4]
      simp only [zlet_def, c4]
      have hcB : cur cb n q2 X2 (zput MA 18 (8 * bl + 4) (-1)) := cur_M hc2 (by decide) (by decide)
      have v4 : (zput MA 18 (8 * bl + 4) (-1)).1 18 (8 * bl + 4) = -1 := by rw [zput1_eq, upd_at]
      rw [if_pos hcB.2.2.2.2.1, if_pos z4, v4, if_pos (show (-1 : Int32) < 0 by decide)]
      rcases bill130 (say := 0) hcB (pI_18 hI2) hnn2 hbl (by rw [zput1_eq, upd_ne _ _ _ _ (by omega)]; exact u3) (by rw [zput1_eq, upd_ne _ _ _ _ (by omega)]; exact u2) v4 hp (show s < st by omega) ⟨-1, by omega, by omega, rfl⟩ ⟨0, by omega, by omega, rfl⟩ with ⟨X', M', q', k1, k2, k3, k4, k5, k6, k7⟩ | ⟨X', M', k1, k2, k3, k4, k5⟩
      · exact Or.inl ⟨X', M', q', st, pl, tp, bl + 1, pa, hb, g, f, d, k1, fun K => z_ub k2 K, k3, k4, by omega, gX_trans gx2 k6, gMf_trans gm2 (gMf_trans (gMf_put (by decide) (by decide)) k7)⟩
      · exact Or.inr ⟨X', M', k1, fun K => z_ub k2 K, k3, gX_trans gx2 k4, gMf_trans gm2 (gMf_trans (gMf_put (by decide) (by decide)) k5)⟩
    · have e212 : X3.1 21 2 = nI tp := by rw [g3.1 21 (by decide)]; exact hI2.1.2.2.2.2.2.1
      rw [if_pos (show X2.1 2 6 = 1 ∧ X2.1 2 7 = 13 from g1), g2, zu_def, e212, show f_X7_takeKnown_2 4 (nI tp) X3 = _ from g4, zb_def, if_neg (by decide), g7, show f_X12_nameBehind 1935767923 4 (nI tp) MA = _ from g5]
      simp only [zb_def]
      rw [show nI (8 * bl) + 4 = _ from p4, if_pos z4]
      simp only [zlet_def, c4]
      have hI4 : pI st pl tp bl pa ln hb g f d X4 (zput M4 18 (8 * bl + 4) (nI i)) := pI_18 (pI_y hI2 g8 g9)
      have hcB : cur cb n q4 X4 (zput M4 18 (8 * bl + 4) (nI i)) := cur_M g10 (by decide) (by decide)
      have hnn4 : nmOk 8 (bl + 1) X4 (zput M4 18 (8 * bl + 4) (nI i)) := (nmOk_y hnn2 g8 g9 : nmOk 8 (bl + 1) X4 M4)
      have v4 : (zput M4 18 (8 * bl + 4) (nI i)).1 18 (8 * bl + 4) = nI i := by rw [zput1_eq, upd_at]
      have v3 : (zput M4 18 (8 * bl + 4) (nI i)).1 18 (8 * bl + 3) = nI p := by rw [zput1_eq, upd_ne _ _ _ _ (by omega), g9.1 18 (by decide)]; exact u3
      have v2 : (zput M4 18 (8 * bl + 4) (nI i)).1 18 (8 * bl + 2) = nI s := by rw [zput1_eq, upd_ne _ _ _ _ (by omega), g9.1 18 (by decide)]; exact u2
      have gx4 := gX_trans gx2 (gX_y g8)
      have gm4 : gMf M (zput M4 18 (8 * bl + 4) (nI i)) := gMf_trans (gMf_trans gm2 (gMf_y g9)) (gMf_put (by decide) (by decide))
      rw [if_pos hcB.2.2.2.2.1, if_pos z4, v4, if_neg (nI_not_neg (by omega))]
      generalize zput M4 18 (8 * bl + 4) (nI i) = MB at hI4 hcB hnn4 v4 v3 v2 gm4
      rcases valC hcB with ⟨X5, M5, q5, x, w1, w2, w3, w4, w5, w6, w7, w8⟩ | ⟨X', M', r, w1, w2, w3⟩
      · rw [w1, zb_def, if_neg (by decide), w4, w2]
        simp only [zb_def]
        rcases bill130 (say := x) w7 (pI_y hI4 w5 w6) (nmOk_y hnn4 w5 w6) hbl (by rw [w6.1 18 (by decide)]; exact v3) (by rw [w6.1 18 (by decide)]; exact v2) (by rw [w6.1 18 (by decide)]; exact v4) hp (show s < st by omega) ⟨i, by omega, by omega, rfl⟩ w3 with ⟨X', M', q', k1, k2, k3, k4, k5, k6, k7⟩ | ⟨X', M', k1, k2, k3, k4, k5⟩
        · exact Or.inl ⟨X', M', q', st, pl, tp, bl + 1, pa, hb, g, f, d, k1, fun K => z_ub k2 K, k3, k4, by omega, gX_trans gx4 (gX_trans (gX_y w5) k6), gMf_trans gm4 (gMf_trans (gMf_y w6) k7)⟩
        · exact Or.inr ⟨X', M', k1, fun K => z_ub k2 K, k3, gX_trans gx4 (gX_trans (gX_y w5) k4), gMf_trans gm4 (gMf_trans (gMf_y w6) k5)⟩
      · right
        rw [w1, zb_def, if_pos rfl, w2]
        simp only [zb_def]
        obtain ⟨M'', y1, y2, y3⟩ := bill130F (s0 := r) w3.1 hbl
        exact ⟨X', M'', rfl, fun K => z_ub y1 K, y2, gX_trans gx4 (gX_bad w3).1, gMf_trans (gMf_trans gm4 (gX_bad w3).2) y3⟩
    · right
      have e212 : X3.1 21 2 = nI tp := by rw [g3.1 21 (by decide)]; exact hI2.1.2.2.2.2.2.1
      rw [if_pos (show X2.1 2 6 = 1 ∧ X2.1 2 7 = 13 from g1), g2, zu_def, e212, show f_X7_takeKnown_2 4 (nI tp) X3 = _ from g4, zb_def, if_pos rfl, show f_X12_nameBehind 1935767923 4 (nI tp) MA = _ from g5]
      simp only [zb_def]
      rw [show nI (8 * bl) + 4 = _ from p4, if_pos z4]
      simp only [zlet_def, c4]
      have hf : flt X' (zput M' 18 (8 * bl + 4) r) := flt_e g6.1 rfl rfl
      rw [if_neg (flt_pos hf).2]
      obtain ⟨M'', y1, y2, y3⟩ := bill130F (s0 := 0) hf hbl
      exact ⟨X', M'', rfl, fun K => z_ub y1 K, y2, gX_trans gx2 (gX_bad g6).1, gMf_trans (gMf_trans (gMf_trans gm2 (gX_bad g6).2) (gMf_put (by decide) (by decide))) y3⟩
  · right
    have hf := flt_pos t3.1
    rw [show f_X7_takeWord_2 12 X = _ from t1, zb_def, if_pos rfl, show f_X12_told 24948 0 (nI (st - 1)) M = _ from t2]
    simp only [zb_def]
    rw [show nI (8 * bl) + 2 = _ from p2, if_pos z2]
    simp only [zlet_def, c2]
    rw [fBeh (M := zput M' 18 (8 * bl + 2) r) hf.1]
    simp only [zb_def]
    rw [show nI (8 * bl) + 4 = _ from p4, if_pos z4]
    simp only [zlet_def, c4]
    have hf2 : flt X' (zput (zput M' 18 (8 * bl + 2) r) 18 (8 * bl + 4) (-1)) := flt_e t3.1 rfl rfl
    rw [if_neg (flt_pos hf2).2]
    obtain ⟨M'', y1, y2, y3⟩ := bill130F (s0 := 0) hf2 hbl
    exact ⟨X', M'', rfl, fun K => z_ub y1 K, y2, (gX_bad t3).1, gMf_trans (gMf_trans (gMf_trans (gX_bad t3).2 (gMf_put (by decide) (by decide))) (gMf_put (by decide) (by decide))) y3⟩
  · right
    have hf := flt_pos t5.1
    have e21 : X1.1 21 0 = nI st := by rw [t2.1 21 (by decide)]; exact e210
    rw [show f_X7_takeWord_2 12 X = _ from t1, zb_def, if_neg (by decide), e21, hs1, show f_X7_takeNumber_2 0 (nI (st - 1)) X1 = _ from t3, zb_def, if_pos rfl, show f_X12_told 24948 0 (nI (st - 1)) M = _ from t4]
    simp only [zb_def]
    rw [show nI (8 * bl) + 2 = _ from p2, if_pos z2]
    simp only [zlet_def, c2]
    rw [fBeh (M := zput M' 18 (8 * bl + 2) r) hf.1]
    simp only [zb_def]
    rw [show nI (8 * bl) + 4 = _ from p4, if_pos z4]
    simp only [zlet_def, c4]
    have hf2 : flt X' (zput (zput M' 18 (8 * bl + 2) r) 18 (8 * bl + 4) (-1)) := flt_e t5.1 rfl rfl
    rw [if_neg (flt_pos hf2).2]
    obtain ⟨M'', y1, y2, y3⟩ := bill130F (s0 := 0) hf2 hbl
    exact ⟨X', M'', rfl, fun K => z_ub y1 K, y2, (gX_bad t5).1, gMf_trans (gMf_trans (gMf_trans (gX_bad t5).2 (gMf_put (by decide) (by decide))) (gMf_put (by decide) (by decide))) y3⟩
theorem lnBill {cb : Nat → Nat} {n q st pl tp bl pa ln hb : Nat} {g f d : Bool} {X M : zS} (h : cur cb n q X M) (hw : X.1 2 6 = 1 ∧ X.1 2 7 = nI 3) (hI : pI st pl tp bl pa ln hb g f d X M) (hbl : bl < 8) : lnR cb n q ln (f_X7_readBill_2_21 X) (fun K => zu (f_X12_readBill M) K) X M := by
  obtain ⟨⟨⟨b1, b2, b3, b4, b5, b6⟩, c1, c2, c3, c4, c5, c6, c7, c8, c9, c10⟩, a2, a3, a4, ⟨n1, n2, n3, n4⟩, a6, a7, a8⟩ := id hI
  obtain ⟨p3, z3, d3⟩ := z96 (j := 3) hbl (by omega)
  have e8 : (8 : Int32) * nI bl = nI (8 * bl) := pk_mul 8 bl
  unfold f_X7_readBill_2_21 f_X12_readBill
  rw [zlet_def, c9, c10]
  -- behind a fault, ahead of the stake
  have endF : ∀ (X' M' : zS) (r : Int32), flt X' M' → gX X X' → gMf M M' → ∃ M'', (if zin (nI (8 * bl) + 3) 96 then zlet (zput M' 18 (nI (8 * bl) + 3).toNatClampNeg r) fun T10 => if (T10.1 0 2) = 0 then zu (f_X12_token T10) fun T13 => f_X12_readBill_B53 (nI (8 * bl)) T13 else f_X12_readBill_B53 (nI (8 * bl)) T10 else none) = some M'' ∧ flt X' M'' ∧ gMf M M'' := by
    intro X' M' r hf gx gm
    rw [show nI (8 * bl) + 3 = _ from p3, if_pos z3, zlet_def, d3, if_neg (show ¬ (zput M' 18 (8 * bl + 3) r).1 0 2 = 0 from (flt_pos hf).2)]
    obtain ⟨M'', y1, y2, y3⟩ := bill53F (X := X') (M := zput M' 18 (8 * bl + 3) r) (flt_e hf rfl rfl) hbl
    exact ⟨M'', y1, y2, gMf_trans (gMf_trans gm (gMf_put (by decide) (by decide))) y3⟩
  rcases newC (most := 8) h hw.1 n3 hbl (by omega) (by omega) with ⟨X1, M1, q1, x, m, g1, g2, g3, g4, g5, g6, g7, g8⟩ | ⟨X', M', g1, g2, g3⟩
  · have hJ : pI st pl tp bl pa ln hb g f d (zputL X 3 (8 + bl) x) (zputL M 2 (8 + bl) m) := ⟨⟨⟨b1, b2, b3, b4, b5, b6⟩, c1, c2, c3, c4, c5, c6, c7, c8, c9, c10⟩, a2, a3, a4, ⟨nmOk_oth n1 (by omega), nmOk_oth n2 (by omega), nmOk_oth n3 (by omega), nmOk_oth n4 (by omega)⟩, a6, a7, a8⟩
    have hI1 := pI_y hJ g5 g6
    have hn1 : nmOk 8 (bl + 1) X1 M1 := nmOk_y (nmOk_new n3 (by omega) g3 g4) g5 g6
    have gx1 : gX X X1 := gX_trans gX_putL (gX_y g5)
    have gm1 : gMf M M1 := gMf_trans gMf_putL (gMf_y g6)
    have e37 : M1.1 0 37 = nI bl := hI1.1.2.2.2.2.2.2.2.2.2.2
    rw [show f_X7_beginSort_2 8 (nI bl) 8 X = _ from g1, zb_def, if_neg (by decide), show f_X12_newName 8 (nI bl) M = _ from g2]
    simp only [zu_def]
    rw [zlet_def, e37, e8]
    rcases wantC (k := 11) g7 (by omega) with ⟨X2, M2, q2, t1, t2, t3, t4, t5, t6⟩ | ⟨X', M', t1, t2, t3⟩
    · have hI2 := pI_y hI1 t3 t4
      have hn2 := nmOk_y hn1 t3 t4
      have gx2 := gX_trans gx1 (gX_y t3)
      have gm2 := gMf_trans gm1 (gMf_y t4)
      have e211 : X2.1 21 1 = nI pl := hI2.1.2.2.2.1
      have e35 : M2.1 0 35 = nI pl := hI2.1.2.2.2.2.1
      have hn0 : nmOk 0 pl X2 M2 := hI2.2.2.2.2.1.1
      rw [show f_X7_takeWord_2 11 X1 = _ from t1, zb_def, if_neg (by decide), e211, show f_X12_want 28518 M1 = _ from t2]
      simp only [zu_def]
      rw [e35]
      rcases oldC t5 hn0 with ⟨X3, M3, q3, p, k1, k2, k3, k4, k5, k6, k7, k8, k9⟩ | ⟨X', M', k1, k2, k3⟩
      · have hc3 : cur cb n q2 X2 (zput M2 18 (8 * bl + 3) (nI p)) := cur_M t5 (by decide) (by decide)
        have hkk : ¬ X2.1 2 6 = 4 := by
          intro hx
          unfold f_X7_takeKnown_2 at k1
          rw [nameBX, zb_def, z01, if_neg (fun z => by rw [hx] at z; exact absurd z.1 (by decide))] at k1
          obtain ⟨Xr, Mr, r1, -, -⟩ := refuseC t5
          rw [r1, zb_def, if_pos znb0] at k1
          cases k1
        rw [show f_X7_takeKnown_2 0 (nI pl) X2 = _ from k1, zb_def, if_neg (by decide), zlet_def, k5, show f_X12_oldName 0 (nI pl) M2 = _ from k2]
        simp only [zb_def]
        rw [show nI (8 * bl) + 3 = _ from p3, if_pos z3]
        simp only [zlet_def, d3]
        rw [if_pos hc3.2.2.2.2.1]
        -- the class has stepped behind the name: so does the reference
        obtain ⟨Xq, Mq, qq, s1, s2, s3, s4, s5, s6, s7, s8⟩ := stepC (cur_11 (x := nI p) hc3) (by rw [zput1_eq, upd_ne _ _ _ _ (by decide)]; exact hkk)
        have hX3 : X3 = Xq := by
          unfold f_X7_takeKnown_2 at k1
          rw [nameBX, zb_def, z01] at k1
          by_cases hnm : X2.1 2 6 = 1 ∧ X2.1 2 7 = -1
          · rw [if_pos hnm] at k1
            obtain ⟨hwr, -⟩ := (tk_word t5.2.1).2 hnm.1
            rcases findC hn0 hwr with ⟨f1, -, -⟩ | ⟨i, hi, f1, f2⟩
            · rw [show f_X7_findName_2 (nI 0) (nI pl) X2 = _ from f1, zb_def, zlet_def, show (zput X2 2 11 (-1)).1 2 11 = -1 by rw [zput1_eq, upd_at], if_pos rfl] at k1
              unfold f_X7_refuse_2 at k1
              rw [zlet_def, zlet_def, zb_def, if_pos znb0] at k1
              cases k1
            · have hip : i = p := by
                have := k2
                unfold f_X12_oldName at this
                rw [if_neg (cur_nf t5), nameBM t5.2.1, zb_def, z01, if_pos hnm, f2, zb_def, if_neg (nI_not_neg (by omega))] at this
                unfold f_X12_oldName_B38 at this
                rw [if_neg (cur_nf t5), f2, zb_def] at this
                have h1 := congrArg (fun z : Option (Int32 × zS) => z.map (·.1)) this
                exact (nI_eq (by omega) (by omega)).mp (Option.some.inj h1)
              subst hip
              rw [show f_X7_findName_2 (nI 0) (nI pl) X2 = _ from f1, zb_def, zlet_def, show (zput X2 2 11 (nI i)).1 2 11 = nI i by rw [zput1_eq, upd_at], if_neg (nI_neg1 (by omega)), s1, zu_def] at k1
              cases k1
              rfl
          · rw [if_neg hnm] at k1
            obtain ⟨Xr, Mr, r1, -, -⟩ := refuseC t5
            rw [r1, zb_def, if_pos znb0] at k1
            cases k1
        subst hX3
        rw [s2]
        simp only [zu_def]
        have hIq : pI st pl tp bl pa ln hb g f d X3 Mq := pI_y (pI_18 hI2) (yX_trans yX_11 s3) s4
        have hnq : nmOk 8 (bl + 1) X3 Mq := nmOk_y (M := zput M2 18 (8 * bl + 3) (nI p)) hn2 (yX_trans yX_11 s3) s4
        have e3q : Mq.1 18 (8 * bl + 3) = nI p := by rw [s4.1 18 (by decide), zput1_eq, upd_at]
        have gxq := gX_trans gx2 (gX_y (yX_trans yX_11 s3))
        have gmq : gMf M Mq := gMf_trans (gMf_trans gm2 (gMf_put (k := 18) (i := 8 * bl + 3) (x := nI p) (by decide) (by decide))) (gMf_y s4)
        rcases bill53 s5 hIq hnq hbl e3q k4 with ⟨X', M', q', st', pl', tp', bl', pa', hb', g', f', d', y1, y2, y3, y4, y5, y6, y7⟩ | ⟨X', M', y1, y2, y3, y4, y5⟩
        · exact Or.inl ⟨X', M', q', st', pl', tp', bl', pa', hb', g', f', d', y1, y2, y3, y4, by omega, gX_trans gxq y6, gMf_trans gmq y7⟩
        · exact Or.inr ⟨X', M', y1, y2, y3, gX_trans gxq y4, gMf_trans gmq y5⟩
      · right
        rw [show f_X7_takeKnown_2 0 (nI pl) X2 = _ from k1, zb_def, if_pos rfl, show f_X12_oldName 0 (nI pl) M2 = _ from k2]
        simp only [zb_def]
        obtain ⟨M'', y1, y2, y3⟩ := endF X' M' 0 k3.1 (gX_trans gx2 (gX_bad k3).1) (gMf_trans gm2 (gX_bad k3).2)
        exact ⟨X', M'', rfl, fun K => z_ub y1 K, y2, gX_trans gx2 (gX_bad k3).1, y3⟩
    · right
      rw [show f_X7_takeWord_2 11 X1 = _ from t1, zb_def, if_pos rfl, show f_X12_want 28518 M1 = _ from t2]
      simp only [zu_def]
      rw [fOld (flt_pos t3.1).1]
      simp only [zb_def]
      obtain ⟨M'', y1, y2, y3⟩ := endF X' M' 0 t3.1 (gX_trans gx1 (gX_bad t3).1) (gMf_trans gm1 (gX_bad t3).2)
      exact ⟨X', M'', rfl, fun K => z_ub y1 K, y2, gX_trans gx1 (gX_bad t3).1, y3⟩
  · right
    have e37 : M'.1 0 37 = nI bl := by rw [g3.2.2.2.1 37 (by decide) (by decide) (by decide) (by decide) (by decide) (by decide)]; exact c10
    rw [show f_X7_beginSort_2 8 (nI bl) 8 X = _ from g1, zb_def, if_pos rfl, show f_X12_newName 8 (nI bl) M = _ from g2]
    simp only [zu_def]
    rw [zlet_def, e37, e8, fWant (flt_pos g3.1).1]
    simp only [zu_def]
    rw [fOld (flt_pos g3.1).1]
    simp only [zb_def]
    obtain ⟨M'', y1, y2, y3⟩ := endF X' M' 0 g3.1 (gX_bad g3).1 (gX_bad g3).2
    exact ⟨X', M'', rfl, fun K => z_ub y1 K, y2, (gX_bad g3).1, y3⟩
