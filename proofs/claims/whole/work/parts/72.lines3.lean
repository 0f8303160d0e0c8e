/-! ===== plant, wants ===== -/
theorem zput_sm {S : zS} {k i : Nat} {x : Int32} (h : S.1 k i = x) : zput S k i x = S := by
  refine Prod.ext (funext fun k' => funext fun i' => ?_) rfl
  rw [zput1]
  by_cases hk : k' = k ∧ i' = i
  · rw [if_pos hk, hk.1, hk.2, h]
  · rw [if_neg hk]
theorem pI_plant {st pl tp bl pa ln hb v : Nat} {g f d : Bool} {X M : zS} (hI : pI st pl tp bl pa ln hb g f d X M) (hn : nmOk 0 (pl + 1) X M) (hp : pl < 4) (h1 : 1 ≤ v) (h2 : v ≤ 99) (hd : Bool) : pI st (pl + 1) tp bl pa ln (if hd then hb ||| 2 ^ pl else hb) g f d (zput (zput (zput X 22 pl (nI v)) 21 6 (nI (if hd then hb ||| 2 ^ pl else hb))) 21 1 (nI (pl + 1))) (zput (zput (zput M 10 pl (nI v)) 16 pl (if hd then 1 else 0)) 0 35 (nI (pl + 1))) := by
  obtain ⟨⟨⟨b1, b2, b3, b4, b5, b6⟩, c1, c2, c3, c4, c5, c6, c7, c8, c9, c10⟩, a2, ⟨y1, y2, y3, y4⟩, a4, ⟨n1, n2, n3, n4⟩, a6, a7, a8⟩ := hI
  obtain ⟨z1, z2, z3, z4, z5, z6⟩ := hd_or pl hp hb y1
  refine ⟨⟨⟨b1, b2, by omega, b4, b5, b6⟩, c1, c2, rfl, rfl, c5, c6, c7, c8, c9, c10⟩, a2, ⟨?_, rfl, fun p hpp => ?_, fun p hpp => ?_⟩, a4, ⟨hn, n2, n3, n4⟩, a6, ⟨fun b hb => ?_, a7.2⟩, a8⟩
  · cases hd with
    | true => exact z2
    | false => exact z3
  · show upd (M.1 16) pl (if hd then 1 else 0) p = _
    by_cases hpl : p = pl
    · subst hpl
      rw [upd_at]
      cases hd with
      | true => rw [if_pos rfl, if_pos rfl, if_pos z5]
      | false => simp [z4]
    · rw [upd_ne _ _ _ _ hpl, y3 p (by omega)]
      cases hd with
      | true => rw [if_pos rfl, z6 p (by omega)]
      | false => rw [if_neg (show ¬ false = true by decide)]
  · show isI 1 99 (upd (M.1 10) pl (nI v) p) ∧ upd (X.1 22) pl (nI v) p = upd (M.1 10) pl (nI v) p
    by_cases hpl : p = pl
    · subst hpl
      rw [upd_at, upd_at]
      exact ⟨⟨v, by omega, by omega, rfl⟩, rfl⟩
    · rw [upd_ne _ _ _ _ hpl, upd_ne _ _ _ _ hpl]
      exact y4 p (by omega)
  · obtain ⟨d1, d2, d3, ⟨p, p1, p2, p3⟩, d5⟩ := a7.1 b hb
    refine ⟨d1, d2, d3, ⟨p, by omega, p2, ?_⟩, d5⟩
    show M.1 18 (8 * b) = upd (M.1 10) pl (nI v) p
    rw [upd_ne _ _ _ _ (by omega)]; exact p3
theorem plantF {X M : zS} {pl : Nat} {r : Int32} (h : flt X M) (hp : pl < 4) (e : M.1 0 35 = nI pl) : (if zin (nI pl) 4 then zlet (zput M 10 (nI pl).toNatClampNeg r) fun T7 => if (T7.1 0 2) = 0 then zb (f_X12_isWord 448311485561 T7) fun r11 T10 => if r11 = 0 then f_X12_readPlant_B58 0 (T7.1 0 35) T10 else f_X12_readPlant_B58 1 (T7.1 0 35) T10 else f_X12_readPlant_B58 0 (T7.1 0 35) T7 else none) = some (zput (zput M 10 pl r) 16 pl 0) := by
  have hf := flt_pos h
  have e1 : (zput M 10 pl r).1 0 35 = nI pl := by rw [zput1_ne _ _ _ _ _ (by decide)]; exact e
  have e2 : ¬ (zput M 10 pl r).1 0 2 = 0 := by rw [zput1_ne _ _ _ _ _ (by decide)]; exact hf.2
  rw [if_pos (zinN hp (by omega)), zlet_def, nI_clamp (by omega), if_neg e2, e1]
  unfold f_X12_readPlant_B58 f_X12_readPlant_B75
  have e3 : (zput (zput M 10 pl r) 16 pl 0).1 0 35 = nI pl := by rw [zput1_ne _ _ _ _ _ (by decide)]; exact e1
  have e4 : ¬ (zput (zput M 10 pl r) 16 pl 0).1 0 2 = 0 := by rw [zput1_ne _ _ _ _ _ (by decide)]; exact e2
  rw [if_pos (zinN hp (by omega)), zlet_def, nI_clamp (by omega), show vp_nar .boolean (0 : Int32) = 0 from rfl, e3, if_pos (zinN hp (by omega)), nI_clamp (by omega), zput1_eq, upd_at, if_pos rfl, if_neg e4]
theorem lnPlant {cb : Nat → Nat} {n q st pl tp bl pa ln hb : Nat} {g f d : Bool} {X M : zS} (h : cur cb n q X M) (hw : X.1 2 6 = 1 ∧ X.1 2 7 = nI 1) (hI : pI st pl tp bl pa ln hb g f d X M) (ht : pl < 4) : lnR cb n q ln (f_X7_readPlant_2_21 X) (fun K => zu (f_X12_readPlant M) K) X M := by
  obtain ⟨⟨⟨b1, b2, b3, b4, b5, b6⟩, c1, c2, c3, c4, c5, c6, c7, c8, c9, c10⟩, a2, a3, a4, ⟨n1, n2, n3, n4⟩, a6, a7, a8⟩ := id hI
  unfold f_X7_readPlant_2_21 f_X12_readPlant
  rw [zlet_def, c3, c4]
  have faultEnd : ∀ (X' M' : zS) (r : Int32), flt X' M' → M'.1 0 35 = nI pl → gX X X' → gMf M M' → ∀ (T2 T4 : zS), T2.1 0 35 = nI pl → T4 = M' → ∃ M'', (if zin (T2.1 0 35) 4 then zlet (zput T4 10 (T2.1 0 35).toNatClampNeg r) fun T7 => if (T7.1 0 2) = 0 then zb (f_X12_isWord 448311485561 T7) fun r11 T10 => if r11 = 0 then f_X12_readPlant_B58 0 (T7.1 0 35) T10 else f_X12_readPlant_B58 1 (T7.1 0 35) T10 else f_X12_readPlant_B58 0 (T7.1 0 35) T7 else none) = some M'' ∧ flt X' M'' ∧ gMf M M'' := by
    intro X' M' r hf e35 gx gm T2 T4 eT2 eT4
    subst eT4
    rw [eT2]
    exact ⟨_, plantF hf ht e35, flt_e hf rfl rfl, gMf_trans gm (gMf_trans (gMf_put (by decide) (by decide)) (gMf_put (by decide) (by decide)))⟩
  rcases newC (most := 4) h hw.1 n1 ht (by omega) (by omega) with ⟨X1, M1, q1, x, m, g1, g2, g3, g4, g5, g6, g7, g8⟩ | ⟨X', M', g1, g2, g3⟩
  · have hJ : pI st pl tp bl pa ln hb g f d (zputL X 3 (0 + pl) x) (zputL M 2 (0 + pl) m) := ⟨⟨⟨b1, b2, b3, b4, b5, b6⟩, c1, c2, c3, c4, c5, c6, c7, c8, c9, c10⟩, a2, a3, a4, ⟨nmOk_oth n1 (by omega), nmOk_oth n2 (by omega), nmOk_oth n3 (by omega), nmOk_oth n4 (by omega)⟩, a6, a7, a8⟩
    have hI1 := pI_y hJ g5 g6
    have hn1 : nmOk 0 (pl + 1) X1 M1 := nmOk_y (nmOk_new n1 (by omega) g3 g4) g5 g6
    have gx1 : gX X X1 := gX_trans gX_putL (gX_y g5)
    have gm1 : gMf M M1 := gMf_trans gMf_putL (gMf_y g6)
    have e35 : M1.1 0 35 = nI pl := hI1.1.2.2.2.2.1
    rw [show f_X7_beginSort_2 0 (nI pl) 4 X = _ from g1, zb_def, if_neg (by decide), show f_X12_newName 0 (nI pl) M = _ from g2]
    simp only [zu_def]
    rcases toldC (k := 9) (lo := 1) (hi := 99) g7 (by omega) (by omega) (by omega) with ⟨X3, X2, M2, q2, v, t1, t2, t3, t4, t5, t6, t7, t8, t9, t10, t11⟩ | ⟨X', M', r, t1, t2, t3⟩ | ⟨X3, X', M', r, t1, t2, t3, t4, t5⟩
    · left
      have hI2 := pI_y hI1 t8 t9
      have hn2 := nmOk_y hn1 t8 t9
      have c3' : ¬ nI pl < 0 := nI_not_neg (by omega)
      have c4' : nI pl < 4 := nI_lt (b := 4) ht (by omega)
      have hz : zin (nI pl) 4 := zinN ht (by omega)
      rw [show f_X7_takeWord_2 9 X1 = _ from t1, zb_def, if_neg (by decide), show f_X7_takeNumber_2 1 99 X3 = _ from t2, zb_def, if_neg (by decide), if_neg c3', if_pos c4', if_pos hz, zlet_def, nI_clamp (by omega), t7, show f_X12_told 1818846821 1 99 M1 = _ from t4, e35]
      simp only [zb_def]
      rw [if_pos hz]
      simp only [zlet_def, nI_clamp (show pl < 2 ^ 31 by omega)]
      have hca : cur cb n q2 (zput X2 22 pl (nI v)) (zput M2 10 pl (nI v)) := cur_M (cur_X t10 (by decide) (by decide)) (by decide) (by decide)
      have hfa : (zput M2 10 pl (nI v)).1 0 2 = 0 := hca.2.2.2.2.1
      have e35a : (zput M2 10 pl (nI v)).1 0 35 = nI pl := hI2.1.2.2.2.2.1
      have e6 : X2.1 21 6 = nI hb := hI2.2.2.1.2.1
      have e1 : X2.1 21 1 = nI pl := hI2.1.2.2.2.1
      have hww : f_X12_isWord 448311485561 (zput M2 10 pl (nI v)) = some (if (zput X2 22 pl (nI v)).1 2 6 = 1 ∧ (zput X2 22 pl (nI v)).1 2 7 = 10 then 1 else 0, zput M2 10 pl (nI v)) := wordBM hca.2.1 (k := 10) (by omega)
      unfold f_X7_readPlant_2_21_B59
      rw [wordBX, zb_def, z01, if_pos hfa, hww]
      simp only [zb_def]
      rw [z01, e35a]
      unfold f_X12_readPlant_B58 f_X7_readPlant_2_21_B84
      by_cases hh : (zput X2 22 pl (nI v)).1 2 6 = 1 ∧ (zput X2 22 pl (nI v)).1 2 7 = 10
      · have hd1 := hd_or pl ht hb hI2.2.2.1.1
        have hcb : cur cb n q2 (zput (zput X2 22 pl (nI v)) 21 6 (nI (hb ||| 2 ^ pl))) (zput (zput M2 10 pl (nI v)) 16 pl 1) := cur_M (cur_X hca (by decide) (by decide)) (by decide) (by decide)
        obtain ⟨Xc, Mc, qc, s1, s2, s3, s4, s5, s6, -, -⟩ := stepC hcb (by show ¬ (zput X2 22 pl (nI v)).1 2 6 = 4; rw [hh.1]; decide)
        have hpi := pI_y (pI_plant hI2 hn2 ht t5 t6 true) (yX_k (k := 21) (i := 1) (x := nI (pl + 1)) s3 (by decide)) (yM_0 (i := 35) (x := nI (pl + 1)) s4 (by decide))
        have ec1 : Xc.1 21 1 = nI pl := by rw [s3.1 21 (by decide)]; exact e1
        have em35 : Mc.1 0 35 = nI pl := by rw [s4.2.1 35 (by decide) (by decide) (by decide) (by decide)]; exact e35a
        have em2 : Mc.1 0 2 = 0 := s5.2.2.2.2.1
        rw [if_pos hh, show (zput X2 22 pl (nI v)).1 21 6 = nI hb from e6, hd1.1, zlet_def, s1, zu_def, zlet_def, ec1, nI_1]
        refine ⟨_, zput Mc 0 35 (nI (pl + 1)), qc, st, pl + 1, tp, bl, pa, _, g, f, d, rfl, fun K => ?_, hpi, cur_M0 (cur_X s5 (by decide) (by decide)) (Or.inl (by decide)), by omega, gX_trans (gX_trans (gX_trans gx1 (gX_trans (gX_y t8) (gX_trans (gX_put (k := 22) (i := pl) (x := nI v) (Or.inr ⟨by decide, by decide⟩) (by decide)) (gX_put (k := 21) (i := 6) (x := nI (hb ||| 2 ^ pl)) (Or.inr ⟨by decide, by decide⟩) (by decide))))) (gX_y s3)) (gX_put (Or.inr ⟨by decide, by decide⟩) (by decide)), gMf_trans (gMf_trans (gMf_trans gm1 (gMf_trans (gMf_y t9) (gMf_trans (gMf_put (k := 10) (i := pl) (x := nI v) (by decide) (by decide)) (gMf_put (k := 16) (i := pl) (x := 1) (by decide) (by decide))))) (gMf_y s4)) (gMf_put0 (by decide))⟩
        rw [if_pos hh]
        simp only [if_pos hz, zlet_def, nI_clamp (show pl < 2 ^ 31 by omega), show vp_nar .boolean (1 : Int32) = 1 from rfl, show (zput (zput M2 10 pl (nI v)) 16 pl 1).1 0 35 = nI pl from e35a]
        rw [show (zput (zput M2 10 pl (nI v)) 16 pl 1).1 16 pl = 1 by rw [zput1_eq, upd_at], if_neg (by decide), s2]
        unfold f_X12_readPlant_B75
        simp only [zu_def]
        rw [if_pos em2, zlet_def, em35, nI_1]
        rfl
      · have hpi := pI_plant hI2 hn2 ht t5 t6 false
        simp only [if_neg (show ¬ false = true by decide)] at hpi
        rw [zput_sm (S := zput X2 22 pl (nI v)) (k := 21) (i := 6) (x := nI hb) e6] at hpi
        rw [if_neg hh, zlet_def, show (zput X2 22 pl (nI v)).1 21 1 = nI pl from e1, nI_1]
        refine ⟨_, zput (zput (zput M2 10 pl (nI v)) 16 pl 0) 0 35 (nI (pl + 1)), q2, st, pl + 1, tp, bl, pa, _, g, f, d, rfl, fun K => ?_, hpi, cur_M0 (cur_M (cur_X hca (by decide) (by decide)) (by decide) (by decide)) (Or.inl (by decide)), by omega, gX_trans (gX_trans gx1 (gX_trans (gX_y t8) (gX_put (k := 22) (i := pl) (x := nI v) (Or.inr ⟨by decide, by decide⟩) (by decide)))) (gX_put (Or.inr ⟨by decide, by decide⟩) (by decide)), gMf_trans (gMf_trans gm1 (gMf_trans (gMf_y t9) (gMf_trans (gMf_put (k := 10) (i := pl) (x := nI v) (by decide) (by decide)) (gMf_put (k := 16) (i := pl) (x := 0) (by decide) (by decide))))) (gMf_put0 (by decide))⟩
        rw [if_neg hh]
        simp only [if_pos hz, zlet_def, nI_clamp (show pl < 2 ^ 31 by omega), show vp_nar .boolean (0 : Int32) = 0 from rfl, show (zput (zput M2 10 pl (nI v)) 16 pl 0).1 0 35 = nI pl from e35a]
        rw [show (zput (zput M2 10 pl (nI v)) 16 pl 0).1 16 pl = 0 by rw [zput1_eq, upd_at], if_pos rfl]
        unfold f_X12_readPlant_B75
        rw [if_pos (show (zput (zput M2 10 pl (nI v)) 16 pl 0).1 0 2 = 0 from hfa), zlet_def, show (zput (zput M2 10 pl (nI v)) 16 pl 0).1 0 35 = nI pl from e35a, nI_1]
        rfl
    · right
      rw [show f_X7_takeWord_2 9 X1 = _ from t1, zb_def, if_pos rfl, show f_X12_told 1818846821 1 99 M1 = _ from t2]
      simp only [zb_def]
      obtain ⟨M'', z1, z2, z3⟩ := faultEnd X' M' r t3.1 (by rw [t3.2.2.2.1 35 (by decide) (by decide) (by decide) (by decide) (by decide) (by decide)]; exact e35) (gX_trans gx1 (gX_bad t3).1) (gMf_trans gm1 (gX_bad t3).2) M1 M' e35 rfl
      rw [z1]
      exact ⟨X', M'', rfl, fun K => rfl, z2, gX_trans gx1 (gX_bad t3).1, z3⟩
    · right
      rw [show f_X7_takeWord_2 9 X1 = _ from t1, zb_def, if_neg (by decide), show f_X7_takeNumber_2 1 99 X3 = _ from t3, zb_def, if_pos rfl, show f_X12_told 1818846821 1 99 M1 = _ from t4]
      simp only [zb_def]
      obtain ⟨M'', z1, z2, z3⟩ := faultEnd X' M' r t5.1 (by rw [t5.2.2.2.1 35 (by decide) (by decide) (by decide) (by decide) (by decide) (by decide)]; exact e35) (gX_trans gx1 (gX_bad t5).1) (gMf_trans gm1 (gX_bad t5).2) M1 M' e35 rfl
      rw [z1]
      exact ⟨X', M'', rfl, fun K => rfl, z2, gX_trans gx1 (gX_bad t5).1, z3⟩
  · right
    have e35 : M'.1 0 35 = nI pl := by rw [g3.2.2.2.1 35 (by decide) (by decide) (by decide) (by decide) (by decide) (by decide)]; exact c4
    rw [show f_X7_beginSort_2 0 (nI pl) 4 X = _ from g1, zb_def, if_pos rfl, show f_X12_newName 0 (nI pl) M = _ from g2]
    simp only [zu_def]
    rw [fTold (flt_pos g3.1).1]
    simp only [zb_def]
    obtain ⟨M'', z1, z2, z3⟩ := faultEnd X' M' 0 g3.1 e35 (gX_bad g3).1 (gX_bad g3).2 M' M' e35 rfl
    rw [z1]
    exact ⟨X', M'', rfl, fun K => rfl, z2, (gX_bad g3).1, z3⟩
