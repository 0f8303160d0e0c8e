/-! ===== a bill ===== -/
theorem z96 {bl j : Nat} (hb : bl < 8) (hj : j < 8) : nI (8 * bl) + nI j = nI (8 * bl + j) ∧ zin (nI (8 * bl + j)) 96 ∧ (nI (8 * bl + j)).toNatClampNeg = 8 * bl + j := ⟨nI_add _ _, zinN (by omega) (by omega), nI_clamp (by omega)⟩
theorem bill130F {X M : zS} {bl : Nat} {s0 : Int32} (h : flt X M) (hb : bl < 8) : ∃ M', f_X12_readBill_B130 (nI (8 * bl)) s0 (nI (8 * bl) + 5) M = some M' ∧ flt X M' ∧ gMf M M' := by
  have hf := flt_pos h
  obtain ⟨p5, z5, c5⟩ := z96 (j := 5) hb (by omega)
  obtain ⟨p6, z6, c6⟩ := z96 (j := 6) hb (by omega)
  obtain ⟨p7, z7, c7⟩ := z96 (j := 7) hb (by omega)
  unfold f_X12_readBill_B130
  rw [show nI (8 * bl) + 5 = _ from p5, if_pos z5, zlet_def, c5, fBeh (M := zput M 18 (8 * bl + 5) s0) hf.1, zb_def, show nI (8 * bl) + 6 = _ from p6, if_pos z6, zlet_def, c6, fBeh (M := zput (zput M 18 (8 * bl + 5) s0) 18 (8 * bl + 6) (-1)) hf.1, zb_def, show nI (8 * bl) + 7 = _ from p7, if_pos z7, zlet_def, c7, if_pos (show (0 : Int32) < (zput (zput (zput M 18 (8 * bl + 5) s0) 18 (8 * bl + 6) (-1)) 18 (8 * bl + 7) (-1)).1 0 2 from hf.1)]
  exact ⟨_, rfl, flt_e h rfl rfl, gMf_trans (gMf_trans (gMf_put (by decide) (by decide)) (gMf_put (by decide) (by decide))) (gMf_put (by decide) (by decide))⟩
theorem bill53F {X M : zS} {bl : Nat} (h : flt X M) (hb : bl < 8) : ∃ M', f_X12_readBill_B53 (nI (8 * bl)) M = some M' ∧ flt X M' ∧ gMf M M' := by
  have hf := flt_pos h
  obtain ⟨p2, z2, c2⟩ := z96 (j := 2) hb (by omega)
  obtain ⟨p4, z4, c4⟩ := z96 (j := 4) hb (by omega)
  unfold f_X12_readBill_B53
  rw [fTold hf.1, zb_def, show nI (8 * bl) + 2 = _ from p2, if_pos z2, zlet_def, c2, fBeh (M := zput M 18 (8 * bl + 2) 0) hf.1, zb_def, show nI (8 * bl) + 4 = _ from p4, if_pos z4, zlet_def]
  simp only [c4]
  rw [if_neg (show ¬ (zput (zput M 18 (8 * bl + 2) 0) 18 (8 * bl + 4) (-1)).1 0 2 = 0 from hf.2)]
  obtain ⟨M', e1, e2, e3⟩ := bill130F (X := X) (M := zput (zput M 18 (8 * bl + 2) 0) 18 (8 * bl + 4) (-1)) (s0 := 0) (flt_e h rfl rfl) hb
  exact ⟨M', e1, e2, gMf_trans (gMf_trans (gMf_put (by decide) (by decide)) (gMf_put (by decide) (by decide))) e3⟩
theorem pI_18 {st pl tp bl pa ln hb j : Nat} {x : Int32} {g f d : Bool} {X M : zS} (hI : pI st pl tp bl pa ln hb g f d X M) : pI st pl tp bl pa ln hb g f d X (zput M 18 (8 * bl + j) x) := by
  obtain ⟨a1, a2, a3, a4, a5, a6, a7, a8⟩ := hI
  refine ⟨a1, a2, a3, a4, a5, a6, ⟨fun b hb => ?_, a7.2⟩, a8⟩
  have e : ∀ i, i < 8 * bl → (zput M 18 (8 * bl + j) x).1 18 i = M.1 18 i := fun i hi => by rw [zput1_eq, upd_ne _ _ _ _ (by omega)]
  have := a7.1 b hb
  unfold pBl1 at this ⊢
  rw [e _ (by omega), e _ (by omega), e _ (by omega), e _ (by omega), e _ (by omega), e _ (by omega), e _ (by omega), e _ (by omega)]
  exact this
/-- what a bill says of another one, or nothing -/
theorem otherC {cb : Nat → Nat} {n q k cnt : Nat} {X M : zS} (h : cur cb n q X M) (hk : k < 24) (hn : nmOk 8 cnt X M) : (∃ X' M' q' x, f_X7_takeOther_2 (nI k) (nI cnt) X = some (1, X') ∧ f_X12_nameBehind (rwM.getD k 0) 8 (nI cnt) M = some (x, M') ∧ isI (-1) (cnt - 1) x ∧ X'.1 2 11 = x ∧ yX X X' ∧ yM M M' ∧ cur cb n q' X' M' ∧ q ≤ q') ∨ ∃ X' M' r, f_X7_takeOther_2 (nI k) (nI cnt) X = some (0, X') ∧ f_X12_nameBehind (rwM.getD k 0) 8 (nI cnt) M = some (r, M') ∧ bad X M X' M' := by
  have hc := hn.1
  have h' : cur cb n q (zput X 2 11 (-1)) M := cur_11 h
  have hn' : nmOk 8 cnt (zput X 2 11 (-1)) M := nmOk_y hn yX_11 (yM_rfl M)
  unfold f_X7_takeOther_2
  rw [zlet_def, wordBX, zb_def, z01]
  rcases behC h' hk hn' with ⟨g1, g2⟩ | ⟨g1, X1, g2, g3, ⟨X', M', q', i, g4, g5, g6, g7, g8, g9, g10, g11⟩ | ⟨X', M', r, g4, g5, g6⟩⟩
  · left
    rw [if_neg g1]
    exact ⟨_, M, q, -1, rfl, g2, ⟨-1, by omega, by omega, rfl⟩, by rw [zput1_eq, upd_at], yX_11, yM_rfl M, h', Nat.le_refl _⟩
  · left
    rw [if_pos g1, g2, zu_def, show f_X7_takeKnown_2 8 (nI cnt) X1 = _ from g4, zb_def, if_pos znb1]
    exact ⟨X', M', q', nI i, rfl, g5, ⟨i, by omega, by omega, rfl⟩, g7, yX_trans yX_11 g8, g9, g10, by omega⟩
  · right
    rw [if_pos g1, g2, zu_def, show f_X7_takeKnown_2 8 (nI cnt) X1 = _ from g4, zb_def, if_pos znb0]
    exact ⟨X', M', r, rfl, g5, bad_y yX_11 (yM_rfl M) g6⟩
theorem put29 {S : zS} {c : Nat} (hc : c < 12) (a1 a2 a3 a4 a5 a6 : Int32) : f_X1_put_29 (nI c) a1 a2 a3 a4 a5 a6 S = some (zput (zput (zput (zput (zput (zput S 30 c a1) 31 c a2) 32 c a3) 33 c a4) 34 c a5) 35 c a6) := by
  have hz : zin (nI c) 12 := zinN hc (by omega)
  unfold f_X1_put_29
  rw [if_neg (nI_not_neg (by omega)), if_pos (show nI c < 12 from nI_lt (b := 12) hc (by omega)), if_pos hz, zlet_def, if_pos hz, zlet_def, if_pos hz, zlet_def, if_pos hz, zlet_def, if_pos hz, zlet_def, if_pos hz, zlet_def, nI_clamp (by omega)]
/-- the bill's end: what it amends, what it repeals -/
theorem bill130 {cb : Nat → Nat} {n q st pl tp bl pa ln hb p s : Nat} {tpc say : Int32} {g f d : Bool} {X M : zS} (h : cur cb n q X M) (hI : pI st pl tp bl pa ln hb g f d X M) (hn : nmOk 8 (bl + 1) X M) (hbl : bl < 8) (e3 : M.1 18 (8 * bl + 3) = nI p) (e2 : M.1 18 (8 * bl + 2) = nI s) (e4 : M.1 18 (8 * bl + 4) = tpc) (hp : p < pl) (hs : s < st) (ht : isI (-1) (tp - 1) tpc) (hsay : isI (-9) 9 say) : (∃ X' M' q', f_X7_readBill_2_21_B130 (nI bl) (nI p) (nI s) tpc say X = some (1, X') ∧ f_X12_readBill_B130 (nI (8 * bl)) say (nI (8 * bl) + 5) M = some M' ∧ pI st pl tp (bl + 1) pa ln hb g f d X' M' ∧ cur cb n q' X' M' ∧ q ≤ q' ∧ gX X X' ∧ gMf M M') ∨ ∃ X' M', f_X7_readBill_2_21_B130 (nI bl) (nI p) (nI s) tpc say X = some (0, X') ∧ f_X12_readBill_B130 (nI (8 * bl)) say (nI (8 * bl) + 5) M = some M' ∧ flt X' M' ∧ gX X X' ∧ gMf M M' := by
  obtain ⟨p5, z5, c5⟩ := z96 (j := 5) hbl (by omega)
  obtain ⟨p6, z6, c6⟩ := z96 (j := 6) hbl (by omega)
  obtain ⟨p7, z7, c7⟩ := z96 (j := 7) hbl (by omega)
  obtain ⟨p3, z3, c3⟩ := z96 (j := 3) hbl (by omega)
  obtain ⟨p0, z0, c0⟩ := z96 (j := 0) hbl (by omega)
  obtain ⟨p1, z1, c1⟩ := z96 (j := 1) hbl (by omega)
  have hb12 : st ≤ 12 ∧ pl ≤ 4 := ⟨hI.1.1.2.1, hI.1.1.2.2.1⟩
  have hn8 : nmOk 8 bl X M := hI.2.2.2.2.1.2.2.1
  unfold f_X7_readBill_2_21_B130 f_X12_readBill_B130
  rw [show nI (8 * bl) + 5 = _ from p5, if_pos z5, zlet_def, c5]
  have hcA : cur cb n q X (zput M 18 (8 * bl + 5) say) := cur_M h (by decide) (by decide)
  have hIA : pI st pl tp bl pa ln hb g f d X (zput M 18 (8 * bl + 5) say) := pI_18 hI
  have e37A : (zput M 18 (8 * bl + 5) say).1 0 37 = nI bl := hIA.1.2.2.2.2.2.2.2.2.2.2
  have gmA : gMf M (zput M 18 (8 * bl + 5) say) := gMf_put (by decide) (by decide)
  have hnA : nmOk 8 bl X (zput M 18 (8 * bl + 5) say) := hn8
  have r2 : (zput M 18 (8 * bl + 5) say).1 18 (8 * bl + 2) = nI s := by rw [zput1_eq, upd_ne _ _ _ _ (by omega)]; exact e2
  have r3 : (zput M 18 (8 * bl + 5) say).1 18 (8 * bl + 3) = nI p := by rw [zput1_eq, upd_ne _ _ _ _ (by omega)]; exact e3
  have r4 : (zput M 18 (8 * bl + 5) say).1 18 (8 * bl + 4) = tpc := by rw [zput1_eq, upd_ne _ _ _ _ (by omega)]; exact e4
  have r5 : (zput M 18 (8 * bl + 5) say).1 18 (8 * bl + 5) = say := by rw [zput1_eq, upd_at]
  have hnn : nmOk 8 (bl + 1) X (zput M 18 (8 * bl + 5) say) := hn
  rw [e37A]
  generalize zput M 18 (8 * bl + 5) say = MA at hcA hIA e37A gmA hnA r2 r3 r4 r5 hnn
  rcases otherC (k := 14) hcA (by omega) hnA with ⟨X1, M1, q1, am, g1, g2, g3, g4, g5, g6, g7, g8⟩ | ⟨X', M', r, g1, g2, g3⟩
  · rw [show f_X7_takeOther_2 14 (nI bl) X = _ from g1, zb_def, if_neg (by decide), zlet_def, g4, show f_X12_nameBehind 107122481063027 8 (nI bl) MA = _ from g2, zb_def, show nI (8 * bl) + 6 = _ from p6, if_pos z6, zlet_def, c6]
    have hI1 : pI st pl tp bl pa ln hb g f d X1 (zput M1 18 (8 * bl + 6) am) := pI_18 (pI_y hIA g5 g6)
    have hc1 : cur cb n q1 X1 (zput M1 18 (8 * bl + 6) am) := cur_M g7 (by decide) (by decide)
    have e37B : (zput M1 18 (8 * bl + 6) am).1 0 37 = nI bl := hI1.1.2.2.2.2.2.2.2.2.2.2
    have gm1 : gMf M (zput M1 18 (8 * bl + 6) am) := gMf_trans (gMf_trans gmA (gMf_y g6)) (gMf_put (by decide) (by decide))
    have hn1 : nmOk 8 bl X1 (zput M1 18 (8 * bl + 6) am) := hI1.2.2.2.2.1.2.2.1
    have hnn1 : nmOk 8 (bl + 1) X1 (zput M1 18 (8 * bl + 6) am) := (nmOk_y hnn g5 g6 : nmOk 8 (bl + 1) X1 M1)
    have m18 : M1.1 18 = MA.1 18 := g6.1 18 (by decide)
    have s2 : (zput M1 18 (8 * bl + 6) am).1 18 (8 * bl + 2) = nI s := by rw [zput1_eq, upd_ne _ _ _ _ (by omega), m18]; exact r2
    have s3 : (zput M1 18 (8 * bl + 6) am).1 18 (8 * bl + 3) = nI p := by rw [zput1_eq, upd_ne _ _ _ _ (by omega), m18]; exact r3
    have s4 : (zput M1 18 (8 * bl + 6) am).1 18 (8 * bl + 4) = tpc := by rw [zput1_eq, upd_ne _ _ _ _ (by omega), m18]; exact r4
    have s5 : (zput M1 18 (8 * bl + 6) am).1 18 (8 * bl + 5) = say := by rw [zput1_eq, upd_ne _ _ _ _ (by omega), m18]; exact r5
    have s6 : (zput M1 18 (8 * bl + 6) am).1 18 (8 * bl + 6) = am := by rw [zput1_eq, upd_at]
    rw [e37B]
    generalize zput M1 18 (8 * bl + 6) am = MB at hI1 hc1 e37B gm1 hn1 hnn1 s2 s3 s4 s5 s6
    rcases otherC (k := 15) hc1 (by omega) hn1 with ⟨X2, M2, q2, rp, k1, k2, k3, k4, k5, k6, k7, k8⟩ | ⟨X', M', r, k1, k2, k3⟩
    · left
      have hI2 : pI st pl tp bl pa ln hb g f d X2 (zput M2 18 (8 * bl + 7) rp) := pI_18 (pI_y hI1 k5 k6)
      have hc2 : cur cb n q2 X2 (zput M2 18 (8 * bl + 7) rp) := cur_M k7 (by decide) (by decide)
      have hnn2 : nmOk 8 (bl + 1) X2 (zput M2 18 (8 * bl + 7) rp) := (nmOk_y hnn1 k5 k6 : nmOk 8 (bl + 1) X2 M2)
      have m18' : M2.1 18 = MB.1 18 := k6.1 18 (by decide)
      have u2 : (zput M2 18 (8 * bl + 7) rp).1 18 (8 * bl + 2) = nI s := by rw [zput1_eq, upd_ne _ _ _ _ (by omega), m18']; exact s2
      have u3 : (zput M2 18 (8 * bl + 7) rp).1 18 (8 * bl + 3) = nI p := by rw [zput1_eq, upd_ne _ _ _ _ (by omega), m18']; exact s3
      have u4 : (zput M2 18 (8 * bl + 7) rp).1 18 (8 * bl + 4) = tpc := by rw [zput1_eq, upd_ne _ _ _ _ (by omega), m18']; exact s4
      have u5 : (zput M2 18 (8 * bl + 7) rp).1 18 (8 * bl + 5) = say := by rw [zput1_eq, upd_ne _ _ _ _ (by omega), m18']; exact s5
      have u6 : (zput M2 18 (8 * bl + 7) rp).1 18 (8 * bl + 6) = am := by rw [zput1_eq, upd_ne _ _ _ _ (by omega), m18']; exact s6
      have u7 : (zput M2 18 (8 * bl + 7) rp).1 18 (8 * bl + 7) = rp := by rw [zput1_eq, upd_at]
      have gm2 : gMf M (zput M2 18 (8 * bl + 7) rp) := gMf_trans (gMf_trans gm1 (gMf_y k6)) (gMf_put (by decide) (by decide))
      rw [show f_X7_takeOther_2 15 (nI bl) X1 = _ from k1, zb_def, if_neg (by decide), k4, put29 (by omega), zu_def, zlet_def, show f_X12_nameBehind 32199680756640883 8 (nI bl) MB = _ from k2, zb_def, show nI (8 * bl) + 7 = _ from p7, if_pos z7, zlet_def, c7]
      generalize zput M2 18 (8 * bl + 7) rp = MC at hI2 hc2 hnn2 u2 u3 u4 u5 u6 u7 gm2
      have hz4 : zin (nI p) 4 := zinN (by omega) (by omega)
      have e21 : (zput (zput (zput (zput (zput (zput X2 30 bl (nI s)) 31 bl (nI p)) 32 bl tpc) 33 bl say) 34 bl am) 35 bl rp).1 21 4 = nI bl := hI2.1.2.2.2.2.2.2.2.2.2.1
      have e37 : MC.1 0 37 = nI bl := hI2.1.2.2.2.2.2.2.2.2.2.2
      have hlife := hI2.2.2.1.2.2.2 p hp
      rw [if_neg (cur_nf hc2), show nI (8 * bl) + 3 = _ from p3, if_pos z3, c3, u3, if_pos hz4, show nI (8 * bl) + 0 = _ from p0, if_pos z0, nI_clamp (show p < 2 ^ 31 by omega), zlet_def, c0, show nI (8 * bl) + 1 = _ from p1, if_pos z1, zlet_def, c1, zlet_def, e21, nI_1]
      rw [show (zput (zput MC 18 (8 * bl + 0) (MC.1 10 p)) 18 (8 * bl + 1) 0).1 0 37 = nI bl from e37, nI_1]
      refine ⟨_, _, q2, rfl, rfl, ?_, cur_M0 (cur_M (cur_M (cur_X (cur_X (cur_X (cur_X (cur_X (cur_X (cur_X hc2 (by decide) (by decide)) (by decide) (by decide)) (by decide) (by decide)) (by decide) (by decide)) (by decide) (by decide)) (by decide) (by decide)) (by decide) (by decide)) (by decide) (by decide)) (by decide) (by decide)) (Or.inl (by decide)), by omega, ?_, ?_⟩
      · obtain ⟨⟨⟨b1, b2, b3, b4, b5, b6⟩, c1, c2, c3, c4, c5, c6, c7, c8, c9, c10⟩, a2, a3, a4, ⟨n1, n2, n3, n4⟩, a6, a7, a8⟩ := hI2
        refine ⟨⟨⟨b1, b2, b3, b4, by omega, b6⟩, c1, c2, c3, c4, c5, c6, c7, c8, rfl, rfl⟩, a2, a3, a4, ⟨n1, n2, hnn2, n4⟩, a6, ⟨fun b hb => ?_, fun b hb => ?_⟩, a8⟩
        · show pBl1 st pl tp b (upd (X2.1 30) bl (nI s)) (upd (X2.1 31) bl (nI p)) (upd (X2.1 32) bl tpc) (upd (X2.1 33) bl say) (upd (X2.1 34) bl am) (upd (X2.1 35) bl rp) (MC.1 10) (upd (upd (MC.1 18) (8 * bl + 0) (MC.1 10 p)) (8 * bl + 1) 0)
          by_cases hbb : b = bl
          · subst hbb
            unfold pBl1
            rw [upd_ne _ _ (8 * b) _ (by omega), show 8 * b + 0 = 8 * b from rfl, upd_at, upd_at, upd_ne _ _ (8 * b + 2) _ (by omega), upd_ne _ _ (8 * b + 2) _ (by omega), upd_ne _ _ (8 * b + 3) _ (by omega), upd_ne _ _ (8 * b + 3) _ (by omega), upd_ne _ _ (8 * b + 4) _ (by omega), upd_ne _ _ (8 * b + 4) _ (by omega), upd_ne _ _ (8 * b + 5) _ (by omega), upd_ne _ _ (8 * b + 5) _ (by omega), upd_ne _ _ (8 * b + 6) _ (by omega), upd_ne _ _ (8 * b + 6) _ (by omega), upd_ne _ _ (8 * b + 7) _ (by omega), upd_ne _ _ (8 * b + 7) _ (by omega), u2, u3, u4, u5, u6, u7, upd_at, upd_at, upd_at, upd_at, upd_at, upd_at]
            obtain ⟨v, v1, v2, v3⟩ := hlife.1
            exact ⟨⟨v, by omega, v2, v3⟩, rfl, ⟨s, hs, rfl⟩, ⟨p, hp, rfl, rfl⟩, ht, hsay, g3, k3, rfl, rfl, rfl, rfl, rfl, rfl⟩
          · have := a7.1 b (by omega)
            unfold pBl1 at this ⊢
            rw [upd_ne _ _ (8 * b) _ (by omega), upd_ne _ _ (8 * b) _ (by omega), upd_ne _ _ (8 * b + 1) _ (by omega), upd_ne _ _ (8 * b + 1) _ (by omega), upd_ne _ _ (8 * b + 2) _ (by omega), upd_ne _ _ (8 * b + 2) _ (by omega), upd_ne _ _ (8 * b + 3) _ (by omega), upd_ne _ _ (8 * b + 3) _ (by omega), upd_ne _ _ (8 * b + 4) _ (by omega), upd_ne _ _ (8 * b + 4) _ (by omega), upd_ne _ _ (8 * b + 5) _ (by omega), upd_ne _ _ (8 * b + 5) _ (by omega), upd_ne _ _ (8 * b + 6) _ (by omega), upd_ne _ _ (8 * b + 6) _ (by omega), upd_ne _ _ (8 * b + 7) _ (by omega), upd_ne _ _ (8 * b + 7) _ (by omega), upd_ne _ _ b _ hbb, upd_ne _ _ b _ hbb, upd_ne _ _ b _ hbb, upd_ne _ _ b _ hbb, upd_ne _ _ b _ hbb, upd_ne _ _ b _ hbb]
            exact this
        · show ∃ s' : Nat, s' < 12 ∧ upd (X2.1 30) bl (nI s) b = nI s'
          by_cases hbb : b = bl
          · subst hbb
            rw [upd_at]; exact ⟨s, by omega, rfl⟩
          · rw [upd_ne _ _ _ _ hbb]; exact a7.2 b hb
      · have hr : 21 ≤ 21 ∧ 21 ≤ 36 := by decide
        refine gX_trans (gX_trans (gX_y (yX_trans g5 k5)) ?_) (gX_put (Or.inr ⟨by decide, by decide⟩) (by decide))
        exact gX_trans (gX_trans (gX_trans (gX_trans (gX_trans (gX_30 (by omega)) (gX_put (Or.inr ⟨by decide, by decide⟩) (by decide))) (gX_put (Or.inr ⟨by decide, by decide⟩) (by decide))) (gX_put (Or.inr ⟨by decide, by decide⟩) (by decide))) (gX_put (Or.inr ⟨by decide, by decide⟩) (by decide))) (gX_put (Or.inr ⟨by decide, by decide⟩) (by decide))
      · exact gMf_trans gm2 (gMf_trans (gMf_trans (gMf_put (by decide) (by decide)) (gMf_put (by decide) (by decide))) (gMf_put0 (by decide)))
    · right
      rw [show f_X7_takeOther_2 15 (nI bl) X1 = _ from k1, zb_def, if_pos rfl, show f_X12_nameBehind 32199680756640883 8 (nI bl) MB = _ from k2, zb_def, show nI (8 * bl) + 7 = _ from p7, if_pos z7, zlet_def, if_pos (show (0 : Int32) < (zput M' 18 (nI (8 * bl + 7)).toNatClampNeg r).1 0 2 from (flt_pos k3.1).1)]
      exact ⟨X', _, rfl, rfl, flt_e k3.1 rfl rfl, gX_trans (gX_y g5) (gX_bad k3).1, gMf_trans (gMf_trans gm1 (gX_bad k3).2) (gMf_put (by decide) (by decide))⟩
  · right
    have hf := flt_pos g3.1
    rw [show f_X7_takeOther_2 14 (nI bl) X = _ from g1, zb_def, if_pos rfl, show f_X12_nameBehind 107122481063027 8 (nI bl) MA = _ from g2, zb_def, show nI (8 * bl) + 6 = _ from p6, if_pos z6, zlet_def, c6, fBeh (M := zput M' 18 (8 * bl + 6) r) hf.1, zb_def, show nI (8 * bl) + 7 = _ from p7, if_pos z7, zlet_def, c7, if_pos (show (0 : Int32) < (zput (zput M' 18 (8 * bl + 6) r) 18 (8 * bl + 7) (-1)).1 0 2 from hf.1)]
    exact ⟨X', _, rfl, rfl, flt_e g3.1 rfl rfl, (gX_bad g3).1, gMf_trans (gMf_trans gmA (gX_bad g3).2) (gMf_trans (gMf_put (by decide) (by decide)) (gMf_put (by decide) (by decide)))⟩
