/-! ===== a line, all lines ===== -/
/-- the reference asks for a line's first word and for one thing more -/
theorem wIf {n q k : Nat} {X M : zS} (h : tk n q X M) (hk : k < 24) (C : zS → Prop) [∀ T, Decidable (C T)] (A B : zS → Option zS) : (zb (f_X12_isWord (rwM.getD k 0) M) fun r T => if r = 0 then A T else if C T then B T else A T) = if (X.1 2 6 = 1 ∧ X.1 2 7 = nI k) ∧ C M then B M else A M := by
  rw [wordBM h hk, zb_def, z01]
  by_cases hp : X.1 2 6 = 1 ∧ X.1 2 7 = nI k
  · rw [if_pos hp]
    by_cases hc : C M
    · rw [if_pos hc, if_pos ⟨hp, hc⟩]
    · rw [if_neg hc, if_neg (fun z => hc z.2)]
  · rw [if_neg hp, if_neg (fun z => hp z.1)]
theorem rlM {n q : Nat} {X M : zS} (h : tk n q X M) : f_X12_readLine M =
    if (X.1 2 6 = 1 ∧ X.1 2 7 = nI 0) ∧ M.1 0 48 = 0 then (zb (f_X12_told 126943687828851 2 12 M) fun r8 T7 => zlet (zput T7 0 34 r8) fun T9 => f_X12_readLine_B279 T9) else
    if (X.1 2 6 = 1 ∧ X.1 2 7 = nI 1) ∧ M.1 0 35 < 4 then zu (f_X12_readPlant M) f_X12_readLine_B279 else
    if (X.1 2 6 = 1 ∧ X.1 2 7 = nI 2) ∧ M.1 0 36 < 4 then zu (f_X12_readTopic M) f_X12_readLine_B279 else
    if (X.1 2 6 = 1 ∧ X.1 2 7 = nI 3) ∧ M.1 0 37 < 8 then zu (f_X12_readBill M) f_X12_readLine_B279 else
    if (X.1 2 6 = 1 ∧ X.1 2 7 = nI 4) ∧ M.1 0 38 < 3 then zu (f_X12_readParty M) f_X12_readLine_B279 else
    if X.1 2 6 = 1 ∧ X.1 2 7 = nI 5 then zu (f_X12_readWants M) f_X12_readLine_B279 else
    if (X.1 2 6 = 1 ∧ X.1 2 7 = nI 6) ∧ M.1 0 49 = 0 then (zlet (zput M 0 49 1) fun T10 => zu (f_X12_readGrow T10) fun T12 => f_X12_readLine_B279 T12) else
    if (X.1 2 6 = 1 ∧ X.1 2 7 = nI 7) ∧ M.1 0 50 = 0 then (zlet (zput M 0 50 1) fun T6 => zb (f_X12_told 440006570868 0 100 T6) fun r9 T8 => zlet (zput T8 0 39 r9) fun T10 => zb (f_X12_told 28518 1 99 T10) fun r13 T12 => zlet (zput T12 0 40 r13) fun T14 => f_X12_readLine_B279 T14) else
    if (X.1 2 6 = 1 ∧ X.1 2 7 = nI 8) ∧ M.1 0 51 = 0 then (zlet (zput M 0 51 1) fun T6 => zb (f_X12_told 1685217655 0 999 T6) fun r9 T8 => zlet (zput T8 0 41 r9) fun T10 => f_X12_readLine_B279 T10) else f_X12_readLine_B274 M := by
  have e8 : f_X12_readLine_B234 M = if (X.1 2 6 = 1 ∧ X.1 2 7 = nI 8) ∧ M.1 0 51 = 0 then (zlet (zput M 0 51 1) fun T6 => zb (f_X12_told 1685217655 0 999 T6) fun r9 T8 => zlet (zput T8 0 41 r9) fun T10 => f_X12_readLine_B279 T10) else f_X12_readLine_B274 M := wIf h (k := 8) (by omega) (fun T => T.1 0 51 = 0) f_X12_readLine_B274 (fun T => zlet (zput T 0 51 1) fun T6 => zb (f_X12_told 1685217655 0 999 T6) fun r9 T8 => zlet (zput T8 0 41 r9) fun T10 => f_X12_readLine_B279 T10)
  have e7 : f_X12_readLine_B181 M = if (X.1 2 6 = 1 ∧ X.1 2 7 = nI 7) ∧ M.1 0 50 = 0 then (zlet (zput M 0 50 1) fun T6 => zb (f_X12_told 440006570868 0 100 T6) fun r9 T8 => zlet (zput T8 0 39 r9) fun T10 => zb (f_X12_told 28518 1 99 T10) fun r13 T12 => zlet (zput T12 0 40 r13) fun T14 => f_X12_readLine_B279 T14) else f_X12_readLine_B234 M := wIf h (k := 7) (by omega) (fun T => T.1 0 50 = 0) f_X12_readLine_B234 (fun T => zlet (zput T 0 50 1) fun T6 => zb (f_X12_told 440006570868 0 100 T6) fun r9 T8 => zlet (zput T8 0 39 r9) fun T10 => zb (f_X12_told 28518 1 99 T10) fun r13 T12 => zlet (zput T12 0 40 r13) fun T14 => f_X12_readLine_B279 T14)
  have e6 : (zb (f_X12_isWord 1735552887 M) fun r7 T6 => if r7 = 0 then f_X12_readLine_B181 T6 else if (T6.1 0 49) = 0 then zlet (zput T6 0 49 1) fun T10 => zu (f_X12_readGrow T10) fun T12 => f_X12_readLine_B279 T12 else f_X12_readLine_B181 T6) = if (X.1 2 6 = 1 ∧ X.1 2 7 = nI 6) ∧ M.1 0 49 = 0 then (zlet (zput M 0 49 1) fun T10 => zu (f_X12_readGrow T10) fun T12 => f_X12_readLine_B279 T12) else f_X12_readLine_B181 M := wIf h (k := 6) (by omega) (fun T => T.1 0 49 = 0) f_X12_readLine_B181 (fun T => zlet (zput T 0 49 1) fun T10 => zu (f_X12_readGrow T10) fun T12 => f_X12_readLine_B279 T12)
  have e5 : f_X12_readLine_B135 M = if X.1 2 6 = 1 ∧ X.1 2 7 = nI 5 then zu (f_X12_readWants M) f_X12_readLine_B279 else if (X.1 2 6 = 1 ∧ X.1 2 7 = nI 6) ∧ M.1 0 49 = 0 then (zlet (zput M 0 49 1) fun T10 => zu (f_X12_readGrow T10) fun T12 => f_X12_readLine_B279 T12) else f_X12_readLine_B181 M := by
    unfold f_X12_readLine_B135
    rw [show f_X12_isWord 512735736947 M = _ from wordBM h (k := 5) (by omega), zb_def, z01, e6]
  have e4 : f_X12_readLine_B110 M = if (X.1 2 6 = 1 ∧ X.1 2 7 = nI 4) ∧ M.1 0 38 < 3 then zu (f_X12_readParty M) f_X12_readLine_B279 else f_X12_readLine_B135 M := wIf h (k := 4) (by omega) (fun T => T.1 0 38 < 3) f_X12_readLine_B135 (fun T => zu (f_X12_readParty T) f_X12_readLine_B279)
  have e3 : f_X12_readLine_B84 M = if (X.1 2 6 = 1 ∧ X.1 2 7 = nI 3) ∧ M.1 0 37 < 8 then zu (f_X12_readBill M) f_X12_readLine_B279 else f_X12_readLine_B110 M := wIf h (k := 3) (by omega) (fun T => T.1 0 37 < 8) f_X12_readLine_B110 (fun T => zu (f_X12_readBill T) f_X12_readLine_B279)
  have e2 : f_X12_readLine_B59 M = if (X.1 2 6 = 1 ∧ X.1 2 7 = nI 2) ∧ M.1 0 36 < 4 then zu (f_X12_readTopic M) f_X12_readLine_B279 else f_X12_readLine_B84 M := wIf h (k := 2) (by omega) (fun T => T.1 0 36 < 4) f_X12_readLine_B84 (fun T => zu (f_X12_readTopic T) f_X12_readLine_B279)
  have e1 : f_X12_readLine_B34 M = if (X.1 2 6 = 1 ∧ X.1 2 7 = nI 1) ∧ M.1 0 35 < 4 then zu (f_X12_readPlant M) f_X12_readLine_B279 else f_X12_readLine_B59 M := wIf h (k := 1) (by omega) (fun T => T.1 0 35 < 4) f_X12_readLine_B59 (fun T => zu (f_X12_readPlant T) f_X12_readLine_B279)
  have e0 : f_X12_readLine M = if (X.1 2 6 = 1 ∧ X.1 2 7 = nI 0) ∧ M.1 0 48 = 0 then (zb (f_X12_told 126943687828851 2 12 M) fun r8 T7 => zlet (zput T7 0 34 r8) fun T9 => f_X12_readLine_B279 T9) else f_X12_readLine_B34 M := wIf h (k := 0) (by omega) (fun T => T.1 0 48 = 0) f_X12_readLine_B34 (fun T => zb (f_X12_told 126943687828851 2 12 T) fun r8 T7 => zlet (zput T7 0 34 r8) fun T9 => f_X12_readLine_B279 T9)
  rw [e0, e1, e2, e3, e4, e5, e7, e8]
theorem lnR_wrap {cb : Nat → Nat} {n q ln : Nat} {fx : Option (Int32 × zS)} {fm : (zS → Option zS) → Option zS} {X M : zS} (h : lnR cb n q ln fx fm X M) : lnR cb n q ln (zb fx fun r T => if znb r then some (r, T) else none) fm X M := by
  rcases h with ⟨X', M', q', st, pl, tp, bl, pa, hb, g, f, d, a, b⟩ | ⟨X', M', a, b⟩
  · left
    rw [a]
    exact ⟨X', M', q', st, pl, tp, bl, pa, hb, g, f, d, by rw [zb_def, if_pos znb1], b⟩
  · right
    rw [a]
    exact ⟨X', M', by rw [zb_def, if_pos znb0], b⟩
/-- a line that can't begin so -/
theorem lnNo {cb : Nat → Nat} {n q ln : Nat} {X M : zS} {fx : Option (Int32 × zS)} (h : cur cb n q X M) (hx : fx = f_X7_refuseToken_2 X) : lnR cb n q ln fx (fun K => zu (f_X12_wrong 2 M) K) X M := by
  obtain ⟨X', M', r1, r2, r3⟩ := refuseC h
  exact Or.inr ⟨X', M', hx.trans r1, fun K => z_ub r2 K, r3.1, (gX_bad r3).1, (gX_bad r3).2⟩
theorem refW {X : zS} {r : Int32} {X' : zS} (h : f_X7_refuseToken_2 X = some (r, X')) (hr : r = 0) : (zb (f_X7_refuseToken_2 X) fun r T => if znb r then some (r, T) else none) = f_X7_refuseToken_2 X := by
  rw [h, zb_def, hr, if_pos znb0]
set_option maxHeartbeats 2000000 in
theorem lineD {cb : Nat → Nat} {n q st pl tp bl pa ln hb : Nat} {g f d : Bool} {X M : zS} (h : cur cb n q X M) (hI : pI st pl tp bl pa ln hb g f d X M) (h0 : ln = 0 → bl = 0) : ∃ fm, lnR cb n q ln (f_X7_readLine_2_21 X) fm X M ∧ f_X12_readLine M = fm f_X12_readLine_B279 := by
  obtain ⟨⟨⟨b1, b2, b3, b4, b5, b6⟩, c1, c2, c3, c4, c5, c6, c7, c8, c9, c10⟩, -, -, ⟨l1, l2, l3, l4, l5, l6, l7⟩, -⟩ := id hI
  obtain ⟨Xr, Mr, r1, -, -⟩ := refuseC h
  have hne : ∀ {j k : Nat}, j < 100 → k < 100 → j ≠ k → ¬ nI j = nI k := fun hj hk hn z => hn ((nI_eq (by omega) (by omega)).mp z)
  rw [rlM h.2.1]
  unfold f_X7_readLine_2_21
  by_cases hk : X.1 2 6 = 1
  · rw [if_pos hk]
    unfold f_X7_readLine_2_21_B16
    by_cases w0 : X.1 2 7 = nI 0
    · rw [if_pos (show X.1 2 7 = 0 from w0)]
      by_cases hl : ln = 0
      · rw [if_pos (show (X.1 2 6 = 1 ∧ X.1 2 7 = nI 0) ∧ M.1 0 48 = 0 from ⟨⟨hk, w0⟩, by rw [l3, if_pos hl]⟩)]
        have hb0 := h0 hl
        subst hl hb0
        exact ⟨_, lnR_wrap (lnStakes h ⟨hk, w0⟩ hI), rfl⟩
      · rw [if_neg (show ¬ ((X.1 2 6 = 1 ∧ X.1 2 7 = nI 0) ∧ M.1 0 48 = 0) from fun z => by have z2 := z.2; rw [l3, if_neg hl] at z2; exact absurd z2 (by decide)), if_neg (show ¬ ((X.1 2 6 = 1 ∧ X.1 2 7 = nI 1) ∧ M.1 0 35 < 4) from fun z => hne (j := 0) (k := 1) (by omega) (by omega) (by omega) (w0.symm.trans z.1.2)), if_neg (show ¬ ((X.1 2 6 = 1 ∧ X.1 2 7 = nI 2) ∧ M.1 0 36 < 4) from fun z => hne (j := 0) (k := 2) (by omega) (by omega) (by omega) (w0.symm.trans z.1.2)), if_neg (show ¬ ((X.1 2 6 = 1 ∧ X.1 2 7 = nI 3) ∧ M.1 0 37 < 8) from fun z => hne (j := 0) (k := 3) (by omega) (by omega) (by omega) (w0.symm.trans z.1.2)), if_neg (show ¬ ((X.1 2 6 = 1 ∧ X.1 2 7 = nI 4) ∧ M.1 0 38 < 3) from fun z => hne (j := 0) (k := 4) (by omega) (by omega) (by omega) (w0.symm.trans z.1.2)), if_neg (show ¬ (X.1 2 6 = 1 ∧ X.1 2 7 = nI 5) from fun z => hne (j := 0) (k := 5) (by omega) (by omega) (by omega) (w0.symm.trans z.2)), if_neg (show ¬ ((X.1 2 6 = 1 ∧ X.1 2 7 = nI 6) ∧ M.1 0 49 = 0) from fun z => hne (j := 0) (k := 6) (by omega) (by omega) (by omega) (w0.symm.trans z.1.2)), if_neg (show ¬ ((X.1 2 6 = 1 ∧ X.1 2 7 = nI 7) ∧ M.1 0 50 = 0) from fun z => hne (j := 0) (k := 7) (by omega) (by omega) (by omega) (w0.symm.trans z.1.2)), if_neg (show ¬ ((X.1 2 6 = 1 ∧ X.1 2 7 = nI 8) ∧ M.1 0 51 = 0) from fun z => hne (j := 0) (k := 8) (by omega) (by omega) (by omega) (w0.symm.trans z.1.2))]
        refine ⟨fun K => zu (f_X12_wrong 2 M) K, lnR_wrap (lnNo h ?_), rfl⟩
        unfold f_X7_readStakes_2_21
        rw [l2, if_pos (show (0 : Int32) < nI ln from nI_lt (a := 0) (by omega) (by omega)), refW r1 rfl]
    rw [if_neg (show ¬ X.1 2 7 = 0 from w0), if_neg (show ¬ ((X.1 2 6 = 1 ∧ X.1 2 7 = nI 0) ∧ M.1 0 48 = 0) from fun z => w0 z.1.2)]
    by_cases w1 : X.1 2 7 = nI 1
    · rw [if_pos (show X.1 2 7 = 1 from w1)]
      by_cases hl : pl < 4
      · rw [if_pos (show (X.1 2 6 = 1 ∧ X.1 2 7 = nI 1) ∧ M.1 0 35 < 4 from ⟨⟨hk, w1⟩, by rw [c4]; exact nI_lt (b := 4) hl (by omega)⟩)]
        exact ⟨fun K => zu (f_X12_readPlant M) K, lnR_wrap (lnPlant h ⟨hk, w1⟩ hI hl), rfl⟩
      · have hnl : ¬ nI pl < 4 := nI_nlt (b := 4) (by omega) (by omega)
        rw [if_neg (show ¬ ((X.1 2 6 = 1 ∧ X.1 2 7 = nI 1) ∧ M.1 0 35 < 4) from fun z => hnl (by rw [← c4]; exact z.2)), if_neg (show ¬ ((X.1 2 6 = 1 ∧ X.1 2 7 = nI 2) ∧ M.1 0 36 < 4) from fun z => hne (j := 1) (k := 2) (by omega) (by omega) (by omega) (w1.symm.trans z.1.2)), if_neg (show ¬ ((X.1 2 6 = 1 ∧ X.1 2 7 = nI 3) ∧ M.1 0 37 < 8) from fun z => hne (j := 1) (k := 3) (by omega) (by omega) (by omega) (w1.symm.trans z.1.2)), if_neg (show ¬ ((X.1 2 6 = 1 ∧ X.1 2 7 = nI 4) ∧ M.1 0 38 < 3) from fun z => hne (j := 1) (k := 4) (by omega) (by omega) (by omega) (w1.symm.trans z.1.2)), if_neg (show ¬ (X.1 2 6 = 1 ∧ X.1 2 7 = nI 5) from fun z => hne (j := 1) (k := 5) (by omega) (by omega) (by omega) (w1.symm.trans z.2)), if_neg (show ¬ ((X.1 2 6 = 1 ∧ X.1 2 7 = nI 6) ∧ M.1 0 49 = 0) from fun z => hne (j := 1) (k := 6) (by omega) (by omega) (by omega) (w1.symm.trans z.1.2)), if_neg (show ¬ ((X.1 2 6 = 1 ∧ X.1 2 7 = nI 7) ∧ M.1 0 50 = 0) from fun z => hne (j := 1) (k := 7) (by omega) (by omega) (by omega) (w1.symm.trans z.1.2)), if_neg (show ¬ ((X.1 2 6 = 1 ∧ X.1 2 7 = nI 8) ∧ M.1 0 51 = 0) from fun z => hne (j := 1) (k := 8) (by omega) (by omega) (by omega) (w1.symm.trans z.1.2))]
        refine ⟨fun K => zu (f_X12_wrong 2 M) K, lnR_wrap (lnNo h ?_), rfl⟩
        unfold f_X7_readPlant_2_21 f_X7_beginSort_2
        rw [zlet_def, c3, if_neg hnl, refW r1 rfl, r1, zb_def, if_pos rfl]
    rw [if_neg (show ¬ X.1 2 7 = 1 from w1), if_neg (show ¬ ((X.1 2 6 = 1 ∧ X.1 2 7 = nI 1) ∧ M.1 0 35 < 4) from fun z => w1 z.1.2)]
    by_cases w2 : X.1 2 7 = nI 2
    · rw [if_pos (show X.1 2 7 = 2 from w2)]
      by_cases hl : tp < 4
      · rw [if_pos (show (X.1 2 6 = 1 ∧ X.1 2 7 = nI 2) ∧ M.1 0 36 < 4 from ⟨⟨hk, w2⟩, by rw [c6]; exact nI_lt (b := 4) hl (by omega)⟩)]
        exact ⟨fun K => zu (f_X12_readTopic M) K, lnR_wrap (lnTopic h ⟨hk, w2⟩ hI hl), rfl⟩
      · have hnl : ¬ nI tp < 4 := nI_nlt (b := 4) (by omega) (by omega)
        rw [if_neg (show ¬ ((X.1 2 6 = 1 ∧ X.1 2 7 = nI 2) ∧ M.1 0 36 < 4) from fun z => hnl (by rw [← c6]; exact z.2)), if_neg (show ¬ ((X.1 2 6 = 1 ∧ X.1 2 7 = nI 3) ∧ M.1 0 37 < 8) from fun z => hne (j := 2) (k := 3) (by omega) (by omega) (by omega) (w2.symm.trans z.1.2)), if_neg (show ¬ ((X.1 2 6 = 1 ∧ X.1 2 7 = nI 4) ∧ M.1 0 38 < 3) from fun z => hne (j := 2) (k := 4) (by omega) (by omega) (by omega) (w2.symm.trans z.1.2)), if_neg (show ¬ (X.1 2 6 = 1 ∧ X.1 2 7 = nI 5) from fun z => hne (j := 2) (k := 5) (by omega) (by omega) (by omega) (w2.symm.trans z.2)), if_neg (show ¬ ((X.1 2 6 = 1 ∧ X.1 2 7 = nI 6) ∧ M.1 0 49 = 0) from fun z => hne (j := 2) (k := 6) (by omega) (by omega) (by omega) (w2.symm.trans z.1.2)), if_neg (show ¬ ((X.1 2 6 = 1 ∧ X.1 2 7 = nI 7) ∧ M.1 0 50 = 0) from fun z => hne (j := 2) (k := 7) (by omega) (by omega) (by omega) (w2.symm.trans z.1.2)), if_neg (show ¬ ((X.1 2 6 = 1 ∧ X.1 2 7 = nI 8) ∧ M.1 0 51 = 0) from fun z => hne (j := 2) (k := 8) (by omega) (by omega) (by omega) (w2.symm.trans z.1.2))]
        refine ⟨fun K => zu (f_X12_wrong 2 M) K, lnR_wrap (lnNo h ?_), rfl⟩
        unfold f_X7_readTopic_2_21 f_X7_beginSort_2
        rw [c5, if_neg hnl, refW r1 rfl, r1, zb_def, if_pos rfl]
    rw [if_neg (show ¬ X.1 2 7 = 2 from w2), if_neg (show ¬ ((X.1 2 6 = 1 ∧ X.1 2 7 = nI 2) ∧ M.1 0 36 < 4) from fun z => w2 z.1.2)]
    by_cases w3 : X.1 2 7 = nI 3
    · rw [if_pos (show X.1 2 7 = 3 from w3)]
      by_cases hl : bl < 8
      · rw [if_pos (show (X.1 2 6 = 1 ∧ X.1 2 7 = nI 3) ∧ M.1 0 37 < 8 from ⟨⟨hk, w3⟩, by rw [c10]; exact nI_lt (b := 8) hl (by omega)⟩)]
        exact ⟨fun K => zu (f_X12_readBill M) K, lnR_wrap (lnBill h ⟨hk, w3⟩ hI hl), rfl⟩
      · have hnl : ¬ nI bl < 8 := nI_nlt (b := 8) (by omega) (by omega)
        rw [if_neg (show ¬ ((X.1 2 6 = 1 ∧ X.1 2 7 = nI 3) ∧ M.1 0 37 < 8) from fun z => hnl (by rw [← c10]; exact z.2)), if_neg (show ¬ ((X.1 2 6 = 1 ∧ X.1 2 7 = nI 4) ∧ M.1 0 38 < 3) from fun z => hne (j := 3) (k := 4) (by omega) (by omega) (by omega) (w3.symm.trans z.1.2)), if_neg (show ¬ (X.1 2 6 = 1 ∧ X.1 2 7 = nI 5) from fun z => hne (j := 3) (k := 5) (by omega) (by omega) (by omega) (w3.symm.trans z.2)), if_neg (show ¬ ((X.1 2 6 = 1 ∧ X.1 2 7 = nI 6) ∧ M.1 0 49 = 0) from fun z => hne (j := 3) (k := 6) (by omega) (by omega) (by omega) (w3.symm.trans z.1.2)), if_neg (show ¬ ((X.1 2 6 = 1 ∧ X.1 2 7 = nI 7) ∧ M.1 0 50 = 0) from fun z => hne (j := 3) (k := 7) (by omega) (by omega) (by omega) (w3.symm.trans z.1.2)), if_neg (show ¬ ((X.1 2 6 = 1 ∧ X.1 2 7 = nI 8) ∧ M.1 0 51 = 0) from fun z => hne (j := 3) (k := 8) (by omega) (by omega) (by omega) (w3.symm.trans z.1.2))]
        refine ⟨fun K => zu (f_X12_wrong 2 M) K, lnR_wrap (lnNo h ?_), rfl⟩
        unfold f_X7_readBill_2_21 f_X7_beginSort_2
        rw [zlet_def, c9, if_neg hnl, refW r1 rfl, r1, zb_def, if_pos rfl]
    rw [if_neg (show ¬ X.1 2 7 = 3 from w3), if_neg (show ¬ ((X.1 2 6 = 1 ∧ X.1 2 7 = nI 3) ∧ M.1 0 37 < 8) from fun z => w3 z.1.2)]
    by_cases w4 : X.1 2 7 = nI 4
    · rw [if_pos (show X.1 2 7 = 4 from w4)]
      by_cases hl : pa < 3
      · rw [if_pos (show (X.1 2 6 = 1 ∧ X.1 2 7 = nI 4) ∧ M.1 0 38 < 3 from ⟨⟨hk, w4⟩, by rw [c8]; exact nI_lt (b := 3) hl (by omega)⟩)]
        exact ⟨fun K => zu (f_X12_readParty M) K, lnR_wrap (lnParty h ⟨hk, w4⟩ hI hl), rfl⟩
      · have hnl : ¬ nI pa < 3 := nI_nlt (b := 3) (by omega) (by omega)
        rw [if_neg (show ¬ ((X.1 2 6 = 1 ∧ X.1 2 7 = nI 4) ∧ M.1 0 38 < 3) from fun z => hnl (by rw [← c8]; exact z.2)), if_neg (show ¬ (X.1 2 6 = 1 ∧ X.1 2 7 = nI 5) from fun z => hne (j := 4) (k := 5) (by omega) (by omega) (by omega) (w4.symm.trans z.2)), if_neg (show ¬ ((X.1 2 6 = 1 ∧ X.1 2 7 = nI 6) ∧ M.1 0 49 = 0) from fun z => hne (j := 4) (k := 6) (by omega) (by omega) (by omega) (w4.symm.trans z.1.2)), if_neg (show ¬ ((X.1 2 6 = 1 ∧ X.1 2 7 = nI 7) ∧ M.1 0 50 = 0) from fun z => hne (j := 4) (k := 7) (by omega) (by omega) (by omega) (w4.symm.trans z.1.2)), if_neg (show ¬ ((X.1 2 6 = 1 ∧ X.1 2 7 = nI 8) ∧ M.1 0 51 = 0) from fun z => hne (j := 4) (k := 8) (by omega) (by omega) (by omega) (w4.symm.trans z.1.2))]
        refine ⟨fun K => zu (f_X12_wrong 2 M) K, lnR_wrap (lnNo h ?_), rfl⟩
        unfold f_X7_readParty_2_21 f_X7_beginSort_2
        rw [c7, if_neg hnl, refW r1 rfl, r1, zb_def, if_pos rfl]
    rw [if_neg (show ¬ X.1 2 7 = 4 from w4), if_neg (show ¬ ((X.1 2 6 = 1 ∧ X.1 2 7 = nI 4) ∧ M.1 0 38 < 3) from fun z => w4 z.1.2)]
    by_cases w5 : X.1 2 7 = nI 5
    · rw [if_pos (show X.1 2 7 = 5 from w5)]
      rw [if_pos (show X.1 2 6 = 1 ∧ X.1 2 7 = nI 5 from ⟨hk, w5⟩)]
      exact ⟨fun K => zu (f_X12_readWants M) K, lnR_wrap (lnWants h ⟨hk, w5⟩ hI), rfl⟩
    rw [if_neg (show ¬ X.1 2 7 = 5 from w5), if_neg (show ¬ (X.1 2 6 = 1 ∧ X.1 2 7 = nI 5) from fun z => w5 z.2)]
    by_cases w6 : X.1 2 7 = nI 6
    · rw [if_pos (show X.1 2 7 = 6 from w6)]
      cases g with
      | false =>
        rw [if_pos (show (X.1 2 6 = 1 ∧ X.1 2 7 = nI 6) ∧ M.1 0 49 = 0 from ⟨⟨hk, w6⟩, by rw [l5]; rfl⟩)]
        exact ⟨_, lnGrow h ⟨hk, w6⟩ hI, rfl⟩
      | true =>
        rw [if_neg (show ¬ ((X.1 2 6 = 1 ∧ X.1 2 7 = nI 6) ∧ M.1 0 49 = 0) from fun z => by have z2 := z.2; rw [l5] at z2; exact absurd z2 (by decide)), if_neg (show ¬ ((X.1 2 6 = 1 ∧ X.1 2 7 = nI 7) ∧ M.1 0 50 = 0) from fun z => hne (j := 6) (k := 7) (by omega) (by omega) (by omega) (w6.symm.trans z.1.2)), if_neg (show ¬ ((X.1 2 6 = 1 ∧ X.1 2 7 = nI 8) ∧ M.1 0 51 = 0) from fun z => hne (j := 6) (k := 8) (by omega) (by omega) (by omega) (w6.symm.trans z.1.2))]
        refine ⟨fun K => zu (f_X12_wrong 2 M) K, lnNo h ?_, rfl⟩
        rcases onceC h (Or.inl rfl) ⟨hk, w6⟩ hI with ⟨z, -⟩ | ⟨-, X1, z1, z2⟩
        · cases z
        · rw [z1, zb_def, if_pos rfl, z2]
    rw [if_neg (show ¬ X.1 2 7 = 6 from w6), if_neg (show ¬ ((X.1 2 6 = 1 ∧ X.1 2 7 = nI 6) ∧ M.1 0 49 = 0) from fun z => w6 z.1.2)]
    by_cases w7 : X.1 2 7 = nI 7
    · rw [if_pos (show X.1 2 7 = 7 from w7)]
      cases f with
      | false =>
        rw [if_pos (show (X.1 2 6 = 1 ∧ X.1 2 7 = nI 7) ∧ M.1 0 50 = 0 from ⟨⟨hk, w7⟩, by rw [l6]; rfl⟩)]
        exact ⟨_, lnR_wrap (lnFrost h ⟨hk, w7⟩ hI), rfl⟩
      | true =>
        rw [if_neg (show ¬ ((X.1 2 6 = 1 ∧ X.1 2 7 = nI 7) ∧ M.1 0 50 = 0) from fun z => by have z2 := z.2; rw [l6] at z2; exact absurd z2 (by decide)), if_neg (show ¬ ((X.1 2 6 = 1 ∧ X.1 2 7 = nI 8) ∧ M.1 0 51 = 0) from fun z => hne (j := 7) (k := 8) (by omega) (by omega) (by omega) (w7.symm.trans z.1.2))]
        refine ⟨fun K => zu (f_X12_wrong 2 M) K, lnR_wrap (lnNo h ?_), rfl⟩
        unfold f_X7_readFrost_2_21
        rcases onceC h (Or.inr (Or.inl rfl)) ⟨hk, w7⟩ hI with ⟨z, -⟩ | ⟨-, X1, z1, z2⟩
        · cases z
        · rw [z1, zb_def, if_pos rfl, z2]
    rw [if_neg (show ¬ X.1 2 7 = 7 from w7), if_neg (show ¬ ((X.1 2 6 = 1 ∧ X.1 2 7 = nI 7) ∧ M.1 0 50 = 0) from fun z => w7 z.1.2)]
    by_cases w8 : X.1 2 7 = nI 8
    · rw [if_pos (show X.1 2 7 = 8 from w8)]
      cases d with
      | false =>
        rw [if_pos (show (X.1 2 6 = 1 ∧ X.1 2 7 = nI 8) ∧ M.1 0 51 = 0 from ⟨⟨hk, w8⟩, by rw [l7]; rfl⟩)]
        exact ⟨_, lnR_wrap (lnDraw h ⟨hk, w8⟩ hI), rfl⟩
      | true =>
        rw [if_neg (show ¬ ((X.1 2 6 = 1 ∧ X.1 2 7 = nI 8) ∧ M.1 0 51 = 0) from fun z => by have z2 := z.2; rw [l7] at z2; exact absurd z2 (by decide))]
        refine ⟨fun K => zu (f_X12_wrong 2 M) K, lnR_wrap (lnNo h ?_), rfl⟩
        unfold f_X7_readDraw_2_21
        rcases onceC h (Or.inr (Or.inr rfl)) ⟨hk, w8⟩ hI with ⟨z, -⟩ | ⟨-, X1, z1, z2⟩
        · cases z
        · rw [z1, zb_def, if_pos rfl, z2]
    rw [if_neg (show ¬ X.1 2 7 = 8 from w8), if_neg (show ¬ ((X.1 2 6 = 1 ∧ X.1 2 7 = nI 8) ∧ M.1 0 51 = 0) from fun z => w8 z.1.2)]
    exact ⟨fun K => zu (f_X12_wrong 2 M) K, lnNo h (refW r1 rfl), rfl⟩
  · rw [if_neg hk]
    unfold f_X7_readLine_2_21_B16
    rw [if_neg (show ¬ (-1 : Int32) = 0 by decide), if_neg (show ¬ (-1 : Int32) = 1 by decide), if_neg (show ¬ (-1 : Int32) = 2 by decide), if_neg (show ¬ (-1 : Int32) = 3 by decide), if_neg (show ¬ (-1 : Int32) = 4 by decide), if_neg (show ¬ (-1 : Int32) = 5 by decide), if_neg (show ¬ (-1 : Int32) = 6 by decide), if_neg (show ¬ (-1 : Int32) = 7 by decide), if_neg (show ¬ (-1 : Int32) = 8 by decide), if_neg (show ¬ ((X.1 2 6 = 1 ∧ X.1 2 7 = nI 0) ∧ M.1 0 48 = 0) from fun z => hk z.1.1), if_neg (show ¬ ((X.1 2 6 = 1 ∧ X.1 2 7 = nI 1) ∧ M.1 0 35 < 4) from fun z => hk z.1.1), if_neg (show ¬ ((X.1 2 6 = 1 ∧ X.1 2 7 = nI 2) ∧ M.1 0 36 < 4) from fun z => hk z.1.1), if_neg (show ¬ ((X.1 2 6 = 1 ∧ X.1 2 7 = nI 3) ∧ M.1 0 37 < 8) from fun z => hk z.1.1), if_neg (show ¬ ((X.1 2 6 = 1 ∧ X.1 2 7 = nI 4) ∧ M.1 0 38 < 3) from fun z => hk z.1.1), if_neg (show ¬ (X.1 2 6 = 1 ∧ X.1 2 7 = nI 5) from fun z => hk z.1), if_neg (show ¬ ((X.1 2 6 = 1 ∧ X.1 2 7 = nI 6) ∧ M.1 0 49 = 0) from fun z => hk z.1.1), if_neg (show ¬ ((X.1 2 6 = 1 ∧ X.1 2 7 = nI 7) ∧ M.1 0 50 = 0) from fun z => hk z.1.1), if_neg (show ¬ ((X.1 2 6 = 1 ∧ X.1 2 7 = nI 8) ∧ M.1 0 51 = 0) from fun z => hk z.1.1)]
    exact ⟨fun K => zu (f_X12_wrong 2 M) K, lnNo h (refW r1 rfl), rfl⟩
