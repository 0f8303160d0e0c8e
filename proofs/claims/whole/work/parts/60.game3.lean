/-! ===== game: the reference's three turns; the pair ===== -/
theorem endOk {st tp pa c : Nat} {S : zS} {d : Nat → Nat} (hM : gM st tp pa c S) (hN : ∀ b, b < c → isI 0 99 (S.1 19 (8 * b))) (h26 : ∀ p, p < pa → S.1 26 p = sI (d p)) (hv : ∀ p, p < pa → vld (S.1 19) d c p) : ∃ T, f_X12_layEnd S = some (1, T) ∧ kp [20, 24] S T ∧ ∀ p, p < pa → T.1 24 p = gJ (S.1 19) st c tp (S.1 15) (S.1 14) p (lk (S.1 19) d pa) := by
  obtain ⟨V, q, e, hq, kV, aV⟩ := endP hM hN h26 pa (Nat.le_refl _) hv
  obtain ⟨hst, htp, hpa, hc, m1, m2, m3, m4⟩ := id hM
  have hzN : zN = 10000 := rfl
  obtain ⟨q, rfl⟩ : ∃ k, q = k + 1 := ⟨q - 1, by omega⟩
  have hMV : gM st tp pa c V := ⟨hst, htp, hpa, hc, by rw [kV.2 0 (by decide)]; exact m1, by rw [kV.2 0 (by decide)]; exact m2, by rw [kV.2 0 (by decide)]; exact m3, by rw [kV.2 19 (by decide)]; exact m4⟩
  obtain ⟨T, eT, kT, hT⟩ := endL hMV aV m4
  refine ⟨T, ?_, kp_trans (kp_in kV (by decide)) (kp_in kT (by decide)), fun p hp => ?_⟩
  · rw [e, f_X12_layEnd_L8, kV.2 0 (by decide), m3, if_neg (nI_nlt (Nat.le_refl _) (by omega)), eT]
  · rw [hT p hp, kV.2 14 (by decide), kV.2 15 (by decide)]
theorem endNo {st tp pa c b m : Nat} {S : zS} {d : Nat → Nat} (hM : gM st tp pa c S) (hN : ∀ b, b < c → isI 0 99 (S.1 19 (8 * b))) (h26 : ∀ p, p < pa → S.1 26 p = sI (d p)) (hm : m + 1 = pa) (hv : ∀ p, p < m → vld (S.1 19) d c p) (hb : b < c) (hd : d m = b + 1) (hl : lk (S.1 19) d m b = false) : ∃ T, f_X12_layEnd S = some (0, T) ∧ kp [20, 24] S T := by
  obtain ⟨V, q, e, hq, kV, aV⟩ := endP hM hN h26 m (by omega) hv
  obtain ⟨hst, htp, hpa, hc, m1, m2, m3, m4⟩ := id hM
  have hzN : zN = 10000 := rfl
  obtain ⟨q, rfl⟩ : ∃ k, q = k + 1 + 1 := ⟨q - 2, by omega⟩
  have h45 : V.1 0 45 = nI pa := by rw [kV.2 0 (by decide)]; exact m3
  have h26' : V.1 26 (nI m).toNatClampNeg = sI (d m) := by rw [nI_clamp (by omega), kV.2 26 (by decide)]; exact h26 m (by omega)
  have hz : zin (nI m) 3 := zinN (by omega) (by omega)
  have hdead : ¬ liv (V.1 20) b = true := by
    have : liv (V.1 20) b = liv (stA (S.1 19) (lk (S.1 19) d m)) b := by unfold liv; rw [aV (8 * b) (by omega)]
    rw [this, liv_stA _ _ (by omega), hl]
    simp
  refine ⟨V, ?_, kp_in kV (by decide)⟩
  rw [e, f_X12_layEnd_L8, h45, if_pos (nI_lt (by omega) (by omega)), if_neg (by decide), if_pos hz]
  simp only [h26', hd, sI]
  rw [if_neg (nI_not_neg (by omega)), if_pos hz, livesM (by omega), zb_def, if_neg hdead, if_pos rfl]
  unfold f_X12_layEnd_B47
  rw [if_pos rfl, zlet_def, nI_1, hm, f_X12_layEnd_L8, h45, if_neg (nI_nlt (Nat.le_refl _) (by omega)), endN hpa (by omega) h45]
def d3 (a b e k : Nat) : Nat := if k = 0 then a else if k = 1 then b else e
theorem copy58 {pa : Nat} {S : zS} {x1 x2 : Int32} (hpa : pa ≤ 3) (m3 : S.1 0 45 = nI pa) (K : Int32 → Int32 → zS → Option zS) : ∃ T, f_X12_layThird_L58 K zN x1 x2 0 S = K x1 (x2 + 1) T ∧ kp [25] S T ∧ ∀ p, p < pa → T.1 25 p = S.1 24 p := by
  refine loopI (f := fun q (V : zS) p => f_X12_layThird_L58 K q x1 x2 (nI p) V) (fun k V => kp [25] S V ∧ ∀ p, p < k → V.1 25 p = S.1 24 p) (fun o => ∃ T, o = K x1 (x2 + 1) T ∧ kp [25] S T ∧ ∀ p, p < pa → T.1 25 p = S.1 24 p) (c := pa) ?_ ?_ pa 0 zN S (by omega) (by show pa < 10000; omega) ⟨kp_rfl _ _, fun j hj => absurd hj (by omega)⟩
  · rintro q V k hk ⟨kV, hV⟩
    refine ⟨zput V 25 k (V.1 24 k), ?_, kp_trans kV (kp_put (by decide)), fun p hp => ?_⟩
    · rw [f_X12_layThird_L58, kV.2 0 (by decide), m3, if_pos (nI_lt hk (by omega)), if_pos (zinN (by omega) (by omega)), if_pos (zinN (by omega) (by omega)), zlet_def, zlet_def, nI_1, nI_clamp (by omega)]
    · rw [zput1_eq]
      by_cases hpk : p = k
      · subst hpk; rw [upd_at, kV.2 24 (by decide)]
      · rw [upd_ne _ _ _ _ hpk]; exact hV p (by omega)
  · rintro q V ⟨kV, hV⟩
    refine ⟨V, ?_, kV, hV⟩
    rw [f_X12_layThird_L58, kV.2 0 (by decide), m3, if_neg (nI_nlt (Nat.le_refl _) (by omega)), zlet_def]
theorem copy29 {pa : Nat} {S : zS} (hpa : pa ≤ 3) (m3 : S.1 0 45 = nI pa) : ∃ T, f_X12_layLast_L29 zN 0 S = some T ∧ kp [25] S T ∧ ∀ p, p < pa → T.1 25 p = S.1 24 p := by
  refine loopI (f := fun q (V : zS) p => f_X12_layLast_L29 q (nI p) V) (fun k V => kp [25] S V ∧ ∀ p, p < k → V.1 25 p = S.1 24 p) (fun o => ∃ T, o = some T ∧ kp [25] S T ∧ ∀ p, p < pa → T.1 25 p = S.1 24 p) (c := pa) ?_ ?_ pa 0 zN S (by omega) (by show pa < 10000; omega) ⟨kp_rfl _ _, fun j hj => absurd hj (by omega)⟩
  · rintro q V k hk ⟨kV, hV⟩
    refine ⟨zput V 25 k (V.1 24 k), ?_, kp_trans kV (kp_put (by decide)), fun p hp => ?_⟩
    · rw [f_X12_layLast_L29, kV.2 0 (by decide), m3, if_pos (nI_lt hk (by omega)), if_pos (zinN (by omega) (by omega)), if_pos (zinN (by omega) (by omega)), zlet_def, zlet_def, nI_1, nI_clamp (by omega)]
    · rw [zput1_eq]
      by_cases hpk : p = k
      · subst hpk; rw [upd_at, kV.2 24 (by decide)]
      · rw [upd_ne _ _ _ _ hpk]; exact hV p (by omega)
  · rintro q V ⟨kV, hV⟩
    refine ⟨V, ?_, kV, hV⟩
    rw [f_X12_layLast_L29, kV.2 0 (by decide), m3, if_neg (nI_nlt (Nat.le_refl _) (by omega))]
theorem copy100 {S : zS} {x1 : Int32} (K : Int32 → zS → Option zS) : ∃ T, f_X12_laySecond_L100 K zN x1 0 S = K (x1 + 1) T ∧ kp [27] S T ∧ ∀ p, p < 3 → T.1 27 p = S.1 25 p := by
  refine loopI (f := fun q (V : zS) p => f_X12_laySecond_L100 K q x1 (nI p) V) (fun k V => kp [27] S V ∧ ∀ p, p < k → V.1 27 p = S.1 25 p) (fun o => ∃ T, o = K (x1 + 1) T ∧ kp [27] S T ∧ ∀ p, p < 3 → T.1 27 p = S.1 25 p) (c := 3) ?_ ?_ 3 0 zN S (by omega) (by decide) ⟨kp_rfl _ _, fun j hj => absurd hj (by omega)⟩
  · rintro q V k hk ⟨kV, hV⟩
    refine ⟨zput V 27 k (V.1 25 k), ?_, kp_trans kV (kp_put (by decide)), fun p hp => ?_⟩
    · rw [f_X12_laySecond_L100, if_pos (show nI k < 3 from nI_lt (b := 3) hk (by omega)), if_pos (zinN (by omega) (by omega)), if_pos (zinN (by omega) (by omega)), zlet_def, zlet_def, nI_1, nI_clamp (by omega)]
    · rw [zput1_eq]
      by_cases hpk : p = k
      · subst hpk; rw [upd_at, kV.2 25 (by decide)]
      · rw [upd_ne _ _ _ _ hpk]; exact hV p (by omega)
  · rintro q V ⟨kV, hV⟩
    refine ⟨V, ?_, kV, hV⟩
    rw [f_X12_laySecond_L100, if_neg (by decide), zlet_def]
theorem sI_m2 {k : Nat} (h : k < 100) : ¬ sI k = -2 := by
  cases k with
  | zero => decide
  | succ k =>
    intro z
    have : nI k < 0 := by rw [show nI k = -2 from z]; decide
    exact nI_not_neg (by omega) this
/-- a store that plays the game goes on from Sm -/
def gK (st tp pa c : Nat) (Sm S : zS) : Prop := gM st tp pa c S ∧ S.1 19 = Sm.1 19 ∧ S.1 14 = Sm.1 14 ∧ S.1 15 = Sm.1 15
theorem gK_kp {st tp pa c : Nat} {Sm S T : zS} (h : gK st tp pa c Sm S) (hk : kp [20, 24, 25, 26, 27] S T) : gK st tp pa c Sm T := by
  obtain ⟨⟨hst, htp, hpa, hc, m1, m2, m3, m4⟩, a, b, e⟩ := h
  refine ⟨⟨hst, htp, hpa, hc, ?_, ?_, ?_, ?_⟩, ?_, ?_, ?_⟩
  · rw [hk.2 0 (by decide)]; exact m1
  · rw [hk.2 0 (by decide)]; exact m2
  · rw [hk.2 0 (by decide)]; exact m3
  · rw [hk.2 19 (by decide)]; exact m4
  · rw [hk.2 19 (by decide)]; exact a
  · rw [hk.2 14 (by decide)]; exact b
  · rw [hk.2 15 (by decide)]; exact e
theorem thirdM {st tp c a b : Nat} {Sm S : zS} {J : Nat → (Nat → Bool) → Int32} (eJ : J = gJ (Sm.1 19) st c tp (Sm.1 15) (Sm.1 14)) (hK : gK st tp 3 c Sm S) (hN : ∀ b, b < c → isI 0 99 (Sm.1 19 (8 * b))) (h0 : S.1 26 0 = sI a) (h1 : S.1 26 1 = sI b) (v0 : vld (Sm.1 19) (d3 a b 0) c 0) (v1 : vld (Sm.1 19) (d3 a b 0) c 1) : ∃ T, f_X12_layThird S = some T ∧ kp [20, 24, 25, 26] S T ∧ T.1 26 0 = sI a ∧ T.1 26 1 = sI b ∧ T.1 26 2 = sI (gT J c 3 (rm (rm (liv (Sm.1 19)) a) b)) ∧ ∀ p, p < 3 → T.1 25 p = J p (gE3 J c 3 (rm (rm (liv (Sm.1 19)) a) b)) := by
  subst eJ
  have hc := hK.1.2.2.2.1
  -- one try
  have try_ : ∀ (V : zS) (k : Nat), kp [20, 24, 25, 26] S V → V.1 26 0 = sI a → V.1 26 1 = sI b → k ≤ c → ((k = 0 ∨ ∃ o, k = o + 1 ∧ rm (rm (liv (Sm.1 19)) a) b o = true) → ∃ T, f_X12_layEnd (zput V 26 2 (sI k)) = some (1, T) ∧ kp [20, 24] (zput V 26 2 (sI k)) T ∧ ∀ p, p < 3 → T.1 24 p = gJ (Sm.1 19) st c tp (Sm.1 15) (Sm.1 14) p (rm (rm (rm (liv (Sm.1 19)) a) b) k)) ∧ (∀ o, k = o + 1 → rm (rm (liv (Sm.1 19)) a) b o = false → ∃ T, f_X12_layEnd (zput V 26 2 (sI k)) = some (0, T) ∧ kp [20, 24] (zput V 26 2 (sI k)) T) := by
    intro V k kV w0 w1 hkc
    have hKV : gK st tp 3 c Sm (zput V 26 2 (sI k)) := gK_kp hK (kp_trans (kp_in kV (by decide)) (kp_put (by decide)))
    obtain ⟨hM, g1, g2, g3⟩ := hKV
    have h26 : ∀ p, p < 3 → (zput V 26 2 (sI k)).1 26 p = sI (d3 a b k p) := fun p hp => by
      rw [zput1_eq]
      have : p = 0 ∨ p = 1 ∨ p = 2 := by omega
      rcases this with rfl | rfl | rfl
      · rw [upd_ne _ _ _ _ (by decide)]; exact w0
      · rw [upd_ne _ _ _ _ (by decide)]; exact w1
      · rw [upd_at]; rfl
    have hv : ∀ p, p < 2 → vld (Sm.1 19) (d3 a b k) c p := fun p hp => by
      have : p = 0 ∨ p = 1 := by omega
      rcases this with rfl | rfl
      · exact v0
      · exact v1
    refine ⟨fun hok => ?_, fun o ho hl => ?_⟩
    · obtain ⟨T, e, kT, hT⟩ := endOk (d := d3 a b k) hM (by rw [g1]; exact hN) h26 (fun p hp => by
        rw [g1]
        by_cases hp2 : p < 2
        · exact hv p hp2
        · have : p = 2 := by omega
          subst this
          rcases hok with rfl | ⟨o, rfl, ho⟩
          · exact Or.inl rfl
          · exact Or.inr ⟨o, by omega, rfl, ho⟩)
      refine ⟨T, e, kT, fun p hp => ?_⟩
      rw [hT p hp, g1, g2, g3]
      rfl
    · obtain ⟨T, e, kT⟩ := endNo (d := d3 a b k) (m := 2) (b := o) hM (by rw [g1]; exact hN) h26 rfl (fun p hp => by rw [g1]; exact hv p hp) (by omega) (by rw [← ho]; rfl) (by rw [g1]; exact hl)
      exact ⟨T, e, kT⟩
  have h45 : ∀ V : zS, kp [20, 24, 25, 26] S V → V.1 0 45 = nI 3 ∧ V.1 19 96 = nI c := fun V kV => by
    obtain ⟨⟨-, -, -, -, -, -, m3, m4⟩, -⟩ := gK_kp hK (kp_in kV (by decide))
    exact ⟨m3, m4⟩
  -- none is tried first
  obtain ⟨T0, e0, k0, j0⟩ := (try_ S 0 (kp_rfl _ _) h0 h1 (by omega)).1 (Or.inl rfl)
  have kT0 : kp [20, 24, 25, 26] S T0 := kp_trans (kp_put (by decide)) (kp_in k0 (by decide))
  obtain ⟨q0, hq0, hq1⟩ : ∃ q0, zN = q0 + 1 ∧ 12 < q0 := ⟨9999, rfl, by decide⟩
  obtain ⟨T1, e1, k1, j1⟩ := copy58 (S := T0) (x1 := -1) (x2 := -1) (by omega) (h45 T0 kT0).1 (f_X12_layThird_L5 q0)
  have hs : f_X12_layThird S = f_X12_layThird_L5 q0 (sI 0) (nI 0) T1 := by
    unfold f_X12_layThird
    rw [hq0, f_X12_layThird_L5, show Int32.toNatClampNeg 96 = 96 from rfl, (h45 S (kp_rfl _ _)).2, if_pos (by rw [Int32.lt_iff_toInt_lt, nI_toInt (by omega)]; show (-1 : Int) < _; omega), zlet_def, show Int32.toNatClampNeg 2 = 2 from rfl]
    rw [show f_X12_layEnd (zput S 26 2 (-1)) = some (1, T0) from e0, zb_def, if_neg (by decide), if_pos rfl, e1]
    rfl
  rw [hs]
  have kT1 : kp [20, 24, 25, 26] S T1 := kp_trans kT0 (kp_in k1 (by decide))
  have t26 : ∀ p, p < 2 → T1.1 26 p = S.1 26 p := fun p hp => by
    rw [k1.2 26 (by decide), k0.2 26 (by decide), zput1_eq, upd_ne _ _ _ _ (by omega)]
  have hfin : gT (gJ (Sm.1 19) st c tp (Sm.1 15) (Sm.1 14)) c 3 (rm (rm (liv (Sm.1 19)) a) b) = sel (rm (rm (liv (Sm.1 19)) a) b) (fun i => gJ (Sm.1 19) st c tp (Sm.1 15) (Sm.1 14) 2 (rm (rm (rm (liv (Sm.1 19)) a) b) i)) c := by
    unfold gT; rw [if_pos rfl]
  unfold gE3
  rw [hfin]
  generalize hlv : rm (rm (liv (Sm.1 19)) a) b = lv at try_ j0 ⊢
  generalize hJ : gJ (Sm.1 19) st c tp (Sm.1 15) (Sm.1 14) = J at try_ j0 ⊢
  refine loopI (f := fun q (z : Int32 × zS) o => f_X12_layThird_L5 q z.1 (nI o) z.2) (fun o z => z.1 = sI (sel lv (fun i => J 2 (rm lv i)) o) ∧ kp [20, 24, 25, 26] S z.2 ∧ z.2.1 26 0 = sI a ∧ z.2.1 26 1 = sI b ∧ ∀ p, p < 3 → z.2.1 25 p = J p (rm lv (sel lv (fun i => J 2 (rm lv i)) o))) (fun z => ∃ T, z = some T ∧ kp [20, 24, 25, 26] S T ∧ T.1 26 0 = sI a ∧ T.1 26 1 = sI b ∧ T.1 26 2 = sI (sel lv (fun i => J 2 (rm lv i)) c) ∧ ∀ p, p < 3 → T.1 25 p = J p (rm lv (sel lv (fun i => J 2 (rm lv i)) c))) (c := c) ?_ ?_ c 0 q0 (sI 0, T1) (by omega) (by omega) ⟨rfl, kT1, (t26 0 (by omega)).trans h0, (t26 1 (by omega)).trans h1, fun p hp => ?_⟩
  · rintro q ⟨x1, V⟩ o ho ⟨hx, kV, w0, w1, w25⟩
    dsimp only at hx kV w0 w1 w25 ⊢
    have hkle := sel_le lv (fun i => J 2 (rm lv i)) o
    obtain ⟨u3, u4⟩ := h45 V kV
    obtain ⟨ty, tn⟩ := try_ V (o + 1) kV w0 w1 (by omega)
    have estart : f_X12_layThird_L5 (q + 1) x1 (nI o) V = zb (f_X12_layEnd (zput V 26 2 (sI (o + 1)))) fun r5 T4 => if r5 = 0 then f_X12_layThird_L5 q x1 (nI (o + 1)) T4 else if x1 = (-2) then f_X12_layThird_L58 (f_X12_layThird_L5 q) zN (nI o) (nI o) 0 T4 else if (T4.1 25 2) < (T4.1 24 2) then f_X12_layThird_L58 (f_X12_layThird_L5 q) zN (nI o) (nI o) 0 T4 else f_X12_layThird_L5 q x1 (nI (o + 1)) T4 := by
      rw [f_X12_layThird_L5, show Int32.toNatClampNeg 96 = 96 from rfl, u4, if_pos (nI_lt ho (by omega)), zlet_def, nI_1]
      rfl
    rw [sel_s]
    have keepW : ∀ T : zS, kp [20, 24] (zput V 26 2 (sI (o + 1))) T → kp [20, 24, 25, 26] S T ∧ T.1 26 0 = sI a ∧ T.1 26 1 = sI b ∧ T.1 25 = V.1 25 := fun T kT => by
      refine ⟨kp_trans kV (kp_trans (kp_put (by decide)) (kp_in kT (by decide))), ?_, ?_, ?_⟩
      · rw [kT.2 26 (by decide), zput1_eq, upd_ne _ _ _ _ (by decide)]; exact w0
      · rw [kT.2 26 (by decide), zput1_eq, upd_ne _ _ _ _ (by decide)]; exact w1
      · rw [kT.2 25 (by decide), zput1_ne _ _ _ _ _ (by decide)]
    cases hok : lv o with
    | true =>
      obtain ⟨T, eT, kT, jT⟩ := ty (Or.inr ⟨o, rfl, hok⟩)
      obtain ⟨kST, x0, x1', x25⟩ := keepW T kT
      rw [eT, zb_def, if_neg (by decide), hx, if_neg (sI_m2 (by omega)), x25, w25 2 (by omega), jT 2 (by omega)] at estart
      by_cases hlt : J 2 (rm lv (sel lv (fun i => J 2 (rm lv i)) o)) < J 2 (rm lv (o + 1))
      · obtain ⟨T2, e2, k2, j2⟩ := copy58 (S := T) (x1 := nI o) (x2 := nI o) (by omega) (h45 T kST).1 (f_X12_layThird_L5 q)
        rw [if_pos hlt, e2, nI_1] at estart
        refine ⟨(nI o, T2), by rw [hx]; exact estart, ?_, kp_trans kST (kp_in k2 (by decide)), ?_, ?_, fun p hp => ?_⟩
        · dsimp only; rw [if_pos ⟨rfl, hlt⟩]; rfl
        · dsimp only; rw [k2.2 26 (by decide)]; exact x0
        · dsimp only; rw [k2.2 26 (by decide)]; exact x1'
        · dsimp only; rw [if_pos ⟨rfl, hlt⟩, j2 p hp, jT p hp]
      · rw [if_neg hlt] at estart
        refine ⟨(x1, T), by dsimp only; rw [hx]; exact estart, ?_, kST, x0, x1', fun p hp => ?_⟩
        · dsimp only; rw [if_neg (fun z => hlt z.2)]; exact hx
        · dsimp only; rw [if_neg (fun z => hlt z.2), x25]; exact w25 p hp
    | false =>
      obtain ⟨T, eT, kT⟩ := tn o rfl hok
      obtain ⟨kST, x0, x1', x25⟩ := keepW T kT
      rw [eT, zb_def, if_pos rfl] at estart
      refine ⟨(x1, T), estart, ?_, kST, x0, x1', fun p hp => ?_⟩
      · dsimp only; rw [if_neg (fun z => absurd z.1 (by decide))]; exact hx
      · dsimp only; rw [if_neg (fun z => absurd z.1 (by decide)), x25]; exact w25 p hp
  · rintro q ⟨x1, V⟩ ⟨hx, kV, w0, w1, w25⟩
    dsimp only at hx kV w0 w1 w25 ⊢
    obtain ⟨u3, u4⟩ := h45 V kV
    refine ⟨zput V 26 2 x1, ?_, kp_trans kV (kp_put (by decide)), ?_, ?_, ?_, fun p hp => ?_⟩
    · rw [f_X12_layThird_L5, show Int32.toNatClampNeg 96 = 96 from rfl, u4, if_neg (nI_nlt (Nat.le_refl _) (by omega)), zlet_def]
      rfl
    · rw [zput1_eq, upd_ne _ _ _ _ (by decide)]; exact w0
    · rw [zput1_eq, upd_ne _ _ _ _ (by decide)]; exact w1
    · rw [zput1_eq, upd_at]; exact hx
    · rw [zput1_ne _ _ _ _ _ (by decide)]; exact w25 p hp
  · rw [j1 p hp, j0 p hp]
    rfl
theorem lastM {st tp pa c a b : Nat} {Sm S : zS} {J : Nat → (Nat → Bool) → Int32} (eJ : J = gJ (Sm.1 19) st c tp (Sm.1 15) (Sm.1 14)) (hK : gK st tp pa c Sm S) (hN : ∀ b, b < c → isI 0 99 (Sm.1 19 (8 * b))) (hp2 : 1 ≤ pa) (h0 : S.1 26 0 = sI a) (h1 : S.1 26 1 = sI b) (v0 : vld (Sm.1 19) (d3 a b 0) c 0) (v1 : vld (Sm.1 19) (d3 a b 0) c 1) (hb0 : pa = 1 → b = 0) : ∃ T, f_X12_layLast S = some T ∧ kp [20, 24, 25, 26] S T ∧ T.1 26 0 = sI a ∧ T.1 26 1 = sI b ∧ T.1 26 2 = sI (gT J c pa (rm (rm (liv (Sm.1 19)) a) b)) ∧ ∀ p, p < pa → T.1 25 p = J p (gE3 J c pa (rm (rm (liv (Sm.1 19)) a) b)) := by
  have hpa := hK.1.2.2.1
  unfold f_X12_layLast
  rw [zlet_def, show Int32.toNatClampNeg 2 = 2 from rfl]
  have hK1 : gK st tp pa c Sm (zput S 26 2 (-1)) := gK_kp hK (kp_put (by decide))
  have x0 : (zput S 26 2 (-1)).1 26 0 = sI a := by rw [zput1_eq, upd_ne _ _ _ _ (by decide)]; exact h0
  have x1 : (zput S 26 2 (-1)).1 26 1 = sI b := by rw [zput1_eq, upd_ne _ _ _ _ (by decide)]; exact h1
  have m3 := hK1.1.2.2.2.2.2.2.1
  rw [m3]
  by_cases h3 : pa = 3
  · subst h3
    rw [if_pos (show nI 3 = 3 from rfl)]
    obtain ⟨T, e, k, r⟩ := thirdM eJ hK1 hN x0 x1 v0 v1
    rw [e, zu_def]
    exact ⟨T, rfl, kp_trans (kp_put (by decide)) k, r⟩
  · rw [if_neg (show ¬ nI pa = 3 from fun z => h3 ((nI_eq (b := 3) (by omega) (by omega)).mp z))]
    obtain ⟨hM, g1, g2, g3⟩ := id hK1
    obtain ⟨T, e, kT, jT⟩ := endOk (d := d3 a b 0) hM (by rw [g1]; exact hN) (fun p hp => by
      have : p = 0 ∨ p = 1 := by omega
      rcases this with rfl | rfl
      · exact x0
      · exact x1) (fun p hp => by
      rw [g1]
      have : p = 0 ∨ p = 1 := by omega
      rcases this with rfl | rfl
      · exact v0
      · exact v1)
    rw [e, zb_def, if_neg (by decide)]
    obtain ⟨T1, e1, k1, j1⟩ := copy29 (S := T) hpa (by rw [kT.2 0 (by decide)]; exact m3)
    have hT0 : gT J c pa (rm (rm (liv (Sm.1 19)) a) b) = 0 := by unfold gT; rw [if_neg h3]
    refine ⟨T1, e1, kp_trans (kp_put (by decide)) (kp_trans (kp_in kT (by decide)) (kp_in k1 (by decide))), ?_, ?_, ?_, fun p hp => ?_⟩
    · rw [k1.2 26 (by decide), kT.2 26 (by decide)]; exact x0
    · rw [k1.2 26 (by decide), kT.2 26 (by decide)]; exact x1
    · rw [k1.2 26 (by decide), kT.2 26 (by decide), zput1_eq, upd_at, hT0]; rfl
    · have hlk : lk (Sm.1 19) (d3 a b 0) pa = rm (rm (liv (Sm.1 19)) a) b := by
        have : pa = 1 ∨ pa = 2 := by omega
        rcases this with rfl | rfl
        · rw [hb0 rfl, rm_0]; rfl
        · rfl
      unfold gE3
      rw [hT0, rm_0, j1 p hp, jT p hp, g1, g2, g3, hlk, eJ]
