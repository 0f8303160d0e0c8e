/-! ===== game: the first turn; the pair ===== -/
/-- as gK0, where what lies is kept too -/
def gK1 (S T : zS) : Prop := T.2 = S.2 ∧ (∀ k, k ∉ [0, 20, 23, 24, 25, 26, 27] → T.1 k = S.1 k) ∧ ∀ i, i ≠ 60 → i ≠ 65 → i ≠ 66 → T.1 0 i = S.1 0 i
theorem gK1_rfl (S : zS) : gK1 S S := ⟨rfl, fun _ _ => rfl, fun _ _ _ _ => rfl⟩
theorem gK1_trans {S T U : zS} (h : gK1 S T) (h' : gK1 T U) : gK1 S U := ⟨h'.1.trans h.1, fun k hk => (h'.2.1 k hk).trans (h.2.1 k hk), fun i h1 h2 h3 => (h'.2.2 i h1 h2 h3).trans (h.2.2 i h1 h2 h3)⟩
theorem gK1_0 {S T : zS} (h : gK0 S T) : gK1 S T := ⟨h.1, fun k hk => h.2.1 k (fun z => hk (by
  simp only [List.mem_cons, List.not_mem_nil, or_false] at z ⊢
  omega)), fun i _ h2 h3 => h.2.2 i h2 h3⟩
theorem gK1_put {S : zS} {k i : Nat} {x : Int32} (h : k ∈ [20, 23, 24, 25, 26, 27]) : gK1 S (zput S k i x) := ⟨rfl, fun k' hk => zput1_ne S k i k' x (fun z => hk (by rw [z]; exact List.mem_cons_of_mem _ h)), fun j _ _ _ => by
  rw [zput1_ne]
  intro z
  rw [← z] at h
  exact absurd h (by decide)⟩
theorem gK_1 {st tp pa c : Nat} {Sm S T : zS} (h : gK st tp pa c Sm S) (hk : gK1 S T) : gK st tp pa c Sm T := by
  obtain ⟨⟨hst, htp, hpa, hc, m1, m2, m3, m4⟩, a, b, e⟩ := h
  refine ⟨⟨hst, htp, hpa, hc, ?_, ?_, ?_, ?_⟩, ?_, ?_, ?_⟩
  · rw [hk.2.2 42 (by decide) (by decide) (by decide)]; exact m1
  · rw [hk.2.2 44 (by decide) (by decide) (by decide)]; exact m2
  · rw [hk.2.2 45 (by decide) (by decide) (by decide)]; exact m3
  · rw [hk.2.1 19 (by decide)]; exact m4
  · rw [hk.2.1 19 (by decide)]; exact a
  · rw [hk.2.1 14 (by decide)]; exact b
  · rw [hk.2.1 15 (by decide)]; exact e
theorem countM {a b d pa : Nat} {S : zS} (hpa : pa ≤ 3) (ha : a < 13) (hb : b < 13) (hd : d < 13) (m3 : S.1 0 45 = nI pa) (h23 : ∀ k, k < pa → S.1 23 k = sI (dg3 a b d k)) : f_X12_game_L126 zN 0 0 S = some (nI (cnD a b d pa), S) := by
  refine loopI (f := fun q (x : Int32) k => f_X12_game_L126 q x (nI k) S) (fun k x => x = nI (cnD a b d k)) (fun o => o = some (nI (cnD a b d pa), S)) (c := pa) ?_ ?_ pa 0 zN 0 (by omega) (by show pa < 10000; omega) rfl
  · rintro q x k hk rfl
    refine ⟨_, ?_, rfl⟩
    have hdg : dg3 a b d k < 13 := by unfold dg3; split; exact ha; split; exact hb; exact hd
    have h23' : S.1 23 (nI k).toNatClampNeg = sI (dg3 a b d k) := by rw [nI_clamp (by omega)]; exact h23 k hk
    rw [f_X12_game_L126, m3, if_pos (nI_lt hk (by omega)), if_pos (zinN (by omega) (by omega)), h23']
    have hcn : cnD a b d (k + 1) = cnD a b d k + (if dg3 a b d k = 0 then 0 else 1) := rfl
    rw [hcn]
    have hng := sI_neg (dg3 a b d k) (by omega)
    unfold f_X12_game_B151
    by_cases h0 : dg3 a b d k = 0
    · rw [if_pos (hng.mpr h0), truth0, zb_def, zlet_def, zlet_def, nI_1, if_pos h0]
      show f_X12_game_L126 q (nI (cnD a b d k) + nI 0) _ _ = _
      rw [nI_add]
    · rw [if_neg (fun z => h0 (hng.mp z)), truth1, zb_def, zlet_def, zlet_def, nI_1, nI_1, if_neg h0]
  · rintro q x rfl
    rw [f_X12_game_L126, m3, if_neg (nI_nlt (Nat.le_refl _) (by omega))]
set_option maxHeartbeats 1000000 in
theorem firstT {st tp pa c : Nat} {Sm S : zS} {J : Nat → (Nat → Bool) → Int32} (eJ : J = gJ (Sm.1 19) st c tp (Sm.1 15) (Sm.1 14)) (hK : gK st tp pa c Sm S) (hN : ∀ b, b < c → isI 0 99 (Sm.1 19 (8 * b))) (hp1 : 1 ≤ pa) (x0 : Int32) : ∃ T, f_X12_game_L13 zN x0 0 (-1) S = f_X12_game_B113 T ∧ gK1 S T ∧ T.1 23 0 = sI (gS1 J c pa (liv (Sm.1 19))) ∧ T.1 23 1 = sI (gS2 J c pa (rm (liv (Sm.1 19)) (gS1 J c pa (liv (Sm.1 19))))) ∧ T.1 23 2 = sI (gT J c pa (rm (rm (liv (Sm.1 19)) (gS1 J c pa (liv (Sm.1 19)))) (gS2 J c pa (rm (liv (Sm.1 19)) (gS1 J c pa (liv (Sm.1 19))))))) := by
  have hc := hK.1.2.2.2.1
  have hpa := hK.1.2.2.1
  have h19 : ∀ V : zS, gK1 S V → V.1 19 96 = nI c ∧ V.1 0 45 = nI pa := fun V kV => ⟨(gK_1 hK kV).1.2.2.2.2.2.2.2, (gK_1 hK kV).1.2.2.2.2.2.2.1⟩
  have hpos : (0 : Int32) < nI pa := nI_lt (a := 0) (by omega) (by omega)
  have try_ : ∀ (V : zS) (k : Nat), gK1 S V → k ≤ c → (k = 0 ∨ ∃ o, o < c ∧ k = o + 1 ∧ liv (Sm.1 19) o = true) → ∃ T, f_X12_laySecond (zput V 26 0 (sI k)) = some T ∧ gK0 (zput V 26 0 (sI k)) T ∧ T.1 0 65 = sI (gS2 J c pa (rm (liv (Sm.1 19)) k)) ∧ T.1 0 66 = sI (gT J c pa (rm (rm (liv (Sm.1 19)) k) (gS2 J c pa (rm (liv (Sm.1 19)) k)))) ∧ T.1 27 0 = J 0 (gE2 J c pa (rm (liv (Sm.1 19)) k)) := by
    intro V k kV hkc hk
    obtain ⟨T, e, kT, t65, t66, t27⟩ := secondM (a := k) eJ (gK_1 hK (gK1_trans kV (gK1_put (k := 26) (i := 0) (x := sI k) (by decide)))) hN hp1 hkc (by rw [zput1_eq, upd_at]) (by
      rcases hk with rfl | ⟨o, ho, rfl, hl⟩
      · exact Or.inl rfl
      · exact Or.inr ⟨o, ho, rfl, hl⟩)
    exact ⟨T, e, kT, t65, t66, t27 0 (by omega)⟩
  have take_ : ∀ (q : Nat) (V : zS) (k : Nat), gK1 S V → V.1 0 65 = sI (gS2 J c pa (rm (liv (Sm.1 19)) k)) → V.1 0 66 = sI (gT J c pa (rm (rm (liv (Sm.1 19)) k) (gS2 J c pa (rm (liv (Sm.1 19)) k)))) → V.1 27 0 = J 0 (gE2 J c pa (rm (liv (Sm.1 19)) k)) → ∃ T, f_X12_game_B71 (f_X12_game_L13 q) (sI k) V = f_X12_game_L13 q (J 0 (gE2 J c pa (rm (liv (Sm.1 19)) k))) 1 (sI (k + 1)) T ∧ gK1 S T ∧ T.1 23 0 = sI k ∧ T.1 23 1 = sI (gS2 J c pa (rm (liv (Sm.1 19)) k)) ∧ T.1 23 2 = sI (gT J c pa (rm (rm (liv (Sm.1 19)) k) (gS2 J c pa (rm (liv (Sm.1 19)) k)))) := by
    intro q V k kV w65 w66 w27
    refine ⟨zput (zput (zput V 23 0 (sI k)) 23 1 (V.1 0 65)) 23 2 (V.1 0 66), ?_, gK1_trans kV (gK1_trans (gK1_trans (gK1_put (by decide)) (gK1_put (by decide))) (gK1_put (by decide))), ?_, ?_, ?_⟩
    · unfold f_X12_game_B71
      rw [zlet_def, zlet_def, zlet_def, zlet_def, zlet_def, show Int32.toNatClampNeg 0 = 0 from rfl, w27, sI_1]
      rfl
    · rw [zput1_eq, upd_ne _ _ _ _ (by decide), zput1_eq, upd_ne _ _ _ _ (by decide), zput1_eq, upd_at]
    · rw [zput1_eq, upd_ne _ _ _ _ (by decide), zput1_eq, upd_at]; exact w65
    · rw [zput1_eq, upd_at]; exact w66
  obtain ⟨q0, hq0, hq1⟩ : ∃ q0, zN = q0 + 1 ∧ 12 < q0 := ⟨9999, rfl, by decide⟩
  obtain ⟨T0, e0, k0, t65, t66, t27⟩ := try_ S 0 (gK1_rfl S) (by omega) (Or.inl rfl)
  have kT0 : gK1 S T0 := gK1_trans (gK1_put (by decide)) (gK1_0 k0)
  obtain ⟨T1, e1, k1, u0, u1, u2⟩ := take_ q0 T0 0 kT0 t65 t66 t27
  have hs : f_X12_game_L13 zN x0 0 (-1) S = f_X12_game_L13 q0 (J 0 (gE2 J c pa (rm (liv (Sm.1 19)) 0))) 1 (nI 0) T1 := by
    rw [hq0, f_X12_game_L13, show Int32.toNatClampNeg 96 = 96 from rfl, (h19 S (gK1_rfl S)).1, (h19 S (gK1_rfl S)).2, if_pos (by rw [Int32.lt_iff_toInt_lt, nI_toInt (by omega)]; show (-1 : Int) < _; omega), if_pos hpos]
    have hp := pullM (p := 0) (i := 0) hK (by omega) (by omega)
    rw [if_pos (Or.inl rfl)] at hp
    rw [show f_X12_canPull 0 (-1) S = some (1, S) from hp, zb_def, if_neg (by decide), zlet_def, show Int32.toNatClampNeg 0 = 0 from rfl, show f_X12_laySecond (zput S 26 0 (-1)) = some T0 from e0, zu_def, if_pos rfl]
    exact e1
  rw [hs]
  have hS1 : gS1 J c pa (liv (Sm.1 19)) = sel (liv (Sm.1 19)) (fun i => J 0 (gE2 J c pa (rm (liv (Sm.1 19)) i))) c := by
    unfold gS1
    rw [if_pos hp1]
  rw [hS1]
  have hpm : ∀ (V : zS) (o : Nat), gK1 S V → o < c → f_X12_canPull 0 (nI o) V = some (if liv (Sm.1 19) o = true then 1 else 0, V) := fun V o kV ho => by
    have := pullM (p := 0) (i := o + 1) (gK_1 hK kV) (by omega) (by omega)
    rw [show o + 1 - 1 = o by omega] at this
    rw [show f_X12_canPull 0 (nI o) V = _ from this]
    by_cases hl : liv (Sm.1 19) o = true
    · rw [if_pos (Or.inr ⟨by omega, hl⟩), if_pos hl]
    · rw [if_neg (fun z => by
        rcases z with z | z
        · omega
        · exact hl z.2), if_neg hl]
  generalize hlvv : liv (Sm.1 19) = lv at try_ take_ hpm u1 u2 ⊢
  refine loopI (f := fun q (z : Int32 × zS) o => f_X12_game_L13 q z.1 1 (nI o) z.2) (fun o z => z.1 = J 0 (gE2 J c pa (rm lv (sel lv (fun i => J 0 (gE2 J c pa (rm lv i))) o))) ∧ gK1 S z.2 ∧ z.2.1 23 0 = sI (sel lv (fun i => J 0 (gE2 J c pa (rm lv i))) o) ∧ z.2.1 23 1 = sI (gS2 J c pa (rm lv (sel lv (fun i => J 0 (gE2 J c pa (rm lv i))) o))) ∧ z.2.1 23 2 = sI (gT J c pa (rm (rm lv (sel lv (fun i => J 0 (gE2 J c pa (rm lv i))) o)) (gS2 J c pa (rm lv (sel lv (fun i => J 0 (gE2 J c pa (rm lv i))) o))))))
    (fun z => ∃ T, z = f_X12_game_B113 T ∧ gK1 S T ∧ T.1 23 0 = sI (sel lv (fun i => J 0 (gE2 J c pa (rm lv i))) c) ∧ T.1 23 1 = sI (gS2 J c pa (rm lv (sel lv (fun i => J 0 (gE2 J c pa (rm lv i))) c))) ∧ T.1 23 2 = sI (gT J c pa (rm (rm lv (sel lv (fun i => J 0 (gE2 J c pa (rm lv i))) c)) (gS2 J c pa (rm lv (sel lv (fun i => J 0 (gE2 J c pa (rm lv i))) c)))))) (c := c) ?_ ?_ c 0 q0 (_, T1) (by omega) (by omega) ⟨rfl, k1, u0, u1, u2⟩
  · rintro q ⟨x, V⟩ o ho ⟨hx, kV, w0, w1, w2⟩
    dsimp only at hx kV w0 w1 w2 ⊢
    obtain ⟨v1, v2⟩ := h19 V kV
    rw [sel_s]
    cases hok : lv o with
    | true =>
      obtain ⟨T, eT, kT, x65, x66, x27⟩ := try_ V (o + 1) kV (by omega) (Or.inr ⟨o, ho, rfl, hok⟩)
      have kST : gK1 S T := gK1_trans kV (gK1_trans (gK1_put (by decide)) (gK1_0 kT))
      have T23 : T.1 23 = V.1 23 := by rw [kT.2.1 23 (by decide), zput1_ne _ _ _ _ _ (by decide)]
      have estart : f_X12_game_L13 (q + 1) x 1 (nI o) V = if x < J 0 (gE2 J c pa (rm lv (o + 1))) then f_X12_game_B71 (f_X12_game_L13 q) (sI (o + 1)) T else f_X12_game_L13 q x 1 (nI (o + 1)) T := by
        rw [f_X12_game_L13, show Int32.toNatClampNeg 96 = 96 from rfl, v1, v2, if_pos (nI_lt ho (by omega)), if_pos hpos, hpm V o kV ho, zb_def, z01, if_pos hok, zlet_def, show Int32.toNatClampNeg 0 = 0 from rfl, show f_X12_laySecond (zput V 26 0 (nI o)) = some T from eT, zu_def, if_neg (by decide), x27, zlet_def, nI_1]
        rfl
      by_cases hlt : J 0 (gE2 J c pa (rm lv (sel lv (fun i => J 0 (gE2 J c pa (rm lv i))) o))) < J 0 (gE2 J c pa (rm lv (o + 1)))
      · obtain ⟨T2, e2, k2, y0, y1, y2⟩ := take_ q T (o + 1) kST x65 x66 x27
        rw [hx, if_pos hlt, e2] at estart
        refine ⟨(_, T2), by rw [hx]; exact estart, ?_, k2, ?_, ?_, ?_⟩
        · dsimp only; rw [if_pos ⟨rfl, hlt⟩]
        · dsimp only; rw [if_pos ⟨rfl, hlt⟩]; exact y0
        · dsimp only; rw [if_pos ⟨rfl, hlt⟩]; exact y1
        · dsimp only; rw [if_pos ⟨rfl, hlt⟩]; exact y2
      · rw [hx, if_neg hlt] at estart
        refine ⟨(x, T), by dsimp only; rw [hx]; exact estart, ?_, kST, ?_, ?_, ?_⟩
        · dsimp only; rw [if_neg (fun z => hlt z.2)]; exact hx
        · dsimp only; rw [if_neg (fun z => hlt z.2), T23]; exact w0
        · dsimp only; rw [if_neg (fun z => hlt z.2), T23]; exact w1
        · dsimp only; rw [if_neg (fun z => hlt z.2), T23]; exact w2
    | false =>
      have hf : ¬ (false = true ∧ J 0 (gE2 J c pa (rm lv (sel lv (fun i => J 0 (gE2 J c pa (rm lv i))) o))) < J 0 (gE2 J c pa (rm lv (o + 1)))) := fun z => absurd z.1 (by decide)
      refine ⟨(x, V), ?_, ?_, kV, ?_, ?_, ?_⟩
      · dsimp only
        rw [f_X12_game_L13, show Int32.toNatClampNeg 96 = 96 from rfl, v1, v2, if_pos (nI_lt ho (by omega)), if_pos hpos, hpm V o kV ho, zb_def, z01, if_neg (by rw [hok]; decide), zlet_def, nI_1]
      · dsimp only; rw [if_neg hf]; exact hx
      · dsimp only; rw [if_neg hf]; exact w0
      · dsimp only; rw [if_neg hf]; exact w1
      · dsimp only; rw [if_neg hf]; exact w2
  · rintro q ⟨x, V⟩ ⟨hx, kV, w0, w1, w2⟩
    dsimp only at hx kV w0 w1 w2 ⊢
    obtain ⟨v1, v2⟩ := h19 V kV
    refine ⟨V, ?_, kV, w0, w1, w2⟩
    rw [f_X12_game_L13, show Int32.toNatClampNeg 96 = 96 from rfl, v1, if_neg (nI_nlt (Nat.le_refl _) (by omega))]
theorem op_game : zSt0 zRel f_X11_game f_X12_game := by
  intro Sx0 Sm0 h0
  show zSame _ _
  unfold f_X11_game f_X12_game
  rw [zlet_def, zlet_def]
  have h := lain0 h0
  have e15 : (zput Sx0 0 15 0).1 0 15 = 0 := by rw [zput1_eq, upd_at]
  generalize zput Sx0 0 15 0 = Sx at h e15 ⊢
  generalize zput Sm0 0 60 0 = Sm at h ⊢
  obtain ⟨st, pl, tp, pa, c, hH, hA, hI, hN, hB, hg, hO, ho⟩ := rel_all h
  have hc := hN.1
  obtain ⟨-, hst, hpl, htp, hpa, p1, p2, -, -, p5, p6, p7, p8, -, -, -, -, -, -, hw⟩ := id hH
  have hC : gC st pl tp pa c Sx Sm := ⟨hst, htp, hpa, p5, p7, hN, hB, hO, ho, hw⟩
  have hK : gK st tp pa c Sm Sm := ⟨⟨hst, htp, hpa, hc, p2, p6, p8, hN.2.1⟩, rfl, rfl, rfl⟩
  have hlive := (stdNowX hN hB hg.1 (fun b hb => (hg.2.2.2 b hb).1)).2
  have hL : gB (Sm.1 19) c (liv (Sm.1 19)) (mkS (liv (Sm.1 19)) c) := ⟨fun i hi => bt_mkS _ hi c (by omega), fun _ h => h⟩
  generalize eJ : gJ (Sm.1 19) st c tp (Sm.1 15) (Sm.1 14) = J
  obtain ⟨T1, e1, k1⟩ := turn0 (d := 1) eJ.symm hC hL (kp_rfl [64] Sx)
  rw [hlive, zb_def]
  unfold f_X10_best_63_5
  rw [show f_X10_bestFrom_63_5 5 0 (mkS (liv (Sm.1 19)) c) Sx = _ from e1, zb_def, zb_def]
  have g0 := gS1_le J (c := c) (pa := pa) (liv (Sm.1 19))
  have g1 := gS2_le J (c := c) (pa := pa) (rm (liv (Sm.1 19)) (gS1 J c pa (liv (Sm.1 19))))
  have g2 := gT_le J (c := c) (pa := pa) (rm (rm (liv (Sm.1 19)) (gS1 J c pa (liv (Sm.1 19)))) (gS2 J c pa (rm (liv (Sm.1 19)) (gS1 J c pa (liv (Sm.1 19))))))
  obtain ⟨T2, e2, k2, t0, t15, t66⟩ := gameLay (S := T1) (pa := pa) hpa (show gS1 J c pa (liv (Sm.1 19)) < 13 by omega) (show gS2 J c pa (rm (liv (Sm.1 19)) (gS1 J c pa (liv (Sm.1 19)))) < 13 by omega) (show gT J c pa (rm (rm (liv (Sm.1 19)) (gS1 J c pa (liv (Sm.1 19)))) (gS2 J c pa (rm (liv (Sm.1 19)) (gS1 J c pa (liv (Sm.1 19)))))) < 13 by omega) (by rw [k1.2 5 (by decide)]; exact p7) (by rw [k1.2 0 (by decide)]; exact e15)
  rw [e2]
  have hkX : kp [0, 66, 11, 12, 40, 41, 42, 52, 53, 54, 55, 56, 57, 58, 59, 60, 61, 62, 63, 64, 65] Sx T2 := kp_trans (kp_in k1 (by decide)) (kp_in k2 (by decide))
  have hx0 : ∀ i, i ≠ 15 → T2.1 0 i = Sx.1 0 i := fun i hi => by rw [t0 i hi, k1.2 0 (by decide)]
  by_cases hp1 : 1 ≤ pa
  · obtain ⟨U, eU, kU, u0, u1, u2⟩ := firstT eJ.symm hK (fun b hb => (hN.2.2.2.2 b hb).1) hp1 (-100000)
    have hU45 : U.1 0 45 = nI pa := (gK_1 hK kU).1.2.2.2.2.2.2.1
    rw [eU]
    unfold f_X12_game_B113
    rw [zlet_def, hU45]
    have h23 : ∀ k, k < pa → (zput U 0 60 (nI pa)).1 23 k = sI (dg3 (gS1 J c pa (liv (Sm.1 19))) (gS2 J c pa (rm (liv (Sm.1 19)) (gS1 J c pa (liv (Sm.1 19))))) (gT J c pa (rm (rm (liv (Sm.1 19)) (gS1 J c pa (liv (Sm.1 19)))) (gS2 J c pa (rm (liv (Sm.1 19)) (gS1 J c pa (liv (Sm.1 19))))))) k) := fun k hk => by
      rw [zput1_ne _ _ _ _ _ (by decide)]
      have : k = 0 ∨ k = 1 ∨ k = 2 := by omega
      rcases this with rfl | rfl | rfl
      · exact u0
      · exact u1
      · exact u2
    rw [countM hpa (by omega) (by omega) (by omega) (by rw [zput1_eq, upd_ne _ _ _ _ (by decide)]; exact hU45) h23]
    refine zsame (zRel_lie h hkX hx0 ⟨kU.1, fun k hk => ?_⟩ (fun i h60 h65 h66 => ?_) ?_)
    · rw [zput1_ne _ _ _ _ _ (fun z => hk (by rw [z]; decide)), kU.2.1 k (fun z => hk (by
        simp only [List.mem_cons, List.not_mem_nil, or_false] at z ⊢
        omega))]
    · rw [zput1_eq, upd_ne _ _ _ _ h60, kU.2.2 i h60 h65 h66]
    · refine ⟨pa, hpa, t15, by rw [zput1_eq, upd_at], fun k hk => ?_⟩
      rw [t66 k hk, h23 k hk]
  · have : pa = 0 := by omega
    subst this
    have hq : f_X12_game_L13 zN (-100000) 0 (-1) Sm = some (nI 0, zput Sm 0 60 0) := by
      obtain ⟨q0, hq0⟩ : ∃ q0, zN = q0 + 1 := ⟨9999, rfl⟩
      have hB : f_X12_game_B113 Sm = some (nI 0, zput Sm 0 60 0) := by
        unfold f_X12_game_B113
        rw [zlet_def, p8, hq0, f_X12_game_L126, show (zput Sm 0 60 (nI 0)).1 0 45 = nI 0 by rw [zput1_eq, upd_ne _ _ _ _ (by decide)]; exact p8, if_neg (by decide)]
        rfl
      rw [hq0, f_X12_game_L13, p8, if_neg (show ¬ (0 : Int32) < nI 0 by decide), hB]
      split <;> rfl
    rw [hq]
    refine zsame' (zRel_lie h hkX hx0 (kp_put (by decide)) (fun i h60 _ _ => by rw [zput1_eq, upd_ne _ _ _ _ h60]) ⟨0, by omega, t15, by rw [zput1_eq, upd_at]; rfl, fun i hi => absurd hi (by omega)⟩) rfl
