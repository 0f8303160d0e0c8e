/-! ===== game: the class's three turns; the reference's end ===== -/
theorem bF_ge {pa k d : Nat} {L : Int32} {S : zS} (hk : k ≤ 3) (h : pa ≤ k) (e : S.1 5 3 = nI pa) : f_X10_bestFrom_63_5 (d + 1) (nI k) L S = some (0, S) := by
  show fb_X10_bestFrom_63_5 (f_X10_bestFrom_63_5 d) (nI k) L S = _
  unfold fb_X10_bestFrom_63_5
  rw [if_neg (nI_not_neg (by omega)), e, if_neg (nI_nlt h (by omega))]
theorem bF_lt {pa k d : Nat} {L : Int32} {S : zS} (hk : k < 3) (h : k < pa) (hp : pa ≤ 3) (e : S.1 5 3 = nI pa) : f_X10_bestFrom_63_5 (d + 1) (nI k) L S = f_X10_bestFrom_63_5_L28 (f_X10_bestFrom_63_5 d) zN (nI k) L 0 0 (-1) S := by
  show fb_X10_bestFrom_63_5 (f_X10_bestFrom_63_5 d) (nI k) L S = _
  unfold fb_X10_bestFrom_63_5
  rw [if_neg (nI_not_neg (by omega)), e, if_pos (nI_lt h (by omega)), if_pos (show nI k < 3 from nI_lt (b := 3) hk (by omega))]
theorem jA_eq (p : Nat) (L x : Int32) (S : zS) : f_X10_joyAfter_63_5 (nI p) L x S = f_X10_joyAfter_63_5_L8 zN (nI p) x L (nI (p + 1)) S := by
  unfold f_X10_joyAfter_63_5
  rw [zlet_def, nI_1]
theorem turn2 {st pl tp pa c d : Nat} {Sx Sm S : zS} {lv : Nat → Bool} {L : Int32} (hC : gC st pl tp pa c Sx Sm) (hL : gB (Sm.1 19) c lv L) (hk : kp [64] Sx S) : ∃ S', f_X10_bestFrom_63_5 (d + 2) (nI 2) L S = some (pkI 0 0 (gT (gJ (Sm.1 19) st c tp (Sm.1 15) (Sm.1 14)) c pa lv), S') ∧ kp [64] S S' := by
  obtain ⟨hst, htp, hpa, p5, p6, hN, hB, hO, ho, hH⟩ := id hC
  have hc := hN.1
  by_cases h3 : pa = 3
  · rw [bF_lt (by omega) (by omega) hpa (by rw [hk.2 5 (by decide)]; exact p6)]
    obtain ⟨S', e, k'⟩ := gStep (pa := pa) (N := Sm.1 19) (p := 2) (F := f_X10_bestFrom_63_5 (d + 1)) (J := gJ (Sm.1 19) st c tp (Sm.1 15) (Sm.1 14) 2) (pkv := fun _ => 0) (Ef := fun lv => lv) hc (by omega) (fun lv L S _ hk => ⟨S, bF_ge (pa := pa) (by omega) (by omega) (by rw [hk.2 5 (by decide)]; exact p6), kp_rfl _ _⟩) (fun lv L S hL hk => by
      obtain ⟨S', e, k'⟩ := jAft (p := 2) (a := 0) (b := 0) (d := 0) hC (by omega) (by omega) (by omega) (by omega) 0 3 zN S lv L rfl (by decide) hL hk
      exact ⟨S', (jA_eq _ _ _ _).trans e, k'⟩) hL hk
    refine ⟨S', ?_, k'⟩
    rw [e, pk_or2 _ (by have := sel_le lv (fun i => gJ (Sm.1 19) st c tp (Sm.1 15) (Sm.1 14) 2 (rm lv i)) c; omega)]
    unfold gT
    rw [if_pos h3]
  · rw [bF_ge (pa := pa) (by omega) (by omega) (by rw [hk.2 5 (by decide)]; exact p6)]
    unfold gT
    rw [if_neg h3]
    exact ⟨S, rfl, kp_rfl _ _⟩
theorem turn1 {st pl tp pa c d : Nat} {Sx Sm S : zS} {lv : Nat → Bool} {L : Int32} (hC : gC st pl tp pa c Sx Sm) (hL : gB (Sm.1 19) c lv L) (hk : kp [64] Sx S) : ∃ S', f_X10_bestFrom_63_5 (d + 3) (nI 1) L S = some (pkI 0 (gS2 (gJ (Sm.1 19) st c tp (Sm.1 15) (Sm.1 14)) c pa lv) (gT (gJ (Sm.1 19) st c tp (Sm.1 15) (Sm.1 14)) c pa (rm lv (gS2 (gJ (Sm.1 19) st c tp (Sm.1 15) (Sm.1 14)) c pa lv))), S') ∧ kp [64] S S' := by
  obtain ⟨hst, htp, hpa, p5, p6, hN, hB, hO, ho, hH⟩ := id hC
  have hc := hN.1
  by_cases h2 : 2 ≤ pa
  · rw [bF_lt (by omega) (by omega) hpa (by rw [hk.2 5 (by decide)]; exact p6)]
    obtain ⟨S', e, k'⟩ := gStep (pa := pa) (N := Sm.1 19) (p := 1) (F := f_X10_bestFrom_63_5 (d + 2)) (J := gJ (Sm.1 19) st c tp (Sm.1 15) (Sm.1 14) 1) (pkv := fun lv => pkI 0 0 (gT (gJ (Sm.1 19) st c tp (Sm.1 15) (Sm.1 14)) c pa lv)) (Ef := gE3 (gJ (Sm.1 19) st c tp (Sm.1 15) (Sm.1 14)) c pa) hc (by omega) (fun lv L S hL hk => turn2 hC hL hk) (fun lv L S hL hk => by
      have := gT_le (gJ (Sm.1 19) st c tp (Sm.1 15) (Sm.1 14)) (c := c) (pa := pa) lv
      obtain ⟨S', e, k'⟩ := jAft (p := 1) (a := 0) (b := 0) (d := gT (gJ (Sm.1 19) st c tp (Sm.1 15) (Sm.1 14)) c pa lv) hC (by omega) (by omega) (by omega) (by omega) 1 2 zN S lv L rfl (by decide) hL hk
      exact ⟨S', (jA_eq _ _ _ _).trans e, k'⟩) hL hk
    refine ⟨S', ?_, k'⟩
    have h1 : sel lv (fun i => gJ (Sm.1 19) st c tp (Sm.1 15) (Sm.1 14) 1 (gE3 (gJ (Sm.1 19) st c tp (Sm.1 15) (Sm.1 14)) c pa (rm lv i))) c = gS2 (gJ (Sm.1 19) st c tp (Sm.1 15) (Sm.1 14)) c pa lv := by unfold gS2; rw [if_pos h2]
    rw [e, h1, pk_or1 _ (by have := gT_le (gJ (Sm.1 19) st c tp (Sm.1 15) (Sm.1 14)) (c := c) (pa := pa) (rm lv (gS2 (gJ (Sm.1 19) st c tp (Sm.1 15) (Sm.1 14)) c pa lv)); omega) _ (by have := gS2_le (gJ (Sm.1 19) st c tp (Sm.1 15) (Sm.1 14)) (c := c) (pa := pa) lv; omega)]
  · rw [bF_ge (pa := pa) (by omega) (by omega) (by rw [hk.2 5 (by decide)]; exact p6)]
    unfold gS2 gT
    rw [if_neg h2, if_neg (by omega)]
    exact ⟨S, rfl, kp_rfl _ _⟩
theorem turn0 {st pl tp pa c d : Nat} {Sx Sm S : zS} {lv : Nat → Bool} {L : Int32} {J : Nat → (Nat → Bool) → Int32} (eJ : J = gJ (Sm.1 19) st c tp (Sm.1 15) (Sm.1 14)) (hC : gC st pl tp pa c Sx Sm) (hL : gB (Sm.1 19) c lv L) (hk : kp [64] Sx S) : ∃ S', f_X10_bestFrom_63_5 (d + 4) (nI 0) L S = some (pkI (gS1 J c pa lv) (gS2 J c pa (rm lv (gS1 J c pa lv))) (gT J c pa (rm (rm lv (gS1 J c pa lv)) (gS2 J c pa (rm lv (gS1 J c pa lv))))), S') ∧ kp [64] S S' := by
  obtain ⟨hst, htp, hpa, p5, p6, hN, hB, hO, ho, hH⟩ := id hC
  have hc := hN.1
  subst eJ
  by_cases h1 : 1 ≤ pa
  · rw [bF_lt (by omega) (by omega) hpa (by rw [hk.2 5 (by decide)]; exact p6)]
    obtain ⟨S', e, k'⟩ := gStep (pa := pa) (N := Sm.1 19) (p := 0) (F := f_X10_bestFrom_63_5 (d + 3)) (J := gJ (Sm.1 19) st c tp (Sm.1 15) (Sm.1 14) 0) (pkv := fun lv => pkI 0 (gS2 (gJ (Sm.1 19) st c tp (Sm.1 15) (Sm.1 14)) c pa lv) (gT (gJ (Sm.1 19) st c tp (Sm.1 15) (Sm.1 14)) c pa (rm lv (gS2 (gJ (Sm.1 19) st c tp (Sm.1 15) (Sm.1 14)) c pa lv)))) (Ef := gE2 (gJ (Sm.1 19) st c tp (Sm.1 15) (Sm.1 14)) c pa) hc (by omega) (fun lv L S hL hk => turn1 hC hL hk) (fun lv L S hL hk => by
      have g1 := gT_le (gJ (Sm.1 19) st c tp (Sm.1 15) (Sm.1 14)) (c := c) (pa := pa) (rm lv (gS2 (gJ (Sm.1 19) st c tp (Sm.1 15) (Sm.1 14)) c pa lv))
      have g2 := gS2_le (gJ (Sm.1 19) st c tp (Sm.1 15) (Sm.1 14)) (c := c) (pa := pa) lv
      obtain ⟨S', e, k'⟩ := jAft (p := 0) (a := 0) (b := gS2 (gJ (Sm.1 19) st c tp (Sm.1 15) (Sm.1 14)) c pa lv) (d := gT (gJ (Sm.1 19) st c tp (Sm.1 15) (Sm.1 14)) c pa (rm lv (gS2 (gJ (Sm.1 19) st c tp (Sm.1 15) (Sm.1 14)) c pa lv))) hC (by omega) (by omega) (by omega) (by omega) 2 1 zN S lv L rfl (by decide) hL hk
      exact ⟨S', (jA_eq _ _ _ _).trans e, k'⟩) hL hk
    refine ⟨S', ?_, k'⟩
    have h2 : sel lv (fun i => gJ (Sm.1 19) st c tp (Sm.1 15) (Sm.1 14) 0 (gE2 (gJ (Sm.1 19) st c tp (Sm.1 15) (Sm.1 14)) c pa (rm lv i))) c = gS1 (gJ (Sm.1 19) st c tp (Sm.1 15) (Sm.1 14)) c pa lv := by unfold gS1; rw [if_pos h1]
    have g0 := gS1_le (gJ (Sm.1 19) st c tp (Sm.1 15) (Sm.1 14)) (c := c) (pa := pa) lv
    rw [e, h2]
    generalize gJ (Sm.1 19) st c tp (Sm.1 15) (Sm.1 14) = J at g0 ⊢
    have g2 := gS2_le J (c := c) (pa := pa) (rm lv (gS1 J c pa lv))
    have g3 := gT_le J (c := c) (pa := pa) (rm (rm lv (gS1 J c pa lv)) (gS2 J c pa (rm lv (gS1 J c pa lv))))
    rw [pk_or0 _ (by omega) _ (by omega) _ (by omega)]
  · rw [bF_ge (pa := pa) (by omega) (by omega) (by rw [hk.2 5 (by decide)]; exact p6)]
    unfold gS1 gS2 gT
    rw [if_neg h1, if_neg (by omega), if_neg (by omega)]
    exact ⟨S, rfl, kp_rfl _ _⟩
def cnD (a b d : Nat) (m : Nat) : Nat := sumN (fun k => if dg3 a b d k = 0 then 0 else 1) m
theorem gameLay {a b d pa : Nat} {S : zS} (hpa : pa ≤ 3) (ha : a < 13) (hb : b < 13) (hd : d < 13) (e5 : S.1 5 3 = nI pa) (e : S.1 0 15 = 0) : ∃ T, f_X11_game_L28 zN (pkI a b d) 0 0 S = some (nI (cnD a b d pa), T) ∧ kp [0, 66] S T ∧ (∀ i, i ≠ 15 → T.1 0 i = S.1 0 i) ∧ T.1 0 15 = nI pa ∧ ∀ k, k < pa → T.1 66 k = sI (dg3 a b d k) := by
  refine loopI (f := fun q (z : Int32 × zS) k => f_X11_game_L28 q (pkI a b d) z.1 (nI k) z.2) (fun k z => z.1 = nI (cnD a b d k) ∧ kp [0, 66] S z.2 ∧ (∀ i, i ≠ 15 → z.2.1 0 i = S.1 0 i) ∧ z.2.1 0 15 = nI k ∧ ∀ j, j < k → z.2.1 66 j = sI (dg3 a b d j)) (fun o => ∃ T, o = some (nI (cnD a b d pa), T) ∧ kp [0, 66] S T ∧ (∀ i, i ≠ 15 → T.1 0 i = S.1 0 i) ∧ T.1 0 15 = nI pa ∧ ∀ k, k < pa → T.1 66 k = sI (dg3 a b d k)) (c := pa) ?_ ?_ pa 0 zN (0, S) (by omega) (by show pa < 10000; omega) ⟨rfl, kp_rfl _ _, fun _ _ => rfl, e, fun j hj => absurd hj (by omega)⟩
  · rintro q ⟨x, V⟩ k hk ⟨hx, kV, h0, h15, h66⟩
    dsimp only at hx kV h0 h15 h66 ⊢
    have hdg : dg3 a b d k < 13 := by unfold dg3; split; exact ha; split; exact hb; exact hd
    refine ⟨(nI (cnD a b d (k + 1)), zput (zput V 66 k (sI (dg3 a b d k))) 0 15 (nI (k + 1))), ?_, rfl, kp_trans kV (kp_trans (kp_put (by decide)) (kp_put (by decide))), fun i hi => ?_, ?_, fun j hj => ?_⟩
    · dsimp only
      rw [f_X11_game_L28, kV.2 5 (by decide), e5, if_pos (nI_lt hk (by omega)), pickX ha hb hd (by omega), zb_def, downX (by omega) h15, zu_def, hx]
      have hcn : cnD a b d (k + 1) = cnD a b d k + (if dg3 a b d k = 0 then 0 else 1) := rfl
      rw [hcn]
      generalize dg3 a b d k = y at hdg ⊢
      cases y with
      | zero =>
        rw [if_pos (show sI 0 = -1 from rfl), zlet_def, zlet_def, nI_1, if_pos rfl]
        show f_X11_game_L28 q (pkI a b d) (nI (cnD a b d k) + nI 0) _ _ = _
        rw [nI_add]
      | succ y => rw [if_neg (show ¬ sI (y + 1) = -1 from nI_neg1 (by omega)), zlet_def, zlet_def, nI_1, nI_1, if_neg (by omega)]
    · dsimp only
      rw [zput1_eq, upd_ne _ _ _ _ hi, zput1_ne _ _ _ _ _ (by decide)]
      exact h0 i hi
    · dsimp only
      rw [zput1_eq, upd_at]
    · dsimp only
      rw [zput1_ne _ _ _ _ _ (by decide), zput1_eq]
      by_cases hjk : j = k
      · subst hjk
        rw [upd_at]
      · rw [upd_ne _ _ _ _ hjk]
        exact h66 j (by omega)
  · rintro q ⟨x, V⟩ ⟨hx, kV, h0, h15, h66⟩
    dsimp only at hx kV h0 h15 h66 ⊢
    refine ⟨V, ?_, kV, h0, h15, h66⟩
    rw [f_X11_game_L28, kV.2 5 (by decide), e5, if_neg (nI_nlt (Nat.le_refl _) (by omega)), hx]
/-! the reference: what stands at the end -/
def gM (st tp pa c : Nat) (Sm : zS) : Prop := st ≤ 12 ∧ tp ≤ 4 ∧ pa ≤ 3 ∧ c ≤ 12 ∧ Sm.1 0 42 = nI st ∧ Sm.1 0 44 = nI tp ∧ Sm.1 0 45 = nI pa ∧ Sm.1 19 96 = nI c
/-- who lives behind the first p pulls -/
def lk (N : Nat → Int32) (d : Nat → Nat) : Nat → Nat → Bool
  | 0 => liv N
  | p + 1 => rm (lk N d p) (d p)
def vld (N : Nat → Int32) (d : Nat → Nat) (c p : Nat) : Prop := d p = 0 ∨ ∃ b, b < c ∧ d p = b + 1 ∧ lk N d p b = true
theorem lk_liv (N : Nat → Int32) (d : Nat → Nat) : ∀ p b, lk N d p b = true → liv N b = true
  | 0, _, h => h
  | p + 1, b, h => by
    refine lk_liv N d p b ?_
    have h' : (lk N d p b && !decide (d p = b + 1)) = true := h
    simp only [Bool.and_eq_true] at h'
    exact h'.1
theorem stA_liv (N : Nat → Int32) {c : Nat} (hc : c ≤ 12) (hN : ∀ b, b < c → isI 0 99 (N (8 * b))) {b : Nat} (hb : b < c) : stA N (liv N) (8 * b) = N (8 * b) := by
  rw [stA_8 _ _ (by omega)]
  by_cases h : liv N b = false
  · rw [if_pos h]
    obtain ⟨v, h1, h2, h3⟩ := hN b hb
    unfold liv at h
    rw [h3] at h ⊢
    simp only [decide_eq_false_iff_not, Int32.lt_iff_toInt_lt, Int32.toInt_ofInt_of_le (show -2147483648 ≤ v by omega) (show v < 2147483648 by omega), i0] at h
    rw [show v = 0 by omega]
    rfl
  · rw [if_neg h]
/-- the air holds the state in which those of lv live, as far as bills reach -/
def gA (N : Nat → Int32) (c : Nat) (lv : Nat → Bool) (A : Nat → Int32) : Prop := ∀ i, i < 8 * c ∨ 96 ≤ i ∧ i < 99 → A i = stA N lv i
theorem gA_kill {N A : Nat → Int32} {c b : Nat} {lv : Nat → Bool} (hc : c ≤ 12) (hb : b < c) (h : gA N c lv A) : gA N c (rm lv (b + 1)) (upd A (8 * b) 0) := by
  intro i hi
  by_cases hib : i = 8 * b
  · subst hib
    rw [upd_at, stA_8 _ _ (by omega), if_pos]
    unfold rm
    simp
  · rw [upd_ne _ _ _ _ hib, h i hi]
    unfold stA
    by_cases h8 : i % 8 = 0 ∧ i < 96
    · have : rm lv (b + 1) (i / 8) = lv (i / 8) := by
        unfold rm
        have : ¬ b + 1 = i / 8 + 1 := by omega
        simp only [this, decide_false, Bool.not_false, Bool.and_true]
      rw [this]
    · rw [if_neg (fun z => h8 ⟨z.1, z.2.1⟩), if_neg (fun z => h8 ⟨z.1, z.2.1⟩)]
theorem gA_joy {N A : Nat → Int32} {c st tp p : Nat} {lv : Nat → Bool} {by_ want : Nat → Int32} (hc : c ≤ 12) (h : gA N c lv A) : joyN A st c tp by_ want p = gJ N st c tp by_ want p lv := by
  have e : ∀ b j, b < c → j < 8 → A (8 * b + j) = stA N lv (8 * b + j) := fun b j hb hj => h _ (by omega)
  have hl : ∀ b, b < c → liv A b = liv (stA N lv) b := fun b hb => by unfold liv; rw [h (8 * b) (by omega)]
  have hs : stdN A c = stdN (stA N lv) c := stdS_congr hl (fun b hb => e b 6 hb (by omega)) (fun b hb => e b 7 hb (by omega))
  unfold gJ joyN
  rw [hs]
  refine foldN_congr tp 0 0 fun acc t _ _ => ?_
  have : lwN A st c (stdN (stA N lv) c) (nI t) = lwN (stA N lv) st c (stdN (stA N lv) c) (nI t) := rdN_congr (fun b hb => e b 2 hb (by omega)) (fun acc b hb => by
    unfold lwF
    dsimp only
    simp only [e b 4 hb (by omega), e b 5 hb (by omega), e b 6 hb (by omega)]) 0
  rw [this]
theorem endL {st tp pa c : Nat} {N : Nat → Int32} {S : zS} {lv : Nat → Bool} (hM : gM st tp pa c S) (ha : gA N c lv (S.1 20)) (h96 : N 96 = nI c) : ∃ T, f_X12_layEnd_L79 zN 1 0 S = some (1, T) ∧ kp [24] S T ∧ ∀ p, p < pa → T.1 24 p = gJ N st c tp (S.1 15) (S.1 14) p lv := by
  obtain ⟨hst, htp, hpa, hc, m1, m2, m3, m4⟩ := hM
  refine loopI (f := fun q (V : zS) p => f_X12_layEnd_L79 q 1 (nI p) V) (fun k V => kp [24] S V ∧ ∀ p, p < k → V.1 24 p = gJ N st c tp (S.1 15) (S.1 14) p lv) (fun o => ∃ T, o = some (1, T) ∧ kp [24] S T ∧ ∀ p, p < pa → T.1 24 p = gJ N st c tp (S.1 15) (S.1 14) p lv) (c := pa) ?_ ?_ pa 0 zN S (by omega) (by show pa < 10000; omega) ⟨kp_rfl _ _, fun j hj => absurd hj (by omega)⟩
  · rintro q V k hk ⟨kV, hV⟩
    have e96 : V.1 20 96 = nI c := by rw [kV.2 20 (by decide), ha 96 (by omega), stA_o _ _ (by omega)]; exact h96
    refine ⟨zput V 24 k (gJ N st c tp (S.1 15) (S.1 14) k lv), ?_, kp_trans kV (kp_put (by decide)), fun p hp => ?_⟩
    · rw [f_X12_layEnd_L79, kV.2 0 (by decide), m3, if_pos (nI_lt hk (by omega)), if_neg (by decide), joyM hst (by rw [kV.2 0 (by decide)]; exact m1) htp (by rw [kV.2 0 (by decide)]; exact m2) hc e96 (by omega), zb_def, if_pos (zinN (by omega) (by omega)), zlet_def, zlet_def, nI_1, nI_clamp (by omega), kV.2 20 (by decide), kV.2 14 (by decide), kV.2 15 (by decide), gA_joy hc ha]
    · rw [zput1_eq]
      by_cases hpk : p = k
      · subst hpk; rw [upd_at]
      · rw [upd_ne _ _ _ _ hpk]; exact hV p (by omega)
  · rintro q V ⟨kV, hV⟩
    refine ⟨V, ?_, kV, hV⟩
    rw [f_X12_layEnd_L79, kV.2 0 (by decide), m3, if_neg (nI_nlt (Nat.le_refl _) (by omega)), if_pos (Or.inr rfl)]
theorem endN {pa : Nat} {S : zS} (hpa : pa ≤ 3) (h1 : 1 ≤ pa) (m3 : S.1 0 45 = nI pa) : f_X12_layEnd_L79 zN 0 0 S = some (0, S) := by
  obtain ⟨q, hq⟩ : ∃ q, zN = q + 1 := ⟨9999, rfl⟩
  rw [hq, f_X12_layEnd_L79, m3, if_pos (show (0 : Int32) < nI pa from nI_lt (a := 0) (by omega) (by omega)), if_pos rfl, if_pos (Or.inl rfl)]
/-- the pulls of the first m parties are done -/
theorem endP {st tp pa c : Nat} {S : zS} {d : Nat → Nat} (hM : gM st tp pa c S) (hN : ∀ b, b < c → isI 0 99 (S.1 19 (8 * b))) (h26 : ∀ p, p < pa → S.1 26 p = sI (d p)) : ∀ (m : Nat), m ≤ pa → (∀ p, p < m → vld (S.1 19) d c p) → ∃ V q, f_X12_layEnd S = f_X12_layEnd_L8 q 1 (nI m) V ∧ q + m = zN ∧ kp [20] S V ∧ gA (S.1 19) c (lk (S.1 19) d m) (V.1 20) := by
  obtain ⟨hst, htp, hpa, hc, m1, m2, m3, m4⟩ := hM
  intro m
  induction m with
  | zero =>
    intro _ _
    refine ⟨zld S 0, zN, ?_, rfl, kp_zld S, fun i hi => ?_⟩
    · unfold f_X12_layEnd
      rw [loadM, zu_def]
      rfl
    · rw [zld_at S (by omega)]
      show _ = stA (S.1 19) (liv (S.1 19)) i
      by_cases h8 : i % 8 = 0 ∧ i < 96
      · have : i = 8 * (i / 8) := by omega
        rw [this, stA_liv _ hc hN (by omega)]
      · rw [stA_o _ _ (by omega)]
  | succ m ih =>
    intro hm hv
    obtain ⟨V, q, e, hq, kV, aV⟩ := ih (by omega) (fun p hp => hv p (by omega))
    have hzN : zN = 10000 := rfl
    obtain ⟨q, rfl⟩ : ∃ k, q = k + 1 := ⟨q - 1, by omega⟩
    have h45 : V.1 0 45 = nI pa := by rw [kV.2 0 (by decide)]; exact m3
    have h26' : V.1 26 (nI m).toNatClampNeg = sI (d m) := by rw [nI_clamp (by omega), kV.2 26 (by decide)]; exact h26 m (by omega)
    have hz : zin (nI m) 3 := zinN (by omega) (by omega)
    have hpos : q + (m + 1) = zN := by omega
    rcases hv m (by omega) with h0 | ⟨b, hb, h1, h2⟩
    · refine ⟨V, q, ?_, hpos, kV, ?_⟩
      · rw [e, f_X12_layEnd_L8, h45, if_pos (nI_lt (by omega) (by omega)), if_neg (by decide), if_pos hz]
        simp only [h26', h0]
        rw [if_pos (by decide)]
        unfold f_X12_layEnd_B47
        rw [if_neg (by decide), if_pos hz]
        simp only [h26', h0]
        rw [if_pos (by decide), zlet_def, nI_1]
      · show gA _ c (rm (lk (S.1 19) d m) (d m)) _
        rw [h0, rm_0]; exact aV
    · have hlive : liv (V.1 20) b = true := by
        have : liv (V.1 20) b = liv (stA (S.1 19) (lk (S.1 19) d m)) b := by unfold liv; rw [aV (8 * b) (by omega)]
        rw [this, liv_stA _ _ (by omega), h2, lk_liv _ d m b h2]
        rfl
      refine ⟨zput V 20 (8 * b) 0, q, ?_, hpos, kp_trans kV (kp_put (by decide)), ?_⟩
      · rw [e, f_X12_layEnd_L8, h45, if_pos (nI_lt (by omega) (by omega)), if_neg (by decide), if_pos hz]
        simp only [h26', h1, sI]
        rw [if_neg (nI_not_neg (by omega)), if_pos hz, livesM (by omega), zb_def, if_pos hlive, if_neg (by decide)]
        unfold f_X12_layEnd_B47
        rw [if_neg (by decide), if_pos hz]
        simp only [h26', h1, sI]
        rw [if_neg (nI_not_neg (by omega)), if_pos hz, killM (by omega), zu_def, zlet_def, nI_1]
      · show gA _ c (rm (lk (S.1 19) d m) (d m)) _
        rw [h1, zput1_eq]
        exact gA_kill hc hb aV
