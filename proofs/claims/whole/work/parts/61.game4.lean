/-! ===== game: the second and the first turn; the pair ===== -/
/-- as gK, where the second's picks are kept too -/
def gK0 (S T : zS) : Prop := T.2 = S.2 ∧ (∀ k, k ∉ [0, 20, 24, 25, 26, 27] → T.1 k = S.1 k) ∧ ∀ i, i ≠ 65 → i ≠ 66 → T.1 0 i = S.1 0 i
theorem gK0_rfl (S : zS) : gK0 S S := ⟨rfl, fun _ _ => rfl, fun _ _ _ => rfl⟩
theorem gK0_trans {S T U : zS} (h : gK0 S T) (h' : gK0 T U) : gK0 S U := ⟨h'.1.trans h.1, fun k hk => (h'.2.1 k hk).trans (h.2.1 k hk), fun i h1 h2 => (h'.2.2 i h1 h2).trans (h.2.2 i h1 h2)⟩
theorem gK0_kp {S T : zS} (h : kp [20, 24, 25, 26, 27] S T) : gK0 S T := ⟨h.1, fun k hk => h.2 k (fun z => hk (List.mem_cons_of_mem _ z)), fun i _ _ => by rw [h.2 0 (by decide)]⟩
theorem gK0_put {S : zS} {i : Nat} {x : Int32} (h : i = 65 ∨ i = 66) : gK0 S (zput S 0 i x) := ⟨rfl, fun k hk => zput1_ne S 0 i k x (fun z => hk (by rw [z]; decide)), fun j h1 h2 => by rw [zput1_eq, upd_ne _ _ _ _ (by omega)]⟩
theorem gK_0 {st tp pa c : Nat} {Sm S T : zS} (h : gK st tp pa c Sm S) (hk : gK0 S T) : gK st tp pa c Sm T := by
  obtain ⟨⟨hst, htp, hpa, hc, m1, m2, m3, m4⟩, a, b, e⟩ := h
  refine ⟨⟨hst, htp, hpa, hc, ?_, ?_, ?_, ?_⟩, ?_, ?_, ?_⟩
  · rw [hk.2.2 42 (by decide) (by decide)]; exact m1
  · rw [hk.2.2 44 (by decide) (by decide)]; exact m2
  · rw [hk.2.2 45 (by decide) (by decide)]; exact m3
  · rw [hk.2.1 19 (by decide)]; exact m4
  · rw [hk.2.1 19 (by decide)]; exact a
  · rw [hk.2.1 14 (by decide)]; exact b
  · rw [hk.2.1 15 (by decide)]; exact e
theorem pullM {st tp pa c p : Nat} {Sm S : zS} (hK : gK st tp pa c Sm S) (hp : p < 3) {i : Nat} (hi : i ≤ c) : f_X12_canPull (nI p) (sI i) S = some (if i = 0 ∨ p < pa ∧ liv (Sm.1 19) (i - 1) = true then 1 else 0, S) := by
  obtain ⟨⟨hst, htp, hpa, hc, m1, m2, m3, m4⟩, g1, -⟩ := hK
  unfold f_X12_canPull
  rw [m3]
  cases i with
  | zero =>
    rw [if_pos (show sI 0 < 0 by decide), if_pos (show sI 0 < 0 by decide), if_pos (Or.inl rfl)]
    split <;> rfl
  | succ b =>
    have hneg : ¬ sI (b + 1) < 0 := nI_not_neg (n := b) (by omega)
    rw [if_neg hneg, if_neg hneg]
    by_cases hlt : p < pa
    · have e8 : (8 : Int32) * sI (b + 1) + 0 = nI (8 * b) := nI_8 b 0
      rw [if_pos (nI_lt hlt (by omega)), e8, if_pos (zinN (by omega) (by omega)), nI_clamp (by omega), g1, show b + 1 - 1 = b by omega]
      by_cases hl : liv (Sm.1 19) b = true
      · rw [if_pos (Or.inr ⟨hlt, hl⟩), if_pos (by unfold liv at hl; simpa using hl)]
      · rw [if_neg (by unfold liv at hl; simpa using hl), if_neg (fun z => by
          rcases z with z | z
          · omega
          · exact hl z.2)]
    · rw [if_neg (nI_nlt (by omega) (by omega)), if_neg (fun z => by
        rcases z with z | z
        · omega
        · exact hlt z.1)]
theorem sI_inj {i j : Nat} (hi : i < 100) (hj : j < 100) (h : sI i = sI j) : i = j := by
  cases i with
  | zero =>
    cases j with
    | zero => rfl
    | succ j => exact absurd h.symm (nI_neg1 (n := j) (by omega))
  | succ i =>
    cases j with
    | zero => exact absurd h (nI_neg1 (n := i) (by omega))
    | succ j => rw [(nI_eq (by omega) (by omega)).mp (show nI i = nI j from h)]
set_option maxHeartbeats 1000000 in
theorem secondM {st tp pa c a : Nat} {Sm S : zS} {J : Nat → (Nat → Bool) → Int32} (eJ : J = gJ (Sm.1 19) st c tp (Sm.1 15) (Sm.1 14)) (hK : gK st tp pa c Sm S) (hN : ∀ b, b < c → isI 0 99 (Sm.1 19 (8 * b))) (hp1 : 1 ≤ pa) (ha : a ≤ c) (h0 : S.1 26 0 = sI a) (v0 : vld (Sm.1 19) (d3 a 0 0) c 0) : ∃ T, f_X12_laySecond S = some T ∧ gK0 S T ∧ T.1 0 65 = sI (gS2 J c pa (rm (liv (Sm.1 19)) a)) ∧ T.1 0 66 = sI (gT J c pa (rm (rm (liv (Sm.1 19)) a) (gS2 J c pa (rm (liv (Sm.1 19)) a)))) ∧ ∀ p, p < pa → T.1 27 p = J p (gE2 J c pa (rm (liv (Sm.1 19)) a)) := by
  have hc := hK.1.2.2.2.1
  have hpa := hK.1.2.2.1
  have hlv : ∀ o, rm (liv (Sm.1 19)) a o = (liv (Sm.1 19) o && !decide (a = o + 1)) := fun o => rfl
  -- one try
  have try_ : ∀ (V : zS) (k : Nat), gK0 S V → V.1 26 0 = sI a → (k = 0 ∨ 2 ≤ pa ∧ ∃ o, o < c ∧ k = o + 1 ∧ rm (liv (Sm.1 19)) a o = true) → ∃ T, f_X12_layLast (zput V 26 1 (sI k)) = some T ∧ kp [20, 24, 25, 26] V T ∧ T.1 26 0 = sI a ∧ T.1 26 2 = sI (gT J c pa (rm (rm (liv (Sm.1 19)) a) k)) ∧ ∀ p, p < pa → T.1 25 p = J p (gE3 J c pa (rm (rm (liv (Sm.1 19)) a) k)) := by
    intro V k kV w0 hk
    obtain ⟨T, e, kT, t0, t1, t2, t3⟩ := lastM (a := a) (b := k) eJ (gK_0 hK (gK0_trans kV (gK0_kp (kp_put (k := 26) (i := 1) (x := sI k) (by decide))))) hN hp1 (by rw [zput1_eq, upd_ne _ _ _ _ (by decide)]; exact w0) (by rw [zput1_eq, upd_at]) v0 (by
      rcases hk with rfl | ⟨-, o, ho, rfl, hl⟩
      · exact Or.inl rfl
      · exact Or.inr ⟨o, ho, rfl, hl⟩) (fun h1 => by
      rcases hk with rfl | ⟨h2, -⟩
      · rfl
      · omega)
    exact ⟨T, e, kp_trans (kp_put (by decide)) kT, t0, t2, t3⟩
  -- a pick that is taken
  have take_ : ∀ (q : Nat) (V : zS) (k : Nat), gK0 S V → V.1 26 0 = sI a → (∀ p, p < pa → V.1 25 p = J p (gE3 J c pa (rm (rm (liv (Sm.1 19)) a) k))) → V.1 26 2 = sI (gT J c pa (rm (rm (liv (Sm.1 19)) a) k)) → ∃ T, f_X12_laySecond_B83 (f_X12_laySecond_L8 q) (sI k) V = f_X12_laySecond_L8 q (sI (k + 1)) T ∧ gK0 S T ∧ T.1 26 0 = sI a ∧ T.1 0 65 = sI k ∧ T.1 0 66 = sI (gT J c pa (rm (rm (liv (Sm.1 19)) a) k)) ∧ ∀ p, p < pa → T.1 27 p = J p (gE3 J c pa (rm (rm (liv (Sm.1 19)) a) k)) := by
    intro q V k kV w0 w25 w26
    unfold f_X12_laySecond_B83
    rw [zlet_def, zlet_def, show Int32.toNatClampNeg 2 = 2 from rfl]
    obtain ⟨T, e, kT, jT⟩ := copy100 (S := zput (zput V 0 65 (sI k)) 0 66 ((zput V 0 65 (sI k)).1 26 2)) (x1 := sI k) (f_X12_laySecond_L8 q)
    rw [e, sI_1]
    refine ⟨T, rfl, gK0_trans kV (gK0_trans (gK0_trans (gK0_put (Or.inl rfl)) (gK0_put (Or.inr rfl))) (gK0_kp (kp_in kT (by decide)))), ?_, ?_, ?_, fun p hp => ?_⟩
    · rw [kT.2 26 (by decide), zput1_ne _ _ _ _ _ (by decide), zput1_ne _ _ _ _ _ (by decide)]; exact w0
    · rw [kT.2 0 (by decide), zput1_eq, upd_ne _ _ _ _ (by decide), zput1_eq, upd_at]
    · rw [kT.2 0 (by decide), zput1_eq, upd_at, zput1_ne _ _ _ _ _ (by decide)]; exact w26
    · rw [jT p (by omega), zput1_ne _ _ _ _ _ (by decide), zput1_ne _ _ _ _ _ (by decide)]; exact w25 p hp
  have h19 : ∀ V : zS, gK0 S V → V.1 19 96 = nI c := fun V kV => (gK_0 hK kV).1.2.2.2.2.2.2.2
  obtain ⟨q0, hq0, hq1⟩ : ∃ q0, zN = q0 + 1 ∧ 12 < q0 := ⟨9999, rfl, by decide⟩
  -- none first
  have kS1 : gK0 S (zput S 0 65 (-2)) := gK0_put (Or.inl rfl)
  have s26 : (zput S 0 65 (-2)).1 26 0 = sI a := by rw [zput1_ne _ _ _ _ _ (by decide)]; exact h0
  obtain ⟨T0, e0, k0, t0, t2, t25⟩ := try_ (zput S 0 65 (-2)) 0 kS1 s26 (Or.inl rfl)
  have kT0 : gK0 S T0 := gK0_trans kS1 (gK0_kp (kp_in k0 (by decide)))
  obtain ⟨T1, e1, k1, u0, u65, u66, u27⟩ := take_ q0 T0 0 kT0 t0 t25 t2
  have hs : f_X12_laySecond S = f_X12_laySecond_L8 q0 (nI 0) T1 := by
    unfold f_X12_laySecond
    rw [zlet_def, hq0, f_X12_laySecond_L8, show Int32.toNatClampNeg 96 = 96 from rfl, h19 _ kS1, if_pos (by rw [Int32.lt_iff_toInt_lt, nI_toInt (by omega)]; show (-1 : Int) < _; omega)]
    have hp := pullM (p := 1) (i := 0) (gK_0 hK kS1) (by omega) (by omega)
    rw [if_pos (Or.inl rfl)] at hp
    rw [show f_X12_canPull 1 (-1) (zput S 0 65 (-2)) = some (1, zput S 0 65 (-2)) from hp, zb_def, if_neg (by decide), if_pos (by decide)]
    unfold f_X12_laySecond_B45
    rw [zlet_def, show Int32.toNatClampNeg 1 = 1 from rfl, show f_X12_layLast (zput (zput S 0 65 (-2)) 26 1 (-1)) = some T0 from e0, zu_def, k0.2 0 (by decide), zput1_eq, upd_at, if_pos rfl]
    exact e1
  rw [hs]
  generalize hlvv : rm (liv (Sm.1 19)) a = lv at try_ take_ u66 u27 hlv ⊢
  have hS2 : gS2 J c pa lv = sel (fun o => decide (2 ≤ pa) && lv o) (fun i => J 1 (gE3 J c pa (rm lv i))) c := by
    unfold gS2
    by_cases h2 : 2 ≤ pa
    · rw [if_pos h2]
      simp only [h2, decide_true, Bool.true_and]
    · rw [if_neg h2]
      have := sel_more (ok := fun o => decide (2 ≤ pa) && lv o) (g := fun i => J 1 (gE3 J c pa (rm lv i))) (m := 0) c (fun b _ _ => by simp [h2])
      rw [Nat.zero_add] at this
      rw [this]
      rfl
  unfold gE2
  rw [hS2]
  refine loopI (f := fun q (V : zS) o => f_X12_laySecond_L8 q (nI o) V) (fun o V => gK0 S V ∧ V.1 26 0 = sI a ∧ V.1 0 65 = sI (sel (fun o => decide (2 ≤ pa) && lv o) (fun i => J 1 (gE3 J c pa (rm lv i))) o) ∧ V.1 0 66 = sI (gT J c pa (rm lv (sel (fun o => decide (2 ≤ pa) && lv o) (fun i => J 1 (gE3 J c pa (rm lv i))) o))) ∧ ∀ p, p < pa → V.1 27 p = J p (gE3 J c pa (rm lv (sel (fun o => decide (2 ≤ pa) && lv o) (fun i => J 1 (gE3 J c pa (rm lv i))) o))))
    (fun z => ∃ T, z = some T ∧ gK0 S T ∧ T.1 0 65 = sI (sel (fun o => decide (2 ≤ pa) && lv o) (fun i => J 1 (gE3 J c pa (rm lv i))) c) ∧ T.1 0 66 = sI (gT J c pa (rm lv (sel (fun o => decide (2 ≤ pa) && lv o) (fun i => J 1 (gE3 J c pa (rm lv i))) c))) ∧ ∀ p, p < pa → T.1 27 p = J p (gE3 J c pa (rm lv (sel (fun o => decide (2 ≤ pa) && lv o) (fun i => J 1 (gE3 J c pa (rm lv i))) c)))) (c := c) ?_ ?_ c 0 q0 T1 (by omega) (by omega) ⟨k1, u0, u65, u66, u27⟩
  · rintro q V o ho ⟨kV, w0, w65, w66, w27⟩
    have hle := sel_le (fun o => decide (2 ≤ pa) && lv o) (fun i => J 1 (gE3 J c pa (rm lv i))) o
    have hpull := pullM (p := 1) (i := o + 1) (gK_0 hK kV) (by omega) (by omega)
    have estart : f_X12_laySecond_L8 (q + 1) (nI o) V = if (decide (2 ≤ pa) && lv o) = true then f_X12_laySecond_B45 (f_X12_laySecond_L8 q) (nI o) V else f_X12_laySecond_L8 q (nI (o + 1)) V := by
      rw [f_X12_laySecond_L8, show Int32.toNatClampNeg 96 = 96 from rfl, h19 V kV, if_pos (nI_lt ho (by omega)), show f_X12_canPull 1 (nI o) V = _ from hpull, zb_def, z01, if_neg (nI_not_neg (by omega)), show Int32.toNatClampNeg 0 = 0 from rfl, w0, zlet_def, nI_1, hlv o, show o + 1 - 1 = o by omega]
      by_cases h2 : 2 ≤ pa
      · by_cases hl : liv (Sm.1 19) o = true
        · rw [if_pos (Or.inr ⟨by omega, hl⟩)]
          by_cases hao : a = o + 1
          · subst hao
            rw [if_pos (show nI o = sI (o + 1) from rfl)]
            simp
          · rw [if_neg (fun z => hao (sI_inj (i := a) (j := o + 1) (by omega) (by omega) z.symm))]
            simp [h2, hl, hao]
        · rw [if_neg (fun z => by
            rcases z with z | z
            · omega
            · exact hl z.2)]
          simp [hl]
      · rw [if_neg (fun z => by
          rcases z with z | z
          · omega
          · omega)]
        simp [h2]
    rw [sel_s]
    by_cases hok : (decide (2 ≤ pa) && lv o) = true
    · rw [if_pos hok] at estart
      have hok2 : 2 ≤ pa ∧ lv o = true := by simpa using hok
      obtain ⟨T, eT, kT, x0, x2, x25⟩ := try_ V (o + 1) kV w0 (Or.inr ⟨hok2.1, o, ho, rfl, hok2.2⟩)
      have kST : gK0 S T := gK0_trans kV (gK0_kp (kp_in kT (by decide)))
      have T0 : T.1 0 = V.1 0 := kT.2 0 (by decide)
      have T27 : T.1 27 = V.1 27 := kT.2 27 (by decide)
      unfold f_X12_laySecond_B45 at estart
      rw [zlet_def, show Int32.toNatClampNeg 1 = 1 from rfl, show f_X12_layLast (zput V 26 1 (nI o)) = some T from eT, zu_def, T0, w65, if_neg (sI_m2 (by omega)), T27, w27 1 (by omega), x25 1 (by omega)] at estart
      by_cases hlt : J 1 (gE3 J c pa (rm lv (sel (fun o => decide (2 ≤ pa) && lv o) (fun i => J 1 (gE3 J c pa (rm lv i))) o))) < J 1 (gE3 J c pa (rm lv (o + 1)))
      · obtain ⟨T2, e2, k2, y0, y65, y66, y27⟩ := take_ q T (o + 1) kST x0 x25 x2
        rw [if_pos hlt] at estart
        refine ⟨T2, estart.trans e2, k2, y0, ?_, ?_, fun p hp => ?_⟩
        · rw [if_pos ⟨hok, hlt⟩]; exact y65
        · rw [if_pos ⟨hok, hlt⟩]; exact y66
        · rw [if_pos ⟨hok, hlt⟩]; exact y27 p hp
      · rw [if_neg hlt, zlet_def, nI_1] at estart
        refine ⟨T, estart, kST, x0, ?_, ?_, fun p hp => ?_⟩
        · rw [if_neg (fun z => hlt z.2), T0]; exact w65
        · rw [if_neg (fun z => hlt z.2), T0]; exact w66
        · rw [if_neg (fun z => hlt z.2), T27]; exact w27 p hp
    · rw [if_neg hok] at estart
      refine ⟨V, estart, kV, w0, ?_, ?_, fun p hp => ?_⟩
      · rw [if_neg (fun z => hok z.1)]; exact w65
      · rw [if_neg (fun z => hok z.1)]; exact w66
      · rw [if_neg (fun z => hok z.1)]; exact w27 p hp
  · rintro q V ⟨kV, w0, w65, w66, w27⟩
    refine ⟨V, ?_, kV, w65, w66, w27⟩
    rw [f_X12_laySecond_L8, show Int32.toNatClampNeg 96 = 96 from rfl, h19 V kV, if_neg (nI_nlt (Nat.le_refl _) (by omega))]
