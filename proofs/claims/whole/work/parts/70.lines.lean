/-! ===== the plain lines ===== -/
theorem i1w {X : zS} {k : Nat} (h : X.1 2 6 = 1 ∧ X.1 2 7 = nI k) : ¬ X.1 2 6 = 4 ∧ ¬ X.1 2 6 = 0 := by
  rw [h.1]; decide
theorem lnStakes {cb : Nat → Nat} {n q st pl tp pa hb : Nat} {g f d : Bool} {X M : zS} (h : cur cb n q X M) (hw : X.1 2 6 = 1 ∧ X.1 2 7 = nI 0) (hI : pI st pl tp 0 pa 0 hb g f d X M) : lnR cb n q 0 (f_X7_readStakes_2_21 X) (fun K => zb (f_X12_told 126943687828851 2 12 M) fun r8 T7 => zlet (zput T7 0 34 r8) fun T9 => K T9) X M := by
  obtain ⟨X1, M1, q1, e1, e2, e3, e4, e5, -, e6, -⟩ := stepC h (i1w hw).1
  have hq := e6 (i1w hw).2
  have h29 : X.1 2 9 = nI 0 := hI.2.2.2.1.2.1
  have eT : f_X12_told 126943687828851 2 12 M = f_X12_toldNumber (nI 2) (nI 12) M1 := toldW h (k := 0) (by omega) hw e2 2 12
  unfold f_X7_readStakes_2_21
  rw [h29, if_neg (show ¬ (0 : Int32) < nI 0 by decide), e1, zu_def]
  rcases numC (lo := 2) (hi := 12) e5 (by omega) (by omega) with ⟨X', M', q', v, g1, g2, g3, g4, g5, g6, g7, g8, g9⟩ | ⟨X', M', r, g1, g2, g3⟩
  · left
    have hI' := pI_y hI (yX_trans e3 g6) (yM_trans e4 g7)
    rw [show f_X7_takeNumber_2 2 12 X1 = _ from g1, zb_def, if_neg (by decide), zlet_def, g5]
    refine ⟨zput X' 21 0 (nI v), zput M' 0 34 (nI v), q', v, pl, tp, 0, pa, hb, g, f, d, rfl, fun K => ?_, ?_, cur_M0 (cur_X g8 (by decide) (by decide)) (Or.inl (by decide)), by omega, gX_trans (gX_y (yX_trans e3 g6)) (gX_put (Or.inr ⟨by decide, by decide⟩) (by decide)), gMf_trans (gMf_y (yM_trans e4 g7)) (gMf_put0 (by decide))⟩
    · show (zb (f_X12_told 126943687828851 2 12 M) _) = _
      rw [eT, g2, zb_def, zlet_def]
    · obtain ⟨⟨⟨-, -, b3, b4, b5, b6⟩, c1, c2, c3, c4, c5, c6, c7, c8, c9, c10⟩, a2, a3, a4, a5, a6, ⟨-, a7⟩, a8⟩ := hI'
      exact ⟨⟨⟨g3, g4, b3, b4, b5, b6⟩, rfl, rfl, c3, c4, c5, c6, c7, c8, c9, c10⟩, a2, a3, a4, a5, a6, ⟨fun b hb => absurd hb (by omega), a7⟩, a8⟩
  · right
    rw [show f_X7_takeNumber_2 2 12 X1 = _ from g1, zb_def, if_pos rfl]
    have hb := gX_bad (bad_y e3 e4 g3)
    refine ⟨X', zput M' 0 34 r, rfl, fun K => ?_, flt_e g3.1 (by rw [zput1_eq, upd_ne _ _ _ _ (by decide)]) (by rw [zput1_eq, upd_ne _ _ _ _ (by decide)]), hb.1, gMf_trans hb.2 (gMf_put0 (by decide))⟩
    show (zb (f_X12_told 126943687828851 2 12 M) _) = _
    rw [eT, g2, zb_def, zlet_def]
theorem nmOk_new {base cnt : Nat} {X M : zS} {x m : Int64} (h : nmOk base cnt X M) (hb : base + cnt < 19) (hw : wr x m) (hd : ∀ i, i < cnt → ¬ M.2 2 (base + i) = m) : nmOk base (cnt + 1) (zputL X 3 (base + cnt) x) (zputL M 2 (base + cnt) m) := by
  obtain ⟨h1, h2, h3⟩ := h
  refine ⟨by omega, fun i hi => ?_, fun i j hi hj => ?_⟩
  · rw [zputL2, zputL2]
    by_cases hic : i = cnt
    · subst hic
      rw [if_pos ⟨rfl, rfl⟩, if_pos ⟨rfl, rfl⟩]; exact hw
    · rw [if_neg (by omega), if_neg (by omega)]; exact h2 i (by omega)
  · rw [zputL2, zputL2]
    by_cases hjc : j = cnt
    · subst hjc
      rw [if_neg (by omega), if_pos ⟨rfl, rfl⟩]; exact hd i (by omega)
    · rw [if_neg (by omega), if_neg (by omega)]; exact h3 i j hi (by omega)
theorem nmOk_oth {base cnt k : Nat} {X M : zS} {x m : Int64} (h : nmOk base cnt X M) (hk : k < base ∨ base + cnt ≤ k) : nmOk base cnt (zputL X 3 k x) (zputL M 2 k m) := by
  obtain ⟨h1, h2, h3⟩ := h
  refine ⟨h1, fun i hi => ?_, fun i j hi hj => ?_⟩
  · rw [zputL2, zputL2, if_neg (by omega), if_neg (by omega)]; exact h2 i hi
  · rw [zputL2, zputL2, if_neg (by omega), if_neg (by omega)]; exact h3 i j hi hj
theorem yX_k {S T : zS} {k i : Nat} {x : Int32} (h : yX S T) (hk : k ≠ 2) : yX (zput S k i x) (zput T k i x) := ⟨fun k' hk' => by
  by_cases hkk : k' = k
  · subst hkk; rw [zput1_eq, zput1_eq, h.1 k' hk']
  · rw [zput1_ne _ _ _ _ _ hkk, zput1_ne _ _ _ _ _ hkk, h.1 k' hk'], fun j hj => by rw [zput1_ne _ _ _ _ _ (Ne.symm hk), zput1_ne _ _ _ _ _ (Ne.symm hk)]; exact h.2.1 j hj, h.2.2⟩
theorem yM_k {S T : zS} {k i : Nat} {x : Int32} (h : yM S T) (hk : k ≠ 0) : yM (zput S k i x) (zput T k i x) := ⟨fun k' hk' => by
  by_cases hkk : k' = k
  · subst hkk; rw [zput1_eq, zput1_eq, h.1 k' hk']
  · rw [zput1_ne _ _ _ _ _ hkk, zput1_ne _ _ _ _ _ hkk, h.1 k' hk'], fun j a b c d => by rw [zput1_ne _ _ _ _ _ (Ne.symm hk), zput1_ne _ _ _ _ _ (Ne.symm hk)]; exact h.2.1 j a b c d, h.2.2⟩
theorem yM_0 {S T : zS} {i : Nat} {x : Int32} (h : yM S T) (hi : 9 ≤ i) : yM (zput S 0 i x) (zput T 0 i x) := ⟨fun k' hk' => by rw [zput1_ne _ _ _ _ _ hk', zput1_ne _ _ _ _ _ hk']; exact h.1 k' hk', fun j a b c d => by
  rw [zput1_eq, zput1_eq]
  by_cases hj : j = i
  · rw [hj, upd_at, upd_at]
  · rw [upd_ne _ _ _ _ hj, upd_ne _ _ _ _ hj]; exact h.2.1 j a b c d, h.2.2⟩
theorem lnTopic {cb : Nat → Nat} {n q st pl tp bl pa ln hb : Nat} {g f d : Bool} {X M : zS} (h : cur cb n q X M) (hw : X.1 2 6 = 1 ∧ X.1 2 7 = nI 2) (hI : pI st pl tp bl pa ln hb g f d X M) (ht : tp < 4) : lnR cb n q ln (f_X7_readTopic_2_21 X) (fun K => zu (f_X12_readTopic M) K) X M := by
  obtain ⟨⟨⟨b1, b2, b3, b4, b5, b6⟩, c1, c2, c3, c4, c5, c6, c7, c8, c9, c10⟩, a2, a3, a4, ⟨n1, n2, n3, n4⟩, a6, a7, a8⟩ := id hI
  unfold f_X7_readTopic_2_21 f_X12_readTopic
  rw [c5, c6]
  rcases newC (most := 4) h hw.1 n2 ht (by omega) (by omega) with ⟨X', M', q', x, m, g1, g2, g3, g4, g5, g6, g7, g8⟩ | ⟨X', M', g1, g2, g3⟩
  · left
    have hX' : X'.1 21 2 = nI tp := by rw [g5.1 21 (by decide)]; exact c5
    have hM' : M'.1 0 36 = nI tp := by rw [g6.2.1 36 (by decide) (by decide) (by decide) (by decide)]; exact c6
    rw [show f_X7_beginSort_2 4 (nI tp) 4 X = _ from g1, zb_def, if_neg (by decide), zlet_def, hX', nI_1]
    have hJ : pI st pl (tp + 1) bl pa ln hb g f d (zput (zputL X 3 (4 + tp) x) 21 2 (nI (tp + 1))) (zput (zputL M 2 (4 + tp) m) 0 36 (nI (tp + 1))) := by
      refine ⟨⟨⟨b1, b2, b3, by omega, b5, b6⟩, c1, c2, c3, c4, rfl, rfl, c7, c8, c9, c10⟩, a2, a3, a4, ⟨nmOk_oth n1 (by omega), nmOk_new n2 (by omega) g3 g4, nmOk_oth n3 (by omega), nmOk_oth n4 (by omega)⟩, a6, ⟨fun b hb => ?_, a7.2⟩, a8⟩
      obtain ⟨d1, d2, d3, d4, ⟨v, v1, v2, v3⟩, d6⟩ := a7.1 b hb
      exact ⟨d1, d2, d3, d4, ⟨v, v1, by omega, v3⟩, d6⟩
    have hyX : yX (zput (zputL X 3 (4 + tp) x) 21 2 (nI (tp + 1))) (zput X' 21 2 (nI (tp + 1))) := yX_k g5 (by decide)
    have hyM : yM (zput (zputL M 2 (4 + tp) m) 0 36 (nI (tp + 1))) (zput M' 0 36 (nI (tp + 1))) := yM_0 g6 (by decide)
    refine ⟨zput X' 21 2 (nI (tp + 1)), zput M' 0 36 (nI (tp + 1)), q', st, pl, tp + 1, bl, pa, hb, g, f, d, rfl, fun K => ?_, pI_y hJ hyX hyM, cur_M0 (cur_X g7 (by decide) (by decide)) (Or.inl (by decide)), g8, gX_trans (gX_trans gX_putL (gX_y g5)) (gX_put (Or.inr ⟨by decide, by decide⟩) (by decide)), gMf_trans (gMf_trans gMf_putL (gMf_y g6)) (gMf_put0 (by decide))⟩
    rw [show f_X12_newName 4 (nI tp) M = _ from g2, zu_def, if_pos g7.2.2.2.2.1, zlet_def, hM', nI_1]
    rfl
  · right
    rw [show f_X7_beginSort_2 4 (nI tp) 4 X = _ from g1, zb_def, if_pos rfl]
    refine ⟨X', M', rfl, fun K => ?_, g3.1, (gX_bad g3).1, (gX_bad g3).2⟩
    rw [show f_X12_newName 4 (nI tp) M = _ from g2, zu_def, if_neg (flt_pos g3.1).2]
    rfl
theorem partyL {M : zS} {pa : Nat} (hp : pa < 3) (e : M.1 0 38 = nI pa) : ∃ T, f_X12_readParty_L20 zN 0 M = some (zput T 0 38 (nI (pa + 1))) ∧ kp [13] M T ∧ (∀ t, t < 4 → T.1 13 (4 * pa + t) = 0) ∧ ∀ i, i < 4 * pa → T.1 13 i = M.1 13 i := by
  refine loopI (f := fun q (V : zS) t => f_X12_readParty_L20 q (nI t) V) (fun t V => kp [13] M V ∧ (∀ j, j < t → V.1 13 (4 * pa + j) = 0) ∧ ∀ i, i < 4 * pa → V.1 13 i = M.1 13 i) (fun o => ∃ T, o = some (zput T 0 38 (nI (pa + 1))) ∧ kp [13] M T ∧ (∀ t, t < 4 → T.1 13 (4 * pa + t) = 0) ∧ ∀ i, i < 4 * pa → T.1 13 i = M.1 13 i) (c := 4) ?_ ?_ 4 0 zN M (by omega) (by decide) ⟨kp_rfl _ _, fun j hj => absurd hj (by omega), fun _ _ => rfl⟩
  · rintro q V t ht ⟨kV, h1, h2⟩
    have e4 : (4 : Int32) * nI pa + nI t = nI (4 * pa + t) := by rw [show (4 : Int32) = nI 4 from rfl, pk_mul, nI_add]
    refine ⟨zput V 13 (4 * pa + t) 0, ?_, kp_trans kV (kp_put (by decide)), fun j hj => ?_, fun i hi => ?_⟩
    · rw [f_X12_readParty_L20, if_pos (show nI t < 4 from nI_lt (b := 4) ht (by omega)), kV.2 0 (by decide), e, e4, if_pos (zinN (by omega) (by omega)), zlet_def, zlet_def, nI_1, nI_clamp (by omega)]
    · rw [zput1_eq]
      by_cases hjt : j = t
      · rw [hjt, upd_at]
      · rw [upd_ne _ _ _ _ (by omega)]; exact h1 j (by omega)
    · rw [zput1_eq, upd_ne _ _ _ _ (by omega)]; exact h2 i hi
  · rintro q V ⟨kV, h1, h2⟩
    refine ⟨V, ?_, kV, h1, h2⟩
    rw [f_X12_readParty_L20, if_neg (by decide), zlet_def, kV.2 0 (by decide), e, nI_1]
theorem lnParty {cb : Nat → Nat} {n q st pl tp bl pa ln hb : Nat} {g f d : Bool} {X M : zS} (h : cur cb n q X M) (hw : X.1 2 6 = 1 ∧ X.1 2 7 = nI 4) (hI : pI st pl tp bl pa ln hb g f d X M) (ht : pa < 3) : lnR cb n q ln (f_X7_readParty_2_21 X) (fun K => zu (f_X12_readParty M) K) X M := by
  obtain ⟨⟨⟨b1, b2, b3, b4, b5, b6⟩, c1, c2, c3, c4, c5, c6, c7, c8, c9, c10⟩, a2, a3, a4, ⟨n1, n2, n3, n4⟩, a6, a7, a8⟩ := id hI
  unfold f_X7_readParty_2_21 f_X12_readParty
  rw [c7, c8]
  rcases newC (most := 3) h hw.1 n4 ht (by omega) (by omega) with ⟨X', M', q', x, m, g1, g2, g3, g4, g5, g6, g7, g8⟩ | ⟨X', M', g1, g2, g3⟩
  · left
    have hX' : X'.1 21 3 = nI pa := by rw [g5.1 21 (by decide)]; exact c7
    have hM' : M'.1 0 38 = nI pa := by rw [g6.2.1 38 (by decide) (by decide) (by decide) (by decide)]; exact c8
    obtain ⟨T, t1, t2, t3, t4⟩ := partyL ht hM'
    rw [show f_X7_beginSort_2 16 (nI pa) 3 X = _ from g1, zb_def, if_neg (by decide), zlet_def, hX', nI_1]
    have hJ : pI st pl tp bl pa ln hb g f d (zputL X 3 (16 + pa) x) (zputL M 2 (16 + pa) m) := ⟨⟨⟨b1, b2, b3, b4, b5, b6⟩, c1, c2, c3, c4, c5, c6, c7, c8, c9, c10⟩, a2, a3, a4, ⟨nmOk_oth n1 (by omega), nmOk_oth n2 (by omega), nmOk_oth n3 (by omega), nmOk_oth n4 (by omega)⟩, a6, a7, a8⟩
    have hn4 : nmOk 16 (pa + 1) X' M' := nmOk_y (nmOk_new n4 (by omega) g3 g4) g5 g6
    obtain ⟨⟨b', c1, c2, c3, c4, c5, c6, c7, c8, c9, c10⟩, a2, a3, a4, ⟨n1, n2, n3, -⟩, a6, a7, a8⟩ := pI_y hJ g5 g6
    have hT0 : T.1 0 = M'.1 0 := t2.2 0 (by decide)
    have hT2 : T.2 = M'.2 := t2.1
    have hcT : cur cb n q' X' T := cur_e g7 rfl (fun _ _ => rfl) rfl (fun _ => rfl) (t2.2 1 (by decide)) (fun i _ _ => by rw [hT0]) (by rw [hT2])
    refine ⟨zput X' 21 3 (nI (pa + 1)), zput T 0 38 (nI (pa + 1)), q', st, pl, tp, bl, pa + 1, hb, g, f, d, rfl, fun K => ?_, ?_, cur_M0 (cur_X hcT (by decide) (by decide)) (Or.inl (by decide)), g8, gX_trans (gX_trans gX_putL (gX_y g5)) (gX_put (Or.inr ⟨by decide, by decide⟩) (by decide)), ?_⟩
    · rw [show f_X12_newName 16 (nI pa) M = _ from g2, zu_def, if_neg (cur_nf g7), t1]
      rfl
    · have hz : (zput T 0 38 (nI (pa + 1))).1 0 = upd (M'.1 0) 38 (nI (pa + 1)) := by rw [zput1_eq, hT0]
      have hk : ∀ k, k ≠ 0 → k ≠ 13 → (zput T 0 38 (nI (pa + 1))).1 k = M'.1 k := fun k h0 h13 => by rw [zput1_ne _ _ _ _ _ h0, t2.2 k (by simpa using h13)]
      have hnm : ∀ base cnt, nmOk base cnt X' M' → nmOk base cnt (zput X' 21 3 (nI (pa + 1))) (zput T 0 38 (nI (pa + 1))) := fun base cnt z => by
        unfold nmOk
        rw [zput2, zput2, hT2]
        exact z
      unfold pI
      rw [hz, hk 10 (by decide) (by decide), hk 16 (by decide) (by decide), hk 12 (by decide) (by decide), hk 18 (by decide) (by decide), hk 3 (by decide) (by decide), hk 4 (by decide) (by decide)]
      refine ⟨⟨⟨b1, b2, b3, b4, b5, by omega⟩, c1, c2, c3, c4, c5, c6, rfl, rfl, c9, c10⟩, a2, a3, a4, ⟨hnm _ _ n1, hnm _ _ n2, hnm _ _ n3, hnm _ _ hn4⟩, ⟨fun p t hp ht4 => ?_, fun p t hp hp3 ht4 => a6.2 p t (by omega) hp3 ht4⟩, a7, a8⟩
      show isI 0 9 (T.1 13 (4 * p + t)) ∧ X'.1 24 (4 * p + t) = T.1 13 (4 * p + t) ∧ (T.1 13 (4 * p + t) ≠ 0 → isI (-9) 9 (M'.1 12 (4 * p + t)) ∧ X'.1 23 (4 * p + t) = M'.1 12 (4 * p + t))
      by_cases hpp : p = pa
      · subst hpp
        rw [t3 t ht4]
        exact ⟨⟨0, by omega, by omega, rfl⟩, a6.2 p t (Nat.le_refl _) ht ht4, fun z => absurd rfl z⟩
      · rw [t4 _ (by omega)]
        exact a6.1 p t (by omega) ht4
    · refine gMf_trans (gMf_trans gMf_putL (gMf_y g6)) (gMf_trans (T := T) ⟨fun k hk => t2.2 k (fun z => hk ?_), fun i _ => by rw [hT0]⟩ (gMf_put0 (by decide)))
      rw [List.mem_singleton] at z
      rw [z]; decide
  · right
    rw [show f_X7_beginSort_2 16 (nI pa) 3 X = _ from g1, zb_def, if_pos rfl]
    refine ⟨X', M', rfl, fun K => ?_, g3.1, (gX_bad g3).1, (gX_bad g3).2⟩
    rw [show f_X12_newName 16 (nI pa) M = _ from g2, zu_def, if_pos (flt_pos g3.1).1]
    rfl
theorem hd_or : ∀ p, p < 4 → ∀ hb, hb < 2 ^ p → nI hb ||| (1 <<< (nI p &&& 31)) = nI (hb ||| 2 ^ p) ∧ (hb ||| 2 ^ p) < 2 ^ (p + 1) ∧ hb < 2 ^ (p + 1) ∧ hb.testBit p = false ∧ (hb ||| 2 ^ p).testBit p = true ∧ ∀ j, j < p → (hb ||| 2 ^ p).testBit j = hb.testBit j := by decide +kernel
theorem on_0 : ∀ g f d : Bool, ∀ k, k = 6 ∨ k = 7 ∨ k = 8 → ((nI (64 * bN g + 128 * bN f + 256 * bN d) &&& (1 <<< (nI k &&& 31))) = 0 ↔ (if k = 6 then g else if k = 7 then f else d) = false) := by
  intro g f d k hk
  rcases hk with rfl | rfl | rfl <;> cases g <;> cases f <;> cases d <;> decide
theorem on_1 : ∀ g f d : Bool, ∀ k, k = 6 ∨ k = 7 ∨ k = 8 → (if k = 6 then g else if k = 7 then f else d) = false → nI (64 * bN g + 128 * bN f + 256 * bN d) ||| (1 <<< (nI k &&& 31)) = nI (64 * bN (if k = 6 then true else g) + 128 * bN (if k = 7 then true else f) + 256 * bN (if k = 8 then true else d)) := by
  intro g f d k hk
  rcases hk with rfl | rfl | rfl <;> cases g <;> cases f <;> cases d <;> decide
