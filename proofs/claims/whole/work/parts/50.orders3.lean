/-! ===== orders: gathered ===== -/
theorem ndR_succ (E B Td Ud : Nat → Int32) (kk : Int32) (n J b i : Nat) : ndR E B Td Ud kk n (J + 1) b i ↔ ndR E B Td Ud kk n J b i ∨ (¬ kk < Td J ∧ (Ud J = -1 ∨ kk < Ud J) ∧ E J = nI i ∧ B J = nI b ∧ i < n ∧ b < n) := by
  constructor
  · rintro ⟨j, hj, h⟩
    by_cases hjJ : j = J
    · subst hjJ; exact Or.inr h
    · exact Or.inl ⟨j, by omega, h⟩
  · rintro (⟨j, hj, h⟩ | h)
    · exact ⟨j, by omega, h⟩
    · exact ⟨J, by omega, h⟩
theorem gaB {V : zS} {n : Nat} (hn : n ≤ 5) (v1 : V.1 52 1 = nI n) (v0 : V.1 52 0 = 0) (v55 : ∀ i, i < 25 → V.1 55 i = 0) : ∃ T, f_X6_gather_52_47_13_B173 V = some T ∧ kp [52, 54, 55] V T ∧ T.1 52 1 = nI n ∧ T.1 52 0 = nI ((prm n).filter (gall (gW (V.1 53)) [])).length ∧ ∀ i, i < 25 → T.1 55 i = nI (tl i ((prm n).filter (gall (gW (V.1 53)) []))) := by
  obtain ⟨T, eT, kT, t1, -, ha, hb⟩ := seatX (W := V.1 53) hn n 8 [] V (by show 0 + n = n; omega) (by omega) (fun x hx => by cases hx) v1 (fun _ _ => rfl) (fun p hp => absurd hp (by show ¬ p < 0; omega))
  have eL : (dfs (fun p b => !p.contains b && gW (V.1 53) p b) n n []).map (fun l => [] ++ l) = (prm n).filter (gall (gW (V.1 53)) []) := by
    rw [dfs_filter (fun p b => !p.contains b) (gW (V.1 53)) n n []]
    exact List.map_id' _
  rw [eL] at ha hb
  have e0 : f_X6_seatFrom_52 8 0 0 V = some T := eT
  unfold f_X6_gather_52_47_13_B173
  rw [e0, zu_def]
  refine ⟨T, rfl, kT, t1, ?_, fun i hi => ?_⟩
  · rw [ha, v0, Int32.zero_add]
  · rw [hb i hi, v55 i hi, Int32.zero_add]
theorem ga91 {V : zS} {n rn : Nat} {kk : Int32} (hn : n ≤ 5) (hr : rn ≤ 30) (v1 : V.1 52 1 = nI n) (e47 : V.1 47 0 = nI rn) (hring : ∀ j, j < rn → ∃ e b : Nat, e < 5 ∧ b < 5 ∧ V.1 48 j = nI e ∧ V.1 49 j = nI b) (h0 : ∀ b, b < n → ∀ i, i < 32 → (bt (V.1 53 b) i = true ↔ V.1 18 b = nI i ∨ V.1 19 b = nI i)) : ∃ T, f_X6_gather_52_47_13_L91 zN kk 0 V = f_X6_gather_52_47_13_B173 T ∧ kp [53] V T ∧ ∀ b, b < n → ∀ i, i < 32 → (bt (T.1 53 b) i = true ↔ ndP (V.1 18) (V.1 19) (V.1 48) (V.1 49) (V.1 50) (V.1 51) kk n rn b i) := by
  refine loopI (f := fun q (T : zS) j => f_X6_gather_52_47_13_L91 q kk (nI j) T) (fun j T => kp [53] V T ∧ ∀ b, b < n → ∀ i, i < 32 → (bt (T.1 53 b) i = true ↔ ndP (V.1 18) (V.1 19) (V.1 48) (V.1 49) (V.1 50) (V.1 51) kk n j b i)) (fun o => ∃ T, o = f_X6_gather_52_47_13_B173 T ∧ kp [53] V T ∧ ∀ b, b < n → ∀ i, i < 32 → (bt (T.1 53 b) i = true ↔ ndP (V.1 18) (V.1 19) (V.1 48) (V.1 49) (V.1 50) (V.1 51) kk n rn b i)) (c := rn) ?_ ?_ rn 0 zN V (by omega) (by show rn < 10000; omega) ⟨kp_rfl _ _, fun b hb i hi => ?_⟩
  · intro q T j hj ⟨kT, hT⟩
    obtain ⟨e, b, he, hb, e48, e49⟩ := hring j hj
    have t47 : T.1 47 0 = nI rn := by rw [kT.2 47 (by decide)]; exact e47
    have t48 : T.1 48 j = nI e := by rw [kT.2 48 (by decide)]; exact e48
    have t49 : T.1 49 j = nI b := by rw [kT.2 49 (by decide)]; exact e49
    have t52 : T.1 52 1 = nI n := by rw [kT.2 52 (by decide)]; exact v1
    have hz : zin (nI j) 30 := zinN (by omega) (by omega)
    obtain ⟨r, er, -, hr2⟩ := knownX (S := T) hr hj t47 kk
    rw [kT.2 50 (by decide), kT.2 51 (by decide)] at hr2
    have x1 : f_X6_gather_52_47_13_L91 (q + 1) kk (nI j) T = if r = 0 then f_X6_gather_52_47_13_L91 q kk (nI (j + 1)) T else if e < n then (if b < n then f_X6_gather_52_47_13_L91 q kk (nI (j + 1)) (zput T 53 b (T.1 53 b ||| (1 <<< (nI e &&& 31)))) else f_X6_gather_52_47_13_L91 q kk (nI (j + 1)) T) else f_X6_gather_52_47_13_L91 q kk (nI (j + 1)) T := by
      rw [f_X6_gather_52_47_13_L91, t47, if_pos (nI_lt hj (by omega)), if_pos (show nI j < 30 from nI_lt (b := 30) (by omega) (by omega)), if_pos hz, zlet_def, if_pos hz, zlet_def, nI_clamp (show j < 2 ^ 31 by omega), t48, t49, er, zb_def, seatedX hn he t52, zb_def, z01, seatedX hn hb t52, zb_def, z01]
      simp only [zlet_def, nI_1, eq_true (zinN (show b < 5 by omega) (by omega)), ↓reduceIte, nI_clamp (show b < 2 ^ 31 by omega)]
    by_cases hr0 : r = 0
    · rw [if_pos hr0] at x1
      refine ⟨T, x1, kT, fun b' hb' i hi => ?_⟩
      rw [hT b' hb' i hi]
      unfold ndP
      rw [ndR_succ]
      have : ¬ (¬ kk < V.1 50 j ∧ (V.1 51 j = -1 ∨ kk < V.1 51 j)) := fun z => hr2.mpr z hr0
      constructor
      · rintro (h | h | h)
        · exact Or.inl h
        · exact Or.inr (Or.inl h)
        · exact Or.inr (Or.inr (Or.inl h))
      · rintro (h | h | h | h)
        · exact Or.inl h
        · exact Or.inr (Or.inl h)
        · exact Or.inr (Or.inr h)
        · exact absurd ⟨h.1, h.2.1⟩ this
    · rw [if_neg hr0] at x1
      obtain ⟨q1, q2⟩ := hr2.mp hr0
      by_cases hen : e < n
      · by_cases hbn : b < n
        · rw [if_pos hen, if_pos hbn] at x1
          refine ⟨_, x1, kp_trans kT (kp_put (by decide)), fun b' hb' i hi => ?_⟩
          rw [zput1_eq]
          unfold ndP
          rw [ndR_succ]
          by_cases hbb : b' = b
          · subst hbb
            rw [upd_at, b_or, b_bit (by omega) hi, Bool.or_eq_true, hT b' hb' i hi, decide_eq_true_eq]
            unfold ndP
            constructor
            · rintro ((h | h | h) | h)
              · exact Or.inl h
              · exact Or.inr (Or.inl h)
              · exact Or.inr (Or.inr (Or.inl h))
              · exact Or.inr (Or.inr (Or.inr ⟨q1, q2, by rw [e48, h], e49, by omega, hb'⟩))
            · rintro (h | h | h | h)
              · exact Or.inl (Or.inl h)
              · exact Or.inl (Or.inr (Or.inl h))
              · exact Or.inl (Or.inr (Or.inr h))
              · right
                have := h.2.2.1
                rw [e48] at this
                exact ((nI_eq (by omega) (by omega)).mp this).symm
          · rw [upd_ne _ _ _ _ hbb, hT b' hb' i hi]
            unfold ndP
            constructor
            · rintro (h | h | h)
              · exact Or.inl h
              · exact Or.inr (Or.inl h)
              · exact Or.inr (Or.inr (Or.inl h))
            · rintro (h | h | h | h)
              · exact Or.inl h
              · exact Or.inr (Or.inl h)
              · exact Or.inr (Or.inr h)
              · exfalso
                have := h.2.2.2.1
                rw [e49] at this
                exact hbb ((nI_eq (by omega) (by omega)).mp this).symm
        · rw [if_pos hen, if_neg hbn] at x1
          refine ⟨T, x1, kT, fun b' hb' i hi => ?_⟩
          rw [hT b' hb' i hi]
          unfold ndP
          rw [ndR_succ]
          constructor
          · rintro (h | h | h)
            · exact Or.inl h
            · exact Or.inr (Or.inl h)
            · exact Or.inr (Or.inr (Or.inl h))
          · rintro (h | h | h | h)
            · exact Or.inl h
            · exact Or.inr (Or.inl h)
            · exact Or.inr (Or.inr h)
            · exfalso
              have := h.2.2.2.1
              rw [e49] at this
              have := (nI_eq (by omega) (by omega)).mp this
              omega
      · rw [if_neg hen] at x1
        refine ⟨T, x1, kT, fun b' hb' i hi => ?_⟩
        rw [hT b' hb' i hi]
        unfold ndP
        rw [ndR_succ]
        constructor
        · rintro (h | h | h)
          · exact Or.inl h
          · exact Or.inr (Or.inl h)
          · exact Or.inr (Or.inr (Or.inl h))
        · rintro (h | h | h | h)
          · exact Or.inl h
          · exact Or.inr (Or.inl h)
          · exact Or.inr (Or.inr h)
          · exfalso
            have h1 := h.2.2.1
            rw [e48] at h1
            have := (nI_eq (by omega) (by omega)).mp h1
            have := h.2.2.2.2.1
            omega
  · intro q T ⟨kT, hT⟩
    refine ⟨T, ?_, kT, hT⟩
    show f_X6_gather_52_47_13_L91 (q + 1) kk (nI rn) T = _
    rw [f_X6_gather_52_47_13_L91, show T.1 47 0 = nI rn by rw [kT.2 47 (by decide)]; exact e47, if_neg (nI_nlt (Nat.le_refl rn) (by omega))]
  · rw [h0 b hb i hi]
    unfold ndP
    constructor
    · rintro (h | h)
      · exact Or.inl h
      · exact Or.inr (Or.inl h)
    · rintro (h | h | ⟨j, hj, -⟩)
      · exact Or.inl h
      · exact Or.inr h
      · omega
theorem ga45 {V : zS} {n : Nat} {kk : Int32} (hn : n ≤ 5) (v1 : V.1 52 1 = nI n) (ham : ∀ b : Nat, b < n → isI (-1) (b - 1) (V.1 18 b)) (hrp : ∀ b : Nat, b < n → isI (-1) (b - 1) (V.1 19 b)) : ∃ T, f_X6_gather_52_47_13_L45 zN kk 0 V = f_X6_gather_52_47_13_L91 zN kk 0 T ∧ kp [53] V T ∧ ∀ b, b < n → ∀ i, i < 32 → (bt (T.1 53 b) i = true ↔ V.1 18 b = nI i ∨ V.1 19 b = nI i) := by
  refine loopI (f := fun q (T : zS) j => f_X6_gather_52_47_13_L45 q kk (nI j) T) (fun j T => kp [53] V T ∧ ∀ b, b < j → ∀ i, i < 32 → (bt (T.1 53 b) i = true ↔ V.1 18 b = nI i ∨ V.1 19 b = nI i)) (fun o => ∃ T, o = f_X6_gather_52_47_13_L91 zN kk 0 T ∧ kp [53] V T ∧ ∀ b, b < n → ∀ i, i < 32 → (bt (T.1 53 b) i = true ↔ V.1 18 b = nI i ∨ V.1 19 b = nI i)) (c := n) ?_ ?_ n 0 zN V (by omega) (by show n < 10000; omega) ⟨kp_rfl _ _, fun b hb => absurd hb (by omega)⟩
  · intro q T b hb ⟨kT, hT⟩
    have t52 : T.1 52 1 = nI n := by rw [kT.2 52 (by decide)]; exact v1
    have hz : zin (nI b) 12 := zinN (by omega) (by omega)
    obtain ⟨r, er, h1⟩ := bitX (ham b hb) (by omega) T
    obtain ⟨r', er', h2⟩ := bitX (hrp b hb) (by omega) T
    refine ⟨zput T 53 b (r ||| r'), ?_, kp_trans kT (kp_put (by decide)), fun b' hb' i hi => ?_⟩
    · show f_X6_gather_52_47_13_L45 (q + 1) kk (nI b) T = _
      rw [f_X6_gather_52_47_13_L45, t52, if_pos (nI_lt hb (by omega))]
      simp only [eq_true hz, eq_true (zinN (show b < 5 by omega) (by omega)), ↓reduceIte, zlet_def, nI_1, nI_clamp (show b < 2 ^ 31 by omega)]
      rw [kT.2 18 (by decide), er, zb_def, kT.2 19 (by decide), er', zb_def]
    · rw [zput1_eq]
      by_cases hbb : b' = b
      · subst hbb
        rw [upd_at, b_or, Bool.or_eq_true, h1 i hi, h2 i hi]
      · rw [upd_ne _ _ _ _ hbb]
        exact hT b' (by omega) i hi
  · intro q T ⟨kT, hT⟩
    refine ⟨T, ?_, kT, hT⟩
    show f_X6_gather_52_47_13_L45 (q + 1) kk (nI n) T = _
    rw [f_X6_gather_52_47_13_L45, show T.1 52 1 = nI n by rw [kT.2 52 (by decide)]; exact v1, if_neg (nI_nlt (Nat.le_refl n) (by omega))]
theorem ga18 {V : zS} {kk : Int32} : ∃ T, f_X6_gather_52_47_13_L18 zN kk 0 V = f_X6_gather_52_47_13_L45 zN kk 0 T ∧ kp [55] V T ∧ ∀ i, i < 25 → T.1 55 i = 0 := by
  refine loopI (f := fun q (T : zS) j => f_X6_gather_52_47_13_L18 q kk (nI j) T) (fun j T => kp [55] V T ∧ ∀ i, i < j → T.1 55 i = 0) (fun o => ∃ T, o = f_X6_gather_52_47_13_L45 zN kk 0 T ∧ kp [55] V T ∧ ∀ i, i < 25 → T.1 55 i = 0) (c := 25) ?_ ?_ 25 0 zN V (by omega) (by decide) ⟨kp_rfl _ _, fun b hb => absurd hb (by omega)⟩
  · intro q T b hb ⟨kT, hT⟩
    refine ⟨zput T 55 b 0, ?_, kp_trans kT (kp_put (by decide)), fun i hi => ?_⟩
    · show f_X6_gather_52_47_13_L18 (q + 1) kk (nI b) T = _
      rw [f_X6_gather_52_47_13_L18, if_pos (show nI b < 25 from nI_lt (b := 25) hb (by omega)), if_pos (zinN hb (by omega)), zlet_def, zlet_def, nI_1, nI_clamp (show b < 2 ^ 31 by omega)]
    · rw [zput1_eq]
      by_cases hbb : i = b
      · subst hbb; exact upd_at _ _ _
      · rw [upd_ne _ _ _ _ hbb]
        exact hT i (by omega)
  · intro q T ⟨kT, hT⟩
    refine ⟨T, ?_, kT, hT⟩
    show f_X6_gather_52_47_13_L18 (q + 1) kk (nI 25) T = _
    rw [f_X6_gather_52_47_13_L18, if_neg (by decide)]
theorem zmin5 {c : Nat} (hc : c ≤ 12) : zmin (nI c) 5 = nI (min c 5) := by
  unfold zmin
  by_cases h : 5 < c
  · rw [if_pos (show (5 : Int32) < nI c from nI_lt (a := 5) h (by omega)), show min c 5 = 5 by omega]
    rfl
  · rw [if_neg (show ¬ (5 : Int32) < nI c from nI_nlt (a := 5) (by omega) (by omega)), show min c 5 = c by omega]
theorem gatherX {S : zS} {c rn : Nat} {kk : Int32} (hc : c ≤ 12) (hr : rn ≤ 30) (e47 : S.1 47 0 = nI rn) (ham : ∀ b : Nat, b < c → isI (-1) (b - 1) (S.1 18 b)) (hrp : ∀ b : Nat, b < c → isI (-1) (b - 1) (S.1 19 b)) (hring : ∀ j, j < rn → ∃ e b : Nat, e < 5 ∧ b < 5 ∧ S.1 48 j = nI e ∧ S.1 49 j = nI b) : ∃ (W : Nat → Int32) (T : zS), f_X6_gather_52_47_13 kk (nI c) S = some T ∧ kp [52, 53, 54, 55] S T ∧ T.1 52 1 = nI (min c 5) ∧ (∀ b, b < min c 5 → ∀ i, i < 32 → (bt (W b) i = true ↔ ndP (S.1 18) (S.1 19) (S.1 48) (S.1 49) (S.1 50) (S.1 51) kk (min c 5) rn b i)) ∧ T.1 52 0 = nI ((prm (min c 5)).filter (gall (gW W) [])).length ∧ ∀ i, i < 25 → T.1 55 i = nI (tl i ((prm (min c 5)).filter (gall (gW W) []))) := by
  unfold f_X6_gather_52_47_13
  rw [zmin5 hc, zlet_def, zlet_def]
  have hn : min c 5 ≤ 5 := by omega
  have hnc : min c 5 ≤ c := by omega
  generalize min c 5 = n at hn hnc
  generalize hV : zput (zput S 52 1 (nI n)) 52 0 0 = V
  have v0 : V.1 52 0 = 0 := by rw [← hV]; rfl
  have v1 : V.1 52 1 = nI n := by rw [← hV]; rfl
  have kV : kp [52] S V := by rw [← hV]; exact kp_trans (kp_put (by decide)) (kp_put (by decide))
  obtain ⟨T1, e1, k1, h1⟩ := ga18 (V := V) (kk := kk)
  obtain ⟨T2, e2, k2, h2⟩ := ga45 (V := T1) (kk := kk) hn (by rw [k1.2 52 (by decide)]; exact v1) (fun b hb => by rw [k1.2 18 (by decide), kV.2 18 (by decide)]; exact ham b (by omega)) (fun b hb => by rw [k1.2 19 (by decide), kV.2 19 (by decide)]; exact hrp b (by omega))
  obtain ⟨T3, e3, k3, h3⟩ := ga91 (V := T2) (kk := kk) hn hr (by rw [k2.2 52 (by decide), k1.2 52 (by decide)]; exact v1) (by rw [k2.2 47 (by decide), k1.2 47 (by decide), kV.2 47 (by decide)]; exact e47) (fun j hj => by rw [k2.2 48 (by decide), k1.2 48 (by decide), kV.2 48 (by decide), k2.2 49 (by decide), k1.2 49 (by decide), kV.2 49 (by decide)]; exact hring j hj) (fun b hb i hi => by rw [h2 b hb i hi, k2.2 18 (by decide), k2.2 19 (by decide)])
  obtain ⟨T4, e4, k4, t1, h4, h5⟩ := gaB (V := T3) hn (by rw [k3.2 52 (by decide), k2.2 52 (by decide), k1.2 52 (by decide)]; exact v1) (by rw [k3.2 52 (by decide), k2.2 52 (by decide), k1.2 52 (by decide)]; exact v0) (fun i hi => by rw [k3.2 55 (by decide), k2.2 55 (by decide)]; exact h1 i hi)
  have es : ∀ k, k ∉ [52, 53, 55] → T2.1 k = S.1 k := fun k hk => by
    rw [k2.2 k (fun z => hk (by simp only [List.mem_cons, List.not_mem_nil, or_false] at z ⊢; omega)), k1.2 k (fun z => hk (by simp only [List.mem_cons, List.not_mem_nil, or_false] at z ⊢; omega)), kV.2 k (fun z => hk (by simp only [List.mem_cons, List.not_mem_nil, or_false] at z ⊢; omega))]
  rw [es 18 (by decide), es 19 (by decide), es 48 (by decide), es 49 (by decide), es 50 (by decide), es 51 (by decide)] at h3
  refine ⟨T3.1 53, T4, by rw [e1, e2, e3, e4], kp_trans (kp_trans (kp_in kV (by decide)) (kp_in k1 (by decide))) (kp_trans (kp_trans (kp_in k2 (by decide)) (kp_in k3 (by decide))) (kp_in k4 (by decide))), t1, h3, h4, h5⟩
