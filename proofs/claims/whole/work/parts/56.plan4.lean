/-! ===== plan: the reference; the pair ===== -/
theorem zRel_lie {Sx Sm T U : zS} (h : zRel Sx Sm) (hk : kp [0, 66, 11, 12, 40, 41, 42, 52, 53, 54, 55, 56, 57, 58, 59, 60, 61, 62, 63, 64, 65] Sx T) (hx : ∀ i, i ≠ 15 → T.1 0 i = Sx.1 0 i) (hm : kp [0, 8, 9, 20, 22, 23, 24, 25, 26, 27, 33, 34, 35] Sm U) (h0 : ∀ i, i ≠ 60 → i ≠ 65 → i ≠ 66 → U.1 0 i = Sm.1 0 i) (hL : rL (T.1 0 15) (U.1 0 60) (T.1 66) (U.1 23)) : zRel T U := by
  obtain ⟨a1, a2, -, a4, a5, a6, a7, st, pl, tp, pa, hH, hA, hI⟩ := h
  have g : ∀ i, i < 60 ∨ 66 < i → U.1 0 i = Sm.1 0 i := fun i hi => h0 i (by omega) (by omega) (by omega)
  refine ⟨?_, ?_, hL, ?_, ?_, ?_, ?_, st, pl, tp, pa, ?_, ?_, ?_⟩
  · rw [hx 1 (by decide), hk.2 1 (by decide), g 1 (by omega), hm.2 1 (by decide)]; exact a1
  · rw [hk.2 2 (by decide), g 2 (by omega), g 3 (by omega)]; exact a2
  · rw [hk.2 47 (by decide), hk.2 48 (by decide), hk.2 49 (by decide), hk.2 50 (by decide), hk.2 51 (by decide), g 72 (by omega), g 73 (by omega), hm.2 28 (by decide), hm.2 29 (by decide), hm.2 30 (by decide), hm.2 31 (by decide), hm.2 32 (by decide)]; exact a4
  · rw [hk.2 9 (by decide), hk.2 10 (by decide), g 21 (by omega), g 18 (by omega), g 52 (by omega), hm.2 5 (by decide), hm.2 6 (by decide)]; exact a5
  · rw [hk.1]; exact a6
  · rw [hk.2 14 (by decide), hk.2 30 (by decide)]; exact a7
  · rw [hk.2 5 (by decide), hk.2 6 (by decide), hk.2 7 (by decide), hk.2 8 (by decide), g 42 (by omega), g 43 (by omega), g 44 (by omega), g 45 (by omega), g 46 (by omega), g 47 (by omega), hm.2 11 (by decide), hm.2 14 (by decide), hm.2 15 (by decide), hm.2 17 (by decide)]; exact hH
  · rw [hk.2 37 (by decide), hk.2 38 (by decide), hk.2 39 (by decide), hk.2 14 (by decide), hk.2 15 (by decide), hk.2 16 (by decide), hk.2 17 (by decide), hk.2 18 (by decide), hk.2 19 (by decide), hk.2 20 (by decide), hk.2 43 (by decide), hk.2 44 (by decide), hm.2 19 (by decide), hm.2 21 (by decide), g 56 (by omega), g 57 (by omega)]; exact hA
  · rw [hk.2 45 (by decide), hk.2 46 (by decide), hm.2 36 (by decide), hm.2 37 (by decide)]; exact hI
theorem sI_m1 (k : Nat) : nI k + (-1) = sI k := by
  rw [← sI_sub, Int32.sub_eq_add_neg]
theorem sI_neg (i : Nat) (h : i < 1000) : sI i < 0 ↔ i = 0 := by
  cases i with
  | zero => simp only [iff_true]; decide
  | succ i =>
    show nI i < 0 ↔ _
    have := nI_not_neg (n := i) (by omega)
    simp [this]
theorem cutsL {st : Nat} (hst : st ≤ 12) : ∀ (k q v : Nat) (S : zS), k ≤ 3 → k < q → v < 2 ^ 31 → S.1 0 42 = nI st → ∃ T, f_X12_layCuts_L7 q (nI v) (sI k) S = some T ∧ kp [22] S T ∧ (∀ j, j < k → T.1 22 j = sI (tr (pl_ st k v) j)) ∧ ∀ j, k ≤ j → T.1 22 j = S.1 22 j := by
  intro k
  induction k with
  | zero =>
    intro q v S _ hq hv e
    obtain ⟨q, rfl⟩ : ∃ k, q = k + 1 := ⟨q - 1, by omega⟩
    refine ⟨S, ?_, kp_rfl _ _, fun j hj => absurd hj (by omega), fun _ _ => rfl⟩
    rw [f_X12_layCuts_L7, if_pos (show sI 0 < 0 by decide)]
  | succ k ih =>
    intro q v S hk hq hv e
    obtain ⟨q, rfl⟩ : ∃ k, q = k + 1 := ⟨q - 1, by omega⟩
    have e1 : S.1 0 42 + 1 = nI (st + 1) := by rw [e, nI_1]
    have hne : ¬ nI (st + 1) = 0 := fun z => by
      have := (nI_eq (a := st + 1) (b := 0) (by omega) (by omega)).mp z
      omega
    have hvd : v / (st + 1) < 2 ^ 31 := Nat.lt_of_le_of_lt (Nat.div_le_self _ _) hv
    obtain ⟨T, eT, kT, h1, h2⟩ := ih q (v / (st + 1)) (zput S 22 k (sI (v % (st + 1)))) (by omega) (by omega) hvd (by rw [zput1_ne _ _ _ _ _ (by decide)]; exact e)
    refine ⟨T, ?_, kp_trans (kp_put (by decide)) kT, fun j hj => ?_, fun j hj => ?_⟩
    · show f_X12_layCuts_L7 (q + 1) (nI v) (nI k) S = _
      rw [f_X12_layCuts_L7, if_neg (nI_not_neg (by omega)), e1, if_pos hne, if_pos (zinN (by omega) (by omega)), zlet_def, zput1_ne _ _ _ _ _ (show (0 : Nat) ≠ 22 by decide), e1, if_pos hne, zlet_def, zlet_def, nI_clamp (by omega), pk_div hv (by omega) (by omega), sI_m1]
      rw [show zrem (nI v) (nI (st + 1)) = nI (v % (st + 1)) from pk_rem hv (by omega) (by omega), sI_sub]
      exact eT
    · by_cases hjk : j = k
      · subst hjk
        rw [h2 j (Nat.le_refl _), zput1_eq, upd_at]
        show _ = sI (tr (v % (st + 1) :: pl_ st j (v / (st + 1))) j)
        have := tr_at (pl_ st j (v / (st + 1))) (v % (st + 1))
        rw [pl_len] at this
        rw [this]
      · rw [h1 j (by omega)]
        show _ = sI (tr (v % (st + 1) :: pl_ st k (v / (st + 1))) j)
        rw [tr_lt (by rw [pl_len]; omega)]
    · rw [h2 j (by omega), zput1_eq, upd_ne _ _ _ _ (by omega)]
/-- the first k cuts of a row -/
def pf (p : List Nat) (k : Nat) : List Nat := p.drop (p.length - k)
theorem pf_0 (p : List Nat) : pf p 0 = [] := by
  unfold pf
  rw [Nat.sub_zero, List.drop_length]
theorem pf_all (p : List Nat) : pf p p.length = p := by
  unfold pf
  rw [Nat.sub_self]
  rfl
theorem pf_s {p : List Nat} {k : Nat} (h : k < p.length) : pf p (k + 1) = tr p k :: pf p k := by
  unfold pf tr
  rw [show p.length - 1 - k = p.length - (k + 1) by omega, List.drop_eq_getElem_cons (show p.length - (k + 1) < p.length by omega), List.getD_eq_getElem?_getD, List.getElem?_eq_getElem (show p.length - (k + 1) < p.length by omega), show p.length - (k + 1) + 1 = p.length - k by omega]
  rfl
theorem tr_in {st y v j : Nat} : tr (pl_ st y v) j < st + 1 := by
  unfold tr
  have : ∀ (y v i : Nat), (pl_ st y v).getD i 0 < st + 1 := by
    intro y
    induction y with
    | zero => intro v i; show ([] : List Nat).getD i 0 < _; simp
    | succ y ih =>
      intro v i
      cases i with
      | zero => show v % (st + 1) < st + 1; exact Nat.mod_lt _ (by omega)
      | succ i => exact ih (v / (st + 1)) i
  exact this y v _
theorem cutsM {S : zS} {p : List Nat} (hy : p.length ≤ 3) (hs : ∀ j, j < p.length → tr p j < 100) (h22 : ∀ k, k < p.length → S.1 22 k = sI (tr p k)) : f_X12_cutsOf (nI p.length) S = some (nI (cts p), S) := by
  unfold f_X12_cutsOf
  have := loopI (f := fun q (a : Int32) k => f_X12_cutsOf_L4 q (nI p.length) a (nI k) S) (fun k a => a = nI (cts (pf p k))) (fun o => o = some (nI (cts p), S)) (c := p.length) ?_ ?_ p.length 0 zN 0 (by omega) (by show p.length < 10000; omega) (by rw [pf_0]; rfl)
  · exact this
  · rintro q a k hk rfl
    refine ⟨nI (cts (pf p (k + 1))), ?_, rfl⟩
    show f_X12_cutsOf_L4 (q + 1) (nI p.length) _ (nI k) S = f_X12_cutsOf_L4 q (nI p.length) _ (nI (k + 1)) S
    rw [f_X12_cutsOf_L4, if_pos (nI_lt hk (by omega)), if_pos (zinN (by omega) (by omega)), nI_clamp (by omega), h22 k hk, pf_s hk]
    unfold f_X12_cutsOf_B24
    show _ = f_X12_cutsOf_L4 q (nI p.length) (nI (cts (pf p k) + if tr p k = 0 then 0 else 1)) (nI (k + 1)) S
    have hn := sI_neg (tr p k) (by have := hs k hk; omega)
    by_cases h0 : tr p k = 0
    · rw [if_pos (hn.mpr h0), truth0, zb_def, zlet_def, zlet_def, nI_1, if_pos h0]
      show f_X12_cutsOf_L4 q (nI p.length) (nI (cts (pf p k)) + nI 0) _ S = _
      rw [nI_add]
    · rw [if_neg (fun z => h0 (hn.mp z)), truth1, zb_def, zlet_def, zlet_def, nI_1, nI_1, if_neg h0]
  · rintro q a rfl
    show f_X12_cutsOf_L4 (q + 1) (nI p.length) _ (nI p.length) S = _
    rw [f_X12_cutsOf_L4, if_neg (nI_nlt (Nat.le_refl _) (by omega)), pf_all]
theorem goM {st pl tp c hb : Nat} {Sx Sm U : zS} {n : Int32} {N : Nat → Int32} (hE : pE st pl c hb Sx Sm) (hn : isI 1 99 n) (hU : kp [8, 9, 20, 22, 23] Sm U) (e : eqv c (U.1 20) N) (hS : pS st pl tp c (Sm.1 19) N) : ∃ U2 r, f_X12_goYear U = some (r, U2) ∧ kp [8, 9, 20] U U2 ∧ eqv c (U2.1 20) (nxt Sm n (-1) N) := by
  have hS' := pS_eqv hS e
  obtain ⟨U1, e1, k1, e2⟩ := trim_idle (U := U) hn hS' (no_m1 hS' hE.1)
  have : U1 = U := by
    refine Prod.ext (funext fun k => ?_) k1.1
    by_cases hk : k = 20
    · subst hk; exact e2
    · exact k1.2 k (by simpa using hk)
  subst this
  obtain ⟨U2, U3, r, e3, e4, k4, q4⟩ := nxtM hE hn hU e hS (-1)
  rw [e1] at e3
  cases e3
  exact ⟨U3, r, e4, k4, q4⟩
theorem standM {st pl tp c hb : Nat} {Sx Sm S : zS} {n : Int32} {p : List Nat} (hE : pE st pl c hb Sx Sm) (hn : isI 1 99 n) (hS : pS st pl tp c (Sm.1 19) (Sm.1 19)) (hU : kp [8, 9, 20, 22, 23] Sm S) (hy : p.length ≤ 3) (hs : ∀ j, j < p.length → tr p j < 100) (h22 : ∀ k, k < p.length → S.1 22 k = sI (tr p k)) : ∃ T, f_X12_standBy (nI p.length) n S = some (nI (vlS c (pth Sm n (Sm.1 19) p)), T) ∧ kp [8, 9, 20] S T := by
  have hc := hS.1.1
  unfold f_X12_standBy
  rw [loadM, zu_def]
  have kz : kp [8, 9, 20] S (zld S 0) := kp_in (kp_zld S) (by decide)
  refine loopI (f := fun q (V : zS) k => f_X12_standBy_L6 q (nI p.length) n (nI k) V) (fun k V => kp [8, 9, 20] S V ∧ eqv c (V.1 20) (pth Sm n (Sm.1 19) (pf p k))) (fun o => ∃ T, o = some (nI (vlS c (pth Sm n (Sm.1 19) p)), T) ∧ kp [8, 9, 20] S T) (c := p.length) ?_ ?_ p.length 0 zN (zld S 0) (by omega) (by show p.length < 10000; omega) ⟨kz, ?_⟩
  · rintro q V k hk ⟨kV, eV⟩
    have kSV : kp [8, 9, 20, 22, 23] Sm V := kp_trans hU (kp_in kV (by decide))
    have hP := pth_pS hE hn hS (pf p k)
    have hstep : ∃ V1, f_X12_standBy_L6 (q + 1) (nI p.length) n (nI k) V = f_X12_standBy_L6 q (nI p.length) n (nI (k + 1)) V1 ∧ kp [8, 9, 20] V V1 ∧ eqv c (V1.1 20) (nxt Sm n (sI (tr p k)) (pth Sm n (Sm.1 19) (pf p k))) := by
      have h22' : V.1 22 k = sI (tr p k) := by rw [kV.2 22 (by decide)]; exact h22 k hk
      have hng := sI_neg (tr p k) (by have := hs k hk; omega)
      by_cases h0 : tr p k = 0
      · obtain ⟨U2, r, e1, k1, q1⟩ := goM hE hn kSV eV hP
        refine ⟨U2, ?_, k1, by rw [h0]; exact q1⟩
        rw [f_X12_standBy_L6, if_pos (nI_lt hk (by omega)), if_pos (zinN (by omega) (by omega))]
        simp only [nI_clamp (show k < 2 ^ 31 by omega), h22']
        rw [if_pos (hng.mpr h0)]
        unfold f_X12_standBy_B31
        rw [e1, zb_def, zlet_def, nI_1]
      · obtain ⟨U1, U2, r, e1, e2, k2, q2⟩ := nxtM hE hn kSV eV hP (sI (tr p k))
        refine ⟨U2, ?_, k2, q2⟩
        rw [f_X12_standBy_L6, if_pos (nI_lt hk (by omega)), if_pos (zinN (by omega) (by omega))]
        simp only [nI_clamp (show k < 2 ^ 31 by omega), h22']
        rw [if_neg (fun z => h0 (hng.mp z)), if_pos (zinN (by omega) (by omega)), e1, zu_def]
        unfold f_X12_standBy_B31
        rw [e2, zb_def, zlet_def, nI_1]
    obtain ⟨V1, e1, k1, q1⟩ := hstep
    exact ⟨V1, e1, kp_trans kV k1, by rw [pf_s hk]; exact q1⟩
  · rintro q V ⟨kV, eV⟩
    rw [pf_all] at eV
    have e96 : V.1 20 96 = nI c := (eV 96 (by omega)).trans (pth_pS hE hn hS p).1.2.1
    refine ⟨V, ?_, kV⟩
    show f_X12_standBy_L6 (q + 1) (nI p.length) n (nI p.length) V = _
    rw [f_X12_standBy_L6, if_neg (nI_nlt (Nat.le_refl _) (by omega)), stdM hc e96, zb_def, memM, zb_def, memF_cnt, eqv_std eV]
    rfl
  · rw [pf_0]
    intro i hi
    rw [zld_at S (by omega), hU.2 19 (by decide)]
    rfl
theorem laysM {y : Nat} {S : zS} (hy : y ≤ 3) {n x3 x4 x5 : Int32} {v : Nat} (K : Int32 → Int32 → Int32 → Int32 → Int32 → Int32 → zS → Option (Int32 × zS)) : ∃ T, f_X12_plan_L123 K zN (nI y) n x3 x4 x5 (nI v) 0 S = K (nI y) n x3 x4 x5 (nI (v + 1)) T ∧ kp [23] S T ∧ ∀ k, k < y → T.1 23 k = S.1 22 k := by
  refine loopI (f := fun q (V : zS) k => f_X12_plan_L123 K q (nI y) n x3 x4 x5 (nI v) (nI k) V) (fun k V => kp [23] S V ∧ ∀ j, j < k → V.1 23 j = S.1 22 j) (fun o => ∃ T, o = K (nI y) n x3 x4 x5 (nI (v + 1)) T ∧ kp [23] S T ∧ ∀ k, k < y → T.1 23 k = S.1 22 k) (c := y) ?_ ?_ y 0 zN S (by omega) (by show y < 10000; omega) ⟨kp_rfl _ _, fun j hj => absurd hj (by omega)⟩
  · rintro q V k hk ⟨kV, hV⟩
    refine ⟨zput V 23 k (V.1 22 k), ?_, kp_trans kV (kp_put (by decide)), fun j hj => ?_⟩
    · rw [f_X12_plan_L123, if_pos (nI_lt hk (by omega)), if_pos (zinN (by omega) (by omega)), if_pos (zinN (by omega) (by omega)), zlet_def, zlet_def, nI_1, nI_clamp (by omega)]
    · rw [zput1_eq]
      by_cases hjk : j = k
      · subst hjk
        rw [upd_at, kV.2 22 (by decide)]
      · rw [upd_ne _ _ _ _ hjk]
        exact hV j (by omega)
  · rintro q V ⟨kV, hV⟩
    refine ⟨V, ?_, kV, hV⟩
    show f_X12_plan_L123 K (q + 1) (nI y) n x3 x4 x5 (nI v) (nI y) V = _
    rw [f_X12_plan_L123, if_neg (nI_nlt (Nat.le_refl _) (by omega)), zlet_def, nI_1]
theorem planM {st pl tp c hb y : Nat} {Sx Sm : zS} {n : Int32} (hE : pE st pl c hb Sx Sm) (hn : isI 1 99 n) (hS : pS st pl tp c (Sm.1 19) (Sm.1 19)) (hy : y ≤ 3) (hB : (st + 1) ^ y ≤ 2197) : ∃ T, f_X12_plan_L61 zN (nI y) n (nI ((st + 1) ^ y)) (-1) 0 0 Sm = some (eM (pF st (fun p => vlS c (pth Sm n (Sm.1 19) p)) y [] none), zput T 0 60 (nI y)) ∧ kp [8, 9, 20, 22, 23] Sm T ∧ okB y (pF st (fun p => vlS c (pth Sm n (Sm.1 19) p)) y [] none) ∧ chB (T.1 23) (pF st (fun p => vlS c (pth Sm n (Sm.1 19) p)) y [] none) := by
  have hst := hE.1
  have hall := pF_rows (st := st) (val := fun p => vlS c (pth Sm n (Sm.1 19) p)) y 0 0 none
  rw [show pl_ st 0 0 = [] from rfl] at hall
  rw [hall]
  simp only [Nat.zero_mul, Nat.zero_add]
  refine loopI (f := fun q (a : Int32 × Int32 × zS) v => f_X12_plan_L61 q (nI y) n (nI ((st + 1) ^ y)) a.1 a.2.1 (nI v) a.2.2) (fun v a => kp [8, 9, 20, 22, 23] Sm a.2.2 ∧ a.1 = eM (foldN (fun b j => pJ (vlS c (pth Sm n (Sm.1 19) (pl_ st y j))) (cts (pl_ st y j)) (pl_ st y j) b) 0 v none) ∧ a.2.1 = eF (foldN (fun b j => pJ (vlS c (pth Sm n (Sm.1 19) (pl_ st y j))) (cts (pl_ st y j)) (pl_ st y j) b) 0 v none) ∧ okB y (foldN (fun b j => pJ (vlS c (pth Sm n (Sm.1 19) (pl_ st y j))) (cts (pl_ st y j)) (pl_ st y j) b) 0 v none) ∧ chB (a.2.2.1 23) (foldN (fun b j => pJ (vlS c (pth Sm n (Sm.1 19) (pl_ st y j))) (cts (pl_ st y j)) (pl_ st y j) b) 0 v none))
    (fun o => ∃ T, o = some (eM (foldN (fun b j => pJ (vlS c (pth Sm n (Sm.1 19) (pl_ st y j))) (cts (pl_ st y j)) (pl_ st y j) b) 0 ((st + 1) ^ y) none), zput T 0 60 (nI y)) ∧ kp [8, 9, 20, 22, 23] Sm T ∧ okB y (foldN (fun b j => pJ (vlS c (pth Sm n (Sm.1 19) (pl_ st y j))) (cts (pl_ st y j)) (pl_ st y j) b) 0 ((st + 1) ^ y) none) ∧ chB (T.1 23) (foldN (fun b j => pJ (vlS c (pth Sm n (Sm.1 19) (pl_ st y j))) (cts (pl_ st y j)) (pl_ st y j) b) 0 ((st + 1) ^ y) none)) (c := (st + 1) ^ y) ?_ ?_ ((st + 1) ^ y) 0 zN (-1, 0, Sm) (by omega) (by show (st + 1) ^ y < 10000; omega) ⟨kp_rfl _ _, rfl, rfl, trivial, trivial⟩
  · rintro q ⟨x4, x5, V⟩ v hv ⟨kV, e4, e5, hok, hch⟩
    dsimp only at kV e4 e5 hch ⊢
    rw [foldN_snoc, Nat.zero_add]
    generalize foldN (fun b j => pJ (vlS c (pth Sm n (Sm.1 19) (pl_ st y j))) (cts (pl_ st y j)) (pl_ st y j) b) 0 v none = b at e4 e5 hok hch ⊢
    have hlen : (pl_ st y v).length = y := pl_len st y v
    have hV42 : V.1 0 42 = nI st := by rw [kV.2 0 (by decide)]; exact hE.2.2.2.2.2.2.2.2.2.1
    obtain ⟨T1, e1, k1, h1, -⟩ := cutsL hst y zN v V hy (by show y < 10000; omega) (by omega) hV42
    have kT1 : kp [8, 9, 20, 22, 23] Sm T1 := kp_trans kV (kp_in k1 (by decide))
    have hs : ∀ j, j < (pl_ st y v).length → tr (pl_ st y v) j < 100 := fun j _ => by have := tr_in (st := st) (y := y) (v := v) (j := j); omega
    obtain ⟨T2, e2, k2⟩ := standM (p := pl_ st y v) hE hn hS kT1 (by omega) hs (fun k hk => h1 k (by omega))
    rw [hlen] at e2
    have h22 : ∀ k, k < (pl_ st y v).length → T2.1 22 k = sI (tr (pl_ st y v) k) := fun k hk => by rw [k2.2 22 (by decide)]; exact h1 k (by omega)
    have hcut := cutsM (S := T2) (p := pl_ st y v) (by omega) hs h22
    rw [hlen] at hcut
    have kT2 : kp [8, 9, 20, 22, 23] Sm T2 := kp_trans kT1 (kp_in k2 (by decide))
    have T223 : T2.1 23 = V.1 23 := (k2.2 23 (by decide)).trans (k1.2 23 (by decide))
    have ho : vlS c (pth Sm n (Sm.1 19) (pl_ st y v)) ≤ 12 := cntS_le _
    have ht : cts (pl_ st y v) ≤ 3 := by have := cts_le (pl_ st y v); omega
    have e0 : f_X12_plan_L61 (q + 1) (nI y) n (nI ((st + 1) ^ y)) x4 x5 (nI v) V = if pBet (vlS c (pth Sm n (Sm.1 19) (pl_ st y v))) (cts (pl_ st y v)) b = true then f_X12_plan_B109 (f_X12_plan_L61 q) (nI y) n (nI ((st + 1) ^ y)) (nI v) (nI (vlS c (pth Sm n (Sm.1 19) (pl_ st y v)))) T2 else f_X12_plan_L61 q (nI y) n (nI ((st + 1) ^ y)) x4 x5 (nI (v + 1)) T2 := by
      rw [f_X12_plan_L61, if_pos (nI_lt hv (by omega))]
      unfold f_X12_layCuts
      rw [zlet_def, show nI y - 1 = sI y from sI_sub y, e1, zu_def, e2, zb_def, e4, e5]
      generalize vlS c (pth Sm n (Sm.1 19) (pl_ st y v)) = o at ho ⊢
      match b, hok with
      | none, _ =>
        rw [show eM none = -1 from rfl, if_neg ?_, if_neg (nI_neg1 (by omega))]
        · rfl
        · rw [Int32.lt_iff_toInt_lt, nI_toInt (by omega)]
          show ¬ (o : Int) < -1
          omega
      | some (m, f, p), ⟨g1, g2, g3⟩ =>
        rw [show eM (some (m, f, p)) = nI m from rfl, show eF (some (m, f, p)) = nI f from rfl]
        simp only [pBet, nI_ltI (show o < 2 ^ 31 by omega) (show m < 2 ^ 31 by omega), nI_eq (show o < 2 ^ 31 by omega) (show m < 2 ^ 31 by omega), zlet_def, nI_1]
        by_cases q1 : o < m
        · have q2 : ¬ m < o := by omega
          have q3 : ¬ o = m := by omega
          simp [q1, q2, q3]
        · by_cases q2 : o = m
          · rw [hcut, zb_def]
            by_cases q3 : cts (pl_ st y v) < f
            · have := nI_lt q3 (show f < 2 ^ 31 by omega)
              simp [q2, q3, this]
            · have := nI_nlt (show f ≤ cts (pl_ st y v) by omega) (show cts (pl_ st y v) < 2 ^ 31 by omega)
              simp [q2, q3, this]
          · have q3 : m < o := by omega
            simp [q1, q2, q3]
    by_cases hbt : pBet (vlS c (pth Sm n (Sm.1 19) (pl_ st y v))) (cts (pl_ st y v)) b = true
    · rw [if_pos hbt] at e0
      obtain ⟨T3, e3, k3, h3⟩ := laysM (y := y) (S := T2) (v := v) hy (n := n) (x3 := nI ((st + 1) ^ y)) (x4 := nI (vlS c (pth Sm n (Sm.1 19) (pl_ st y v)))) (x5 := nI (cts (pl_ st y v))) (f_X12_plan_L61 q)
      unfold f_X12_plan_B109 at e0
      rw [hcut, zb_def, e3] at e0
      refine ⟨(nI (vlS c (pth Sm n (Sm.1 19) (pl_ st y v))), nI (cts (pl_ st y v)), T3), e0, kp_trans kT2 (kp_in k3 (by decide)), ?_, ?_, ?_, ?_⟩
      · unfold pJ; rw [if_pos hbt]; rfl
      · unfold pJ; rw [if_pos hbt]; rfl
      · unfold pJ; rw [if_pos hbt]; exact ⟨ho, ht, hlen⟩
      · unfold pJ; rw [if_pos hbt]
        intro k hk
        exact (h3 k (by omega)).trans (h22 k hk)
    · rw [if_neg hbt] at e0
      refine ⟨(x4, x5, T2), e0, kT2, ?_, ?_, ?_, ?_⟩
      · unfold pJ; rw [if_neg hbt]; exact e4
      · unfold pJ; rw [if_neg hbt]; exact e5
      · unfold pJ; rw [if_neg hbt]; exact hok
      · unfold pJ; rw [if_neg hbt]
        show chB (T2.1 23) b
        rw [T223]; exact hch
  · rintro q ⟨x4, x5, V⟩ ⟨kV, e4, e5, hok, hch⟩
    dsimp only at kV e4 e5 hch ⊢
    refine ⟨V, ?_, kV, hok, hch⟩
    rw [f_X12_plan_L61, if_neg (nI_nlt (Nat.le_refl _) (by omega)), zlet_def, e4]
