/-! ===== plan: both sides ===== -/
def pth (Sm : zS) (n : Int32) (N : Nat → Int32) : List Nat → Nat → Int32
  | [] => N
  | i :: p => nxt Sm n (sI i) (pth Sm n N p)
def vlS (c : Nat) (N : Nat → Int32) : Nat := cntS (stdN N c)
def lvS (c : Nat) (N : Nat → Int32) : Nat := cntS (mkS (liv N) c)
theorem pth_pS {st pl tp c hb : Nat} {Sx Sm : zS} {n : Int32} {N : Nat → Int32} (hE : pE st pl c hb Sx Sm) (hn : isI 1 99 n) (hS : pS st pl tp c (Sm.1 19) N) : ∀ p, pS st pl tp c (Sm.1 19) (pth Sm n N p)
  | [] => hS
  | i :: p => pS_nxt hE hn (pth_pS hE hn hS p) (sI i)
theorem eqv_liv {c : Nat} {N N' : Nat → Int32} (e : eqv c N N') : ∀ b, b < c → liv N b = liv N' b := fun b hb => by
  unfold liv
  rw [e (8 * b) (by omega)]
theorem eqv_std {c : Nat} {N N' : Nat → Int32} (e : eqv c N N') : stdN N c = stdN N' c := stdS_congr (eqv_liv e) (fun b hb => e _ (by omega)) (fun b hb => e _ (by omega))
theorem vl_lv {c : Nat} (hc : c ≤ 12) (N : Nat → Int32) : vlS c N ≤ lvS c N := cntS_mono fun i hi h => std_sub _ _ _ hc i (by omega) h
theorem lv_nxt {st pl tp c hb : Nat} {Sx Sm : zS} {n : Int32} {N : Nat → Int32} (hE : pE st pl c hb Sx Sm) (hn : isI 1 99 n) (hS : pS st pl tp c (Sm.1 19) N) (s : Int32) : lvS c (nxt Sm n s N) ≤ lvS c N := cntS_mono fun i hi h => by
  have hc := hS.1.1
  rw [bt_mkS _ (by omega) c (by omega)] at h ⊢
  simp only [Bool.and_eq_true, decide_eq_true_eq] at h ⊢
  refine ⟨h.1, ?_⟩
  have hl := h.2
  cases hq : liv N i with
  | true => rfl
  | false =>
    have e0 : N (8 * i) = 0 := by
      obtain ⟨v, h1, h2, h3⟩ := (hS.1.2.2 i h.1).1
      unfold liv at hq
      rw [h3] at hq ⊢
      simp only [decide_eq_false_iff_not, Int32.lt_iff_toInt_lt, Int32.toInt_ofInt_of_le (show -2147483648 ≤ v by omega) (show v < 2147483648 by omega), i0] at hq
      rw [show v = 0 by omega]
      rfl
    have := nxt_dead hE hn hS s (by omega) e0
    unfold liv at hl
    rw [this] at hl
    simp at hl
/-- a stake at which none lives -/
theorem nxt_idle {st pl tp c hb : Nat} {Sx Sm : zS} {n s : Int32} {N : Nat → Int32} (hE : pE st pl c hb Sx Sm) (hn : isI 1 99 n) (hS : pS st pl tp c (Sm.1 19) N) (hid : ∀ b, b < c → N (8 * b + 2) = s → N (8 * b) = 0) : ∃ r U2, f_X12_goYear (cM Sm N) = some (r, U2) ∧ nxt Sm n s N = U2.1 20 := by
  obtain ⟨U1, e1, k1, e2⟩ := trim_idle (U := cM Sm N) hn hS hid
  have : U1 = cM Sm N := by
    refine Prod.ext (funext fun k => ?_) k1.1
    by_cases hk : k = 20
    · subst hk; exact e2
    · exact k1.2 k (by simpa using hk)
  subst this
  obtain ⟨U1, U2, r, e3, e4, -, -⟩ := nxtM (U := cM Sm N) hE hn (kp_in (cM_kp Sm N) (by decide)) (eqv_rfl c N) hS s
  rw [e1] at e3
  cases e3
  exact ⟨r, U2, e4, nxt_eq e1 e4⟩
theorem no_m1 {st pl tp c : Nat} {F N : Nat → Int32} (hS : pS st pl tp c F N) (hst : st ≤ 12) : ∀ b, b < c → N (8 * b + 2) = -1 → N (8 * b) = 0 := fun b hb h => by
  obtain ⟨s, hs, e⟩ := (hS.1.2.2 b hb).2.1
  rw [e] at h
  exact absurd h (nI_neg1 (by omega))
/-- rows that are alike in all but the number of cuts -/
theorem pD_like {st pl tp c hb : Nat} {Sx Sm : zS} {n : Int32} {N : Nat → Int32} (hE : pE st pl c hb Sx Sm) (hn : isI 1 99 n) (hS : pS st pl tp c (Sm.1 19) N) : ∀ (r : Nat) (p p' : List Nat) (b : pB), eqv c (pth Sm n N p') (pth Sm n N p) → cts p ≤ cts p' → pD st (fun p => vlS c (pth Sm n N p)) r p b → pD st (fun p => vlS c (pth Sm n N p)) r p' b
  | 0, p, p', b, e, ht, h => by
    refine pBet_anti ?_ ht h
    show cntS (stdN (pth Sm n N p') c) ≤ cntS (stdN (pth Sm n N p) c)
    rw [eqv_std e]
    exact Nat.le_refl _
  | r + 1, p, p', b, e, ht, h => fun i hi => pD_like hE hn hS r (i :: p) (i :: p') b (nxt_eqv hE hn (pth_pS hE hn hS p) e (sI i)) (by show cts p + _ ≤ cts p' + _; omega) (h i hi)
/-! the class -/
def tr (p : List Nat) (k : Nat) : Nat := p.getD (p.length - 1 - k) 0
theorem tr_lt {p : List Nat} {i k : Nat} (h : k < p.length) : tr (i :: p) k = tr p k := by
  unfold tr
  rw [List.length_cons, show p.length + 1 - 1 - k = (p.length - 1 - k) + 1 by omega, List.getD_cons_succ]
theorem tr_at (p : List Nat) (i : Nat) : tr (i :: p) p.length = i := by
  unfold tr
  rw [List.length_cons, show p.length + 1 - 1 - p.length = 0 by omega, List.getD_cons_zero]
def eM : pB → Int32
  | none => -1
  | some (m, _, _) => nI m
def eF : pB → Int32
  | none => 0
  | some (_, f, _) => nI f
def okB (y : Nat) : pB → Prop
  | none => True
  | some (m, f, p) => m ≤ 12 ∧ f ≤ 3 ∧ p.length = y
def chB (X : Nat → Int32) : pB → Prop
  | none => True
  | some (_, _, p) => ∀ k, k < p.length → X k = sI (tr p k)
theorem betX {S : zS} {o t : Nat} {b : pB} (ho : o ≤ 12) (ht : t ≤ 3) {y : Nat} (hb : okB y b) (e2 : S.1 56 2 = eM b) (e3 : S.1 56 3 = eF b) : f_X9_isBetter_56 (nI o) (nI t) S = some (if pBet o t b then 1 else 0, S) := by
  unfold f_X9_isBetter_56
  rw [e2, e3]
  match b, hb with
  | none, _ =>
    rw [show eM none = -1 from rfl, if_pos ?_]
    · rfl
    · rw [Int32.lt_iff_toInt_lt, nI_toInt (by omega)]
      show (-1 : Int) < _
      omega
  | some (m, f, p), ⟨h1, h2, h3⟩ =>
    have g1 : eM (some (m, f, p)) = nI m := rfl
    have g2 : eF (some (m, f, p)) = nI f := rfl
    rw [g1, g2]
    simp only [pBet, nI_ltI (show m < 2 ^ 31 by omega) (show o < 2 ^ 31 by omega), nI_ltI (show t < 2 ^ 31 by omega) (show f < 2 ^ 31 by omega), nI_eq (show o < 2 ^ 31 by omega) (show m < 2 ^ 31 by omega)]
    by_cases q1 : m < o
    · simp [q1]
    · by_cases q2 : o = m
      · by_cases q3 : t < f
        · simp [q1, q2, q3]
        · simp [q1, q2, q3]
      · simp [q1, q2]
theorem judgeX {S : zS} {o t y : Nat} {p : List Nat} {b : pB} (ho : o ≤ 12) (ht : t ≤ 3) (hp : p.length = y) (hy : y ≤ 3) (hb : okB y b) (e2 : S.1 56 2 = eM b) (e3 : S.1 56 3 = eF b) (hch : chB (S.1 58) b) (h57 : ∀ k, k < y → S.1 57 k = sI (tr p k)) : ∃ T, f_X9_judge_56 (nI o) (nI t) S = some T ∧ kp [56, 58] S T ∧ T.1 56 0 = S.1 56 0 ∧ T.1 56 1 = S.1 56 1 ∧ T.1 56 2 = eM (pJ o t p b) ∧ T.1 56 3 = eF (pJ o t p b) ∧ okB y (pJ o t p b) ∧ chB (T.1 58) (pJ o t p b) := by
  unfold f_X9_judge_56
  rw [betX ho ht hb e2 e3, zb_def, z01]
  unfold pJ
  by_cases h : pBet o t b = true
  · rw [if_pos h, if_pos h, zlet_def, zlet_def, if_pos (by decide), zlet_def]
    refine ⟨_, rfl, kp_trans (kp_trans (kp_put (by decide)) (kp_put (by decide))) (kp_cpy (by decide)), rfl, rfl, rfl, rfl, ⟨ho, ht, hp⟩, fun k hk => ?_⟩
    rw [zcpy_s, show Int32.toNatClampNeg 0 = 0 from rfl, show Int32.toNatClampNeg 3 = 3 from rfl, pk_cpy_in (by omega) (by omega), zput1_ne _ _ _ _ _ (by decide), zput1_ne _ _ _ _ _ (by decide), show 0 + (k - 0) = k by omega]
    exact h57 k (by omega)
  · rw [if_neg h, if_neg h]
    exact ⟨S, rfl, kp_rfl _ _, rfl, rfl, e2, e3, hb, hch⟩
def sInv (y : Nat) (n : Int32) (Sx Sm : zS) (c d : Nat) (p : List Nat) (b : pB) (T : zS) : Prop := kp [11, 12, 56, 57, 58, 59, 60, 61, 62] Sx T ∧ T.1 56 0 = nI y ∧ T.1 56 1 = n ∧ T.1 56 2 = eM b ∧ T.1 56 3 = eF b ∧ okB y b ∧ chB (T.1 58) b ∧ (∀ k, k < d → T.1 57 k = sI (tr p k)) ∧ rG c (pth Sm n (Sm.1 19) p) (fun i => T.1 59 (d * 27 + i))
theorem gR_of_rG {c : Nat} {N row : Nat → Int32} {T : zS} (hc : c ≤ 12) (h96 : N 96 = nI c) (h : rG c N row) (e : ∀ i, i < 27 → rowG T 60 i = row i) : gR c N (T.1 60) (T.1 61) (T.1 62) := by
  obtain ⟨h0, h1, h2, h3⟩ := h
  refine ⟨(e 0 (by omega)).trans (h0.trans h96), (e 1 (by omega)).trans h1, (e 2 (by omega)).trans h2, fun b hb => ⟨?_, ?_⟩⟩
  · have := (e (3 + b) (by omega)).trans (h3 b hb).1
    unfold rowG at this
    rwa [if_neg (by omega), if_pos (by omega), show 3 + b - 3 = b by omega] at this
  · have := (e (15 + b) (by omega)).trans (h3 b hb).2
    unfold rowG at this
    rwa [if_neg (by omega), if_neg (by omega), show 15 + b - 15 = b by omega] at this
theorem stdHere {st pl tp c hb : Nat} {Sx Sm T : zS} {N : Nat → Int32} (hE : pE st pl c hb Sx Sm) (hS : pS st pl tp c (Sm.1 19) N) (hT : kp [11, 12, 56, 57, 58, 59, 60, 61, 62] Sx T) : f_X1_standing_13 (mkS (liv N) c) T = some (stdN N c, T) := by
  have hc := hS.1.1
  have hB := hE.2.2.2.2.2.2.2.2.2.2
  exact stdX hc (fun i hi => bt_mkS _ hi c (by omega)) (fun b hb => by rw [hT.2 19 (by decide), hS.2 b 7 hb (by omega) (by omega)]; exact (hB b hb).2.2.2.2.2) (fun b hb => by rw [hT.2 18 (by decide), hS.2 b 6 hb (by omega) (by omega)]; exact (hB b hb).2.2.2.2.1)
theorem bcS {x : Int32} (h : ∀ i, i < 32 → 12 ≤ i → bt x i = false) (S : zS) : f_J6_bitCount_0f7a4 x S = some (nI (cntS x), S) := by
  rw [bcX, mem_bc h, memF_cnt]
/-- one stake tried -/
theorem s111 {st pl tp c hb y r d i : Nat} {Sx Sm V : zS} {n : Int32} {p : List Nat} {b : pB} {F : Int32 → Int32 → zS → Option zS} {K : Int32 → Int32 → Int32 → Int32 → zS → Option zS} (hE : pE st pl c hb Sx Sm) (hn : isI 1 99 n) (hS : pS st pl tp c (Sm.1 19) (Sm.1 19)) (hy : y ≤ 3) (hp : p.length = d) (hd : d < y)
    (ih : ∀ (p : List Nat) (T : zS) (b : pB), p.length = d + 1 → sInv y n Sx Sm c (d + 1) p b T → ∃ T', F (nI (d + 1)) (nI (cts p)) T = some T' ∧ sInv y n Sx Sm c (d + 1) p (pF st (fun p => vlS c (pth Sm n (Sm.1 19) p)) r p b) T' ∧ ∀ j, j < (d + 2) * 27 → T'.1 59 j = T.1 59 j)
    (hV : sInv y n Sx Sm c d p b V) : ∃ V', f_X9_search_56_5_B111 F K (nI d) (nI (cts p)) (mkS (liv (pth Sm n (Sm.1 19) p)) c) (sI i) (nI (cts (i :: p))) 0 V = K (nI d) (nI (cts p)) (mkS (liv (pth Sm n (Sm.1 19) p)) c) (sI (i + 1)) V' ∧ sInv y n Sx Sm c d p (pF st (fun p => vlS c (pth Sm n (Sm.1 19) p)) r (i :: p) b) V' ∧ ∀ j, j < (d + 1) * 27 → V'.1 59 j = V.1 59 j := by
  obtain ⟨kV, v0, v1, v2, v3, vb, vc, v57, vr⟩ := hV
  have hc := hS.1.1
  have hN := pth_pS hE hn hS p
  have ht : cts (i :: p) ≤ 3 := by have := cts_le (i :: p); rw [List.length_cons] at this; omega
  unfold f_X9_search_56_5_B111
  rw [if_pos rfl, bcS (mkS_hi _ hc), zb_def, betX (cntS_le _) ht vb v2 v3, zb_def, z01]
  by_cases hbt : pBet (lvS c (pth Sm n (Sm.1 19) p)) (cts (i :: p)) b = true
  · rw [if_pos (show pBet (cntS (mkS (liv (pth Sm n (Sm.1 19) p)) c)) (cts (i :: p)) b = true from hbt)]
    obtain ⟨T1, e1, k1, r1⟩ := ldX_60_59 (S := V) (b := d * 27) (by omega)
    have g1 := gR_of_rG hc hN.1.2.1 vr (T := T1) r1
    have kT1 := kp_trans kV (kp_in k1 (by decide))
    obtain ⟨T2, T3, e2, e3, k3, g3, p3⟩ := nxtX hE hn kT1 g1 hN (sI i)
    obtain ⟨T4, e4, k4, r4⟩ := stX_60_59 (S := T3) (b := (d + 1) * 27) (by omega)
    rw [show nI d * 27 = nI (d * 27) from pk_mul d 27, e1, zu_def, show T1.1 56 1 = n by rw [k1.2 56 (by decide)]; exact v1, e2, zu_def, e3, zu_def, nI_1, show nI (d + 1) * 27 = nI ((d + 1) * 27) from pk_mul (d + 1) 27, e4, zu_def, if_pos (zinN (by omega) (by omega)), zlet_def, nI_clamp (by omega)]
    have kT4 : kp [11, 12, 59, 60, 61, 62] V T4 := kp_trans (kp_in k1 (by decide)) (kp_trans (kp_in k3 (by decide)) (kp_in k4 (by decide)))
    have h59 : ∀ j, j < (d + 1) * 27 → (zput T4 57 d (sI i)).1 59 j = V.1 59 j := fun j hj => by
      rw [zput1_ne _ _ _ _ _ (by decide), r4 j, if_neg (by omega), k3.2 59 (by decide), k1.2 59 (by decide)]
    have hI : sInv y n Sx Sm c (d + 1) (i :: p) b (zput T4 57 d (sI i)) := by
      refine ⟨kp_trans (kp_trans kV (kp_in kT4 (by decide))) (kp_put (by decide)), ?_, ?_, ?_, ?_, vb, ?_, ?_, ?_⟩
      · rw [zput1_ne _ _ _ _ _ (by decide), kT4.2 56 (by decide)]; exact v0
      · rw [zput1_ne _ _ _ _ _ (by decide), kT4.2 56 (by decide)]; exact v1
      · rw [zput1_ne _ _ _ _ _ (by decide), kT4.2 56 (by decide)]; exact v2
      · rw [zput1_ne _ _ _ _ _ (by decide), kT4.2 56 (by decide)]; exact v3
      · rw [zput1_ne _ _ _ _ _ (by decide), kT4.2 58 (by decide)]; exact vc
      · intro k hk
        rw [zput1_eq, kT4.2 57 (by decide)]
        by_cases hkd : k = d
        · subst hkd
          rw [upd_at, ← hp, tr_at]
        · rw [upd_ne _ _ _ _ hkd, tr_lt (by omega)]
          exact v57 k (by omega)
      · refine rG_congr hc (rG_of_gR (T := T3) (g := 60) p3.1.2.1 g3 hc) fun j hj => ?_
        show (zput T4 57 d (sI i)).1 59 ((d + 1) * 27 + j) = _
        rw [zput1_ne _ _ _ _ _ (by decide), r4, if_pos (by omega), show (d + 1) * 27 + j - (d + 1) * 27 = j by omega]
    obtain ⟨T5, e5, i5, r5⟩ := ih (i :: p) _ b (by rw [List.length_cons, hp]) hI
    rw [e5, zu_def, zlet_def, sI_1]
    obtain ⟨q0, q1, q2, q3, q4, q5, q6, q7, q8⟩ := i5
    refine ⟨T5, rfl, ⟨q0, q1, q2, q3, q4, q5, q6, fun k hk => ?_, ?_⟩, fun j hj => (r5 j (by omega)).trans (h59 j hj)⟩
    · rw [q7 k (by omega), tr_lt (by omega)]
    · exact rG_congr hc vr fun j hj => (r5 _ (by omega)).trans (h59 _ (by omega))
  · rw [if_neg (show ¬ pBet (cntS (mkS (liv (pth Sm n (Sm.1 19) p)) c)) (cts (i :: p)) b = true from hbt), zlet_def, sI_1]
    refine ⟨V, rfl, ?_, fun _ _ => rfl⟩
    have hb0 : pBet (lvS c (pth Sm n (Sm.1 19) (i :: p))) (cts (i :: p)) b = false := pBet_anti (lv_nxt hE hn hN (sI i)) (Nat.le_refl _) (by simpa using hbt)
    rw [pD_id r (i :: p) b (pF_prune (val := fun p => vlS c (pth Sm n (Sm.1 19) p)) (lv := fun p => lvS c (pth Sm n (Sm.1 19) p)) (fun p => vl_lv hc _) (fun i p => lv_nxt hE hn (pth_pS hE hn hS p) (sI i)) r (i :: p) b hb0)]
    exact ⟨kV, v0, v1, v2, v3, vb, vc, v57, vr⟩
theorem sI_ne {i : Nat} (h : i < 100) : ¬ sI (i + 1) = -1 := nI_neg1 (by omega)
set_option maxHeartbeats 1000000 in
theorem searchX {st pl tp c hb y : Nat} {Sx Sm : zS} {n : Int32} (hE : pE st pl c hb Sx Sm) (hn : isI 1 99 n) (hS : pS st pl tp c (Sm.1 19) (Sm.1 19)) (hy : y ≤ 3) : ∀ (r d fuel : Nat) (p : List Nat) (T : zS) (b : pB), p.length = d → d + r = y → r < fuel → sInv y n Sx Sm c d p b T → ∃ T', f_X9_search_56_5 fuel (nI d) (nI (cts p)) T = some T' ∧ sInv y n Sx Sm c d p (pF st (fun p => vlS c (pth Sm n (Sm.1 19) p)) r p b) T' ∧ ∀ j, j < (d + 1) * 27 → T'.1 59 j = T.1 59 j := by
  have hc := hS.1.1
  have hst := hE.1
  intro r
  induction r with
  | zero =>
    intro d fuel p T b hp hdr hf hI
    obtain ⟨fuel, rfl⟩ : ∃ k, fuel = k + 1 := ⟨fuel - 1, by omega⟩
    obtain ⟨kT, v0, v1, v2, v3, vb, vc, v57, vr⟩ := hI
    have hN := pth_pS hE hn hS p
    obtain ⟨T1, e1, k1, r1⟩ := ldX_60_59 (S := T) (b := d * 27) (by omega)
    have g1 := gR_of_rG hc hN.1.2.1 vr (T := T1) r1
    have kT1 := kp_trans kT (kp_in k1 (by decide))
    have hl : mkS (fun b => decide (0 < T1.1 61 b)) c = mkS (liv (pth Sm n (Sm.1 19) p)) c := mkS_congr fun b hb => by
      show decide (0 < T1.1 61 b) = decide (0 < pth Sm n (Sm.1 19) p (8 * b))
      rw [(g1.2.2.2 b hb).1]
    have hdy : d = y := by omega
    have h57 : ∀ k, k < y → T1.1 57 k = sI (tr p k) := fun k hk => by rw [k1.2 57 (by decide)]; exact v57 k (by omega)
    obtain ⟨T2, e2, k2, w0, w1, w2, w3, w4, w5⟩ := judgeX (S := T1) (o := vlS c (pth Sm n (Sm.1 19) p)) (t := cts p) (cntS_le _) (by have := cts_le p; omega) (hp.trans hdy) hy vb (by rw [k1.2 56 (by decide)]; exact v2) (by rw [k1.2 56 (by decide)]; exact v3) (by rw [k1.2 58 (by decide)]; exact vc) h57
    have hB : f_X9_search_56_5_B41 (f_X9_search_56_5 fuel) (nI (cts p)) (mkS (liv (pth Sm n (Sm.1 19) p)) c) T1 = some T2 := by
      unfold f_X9_search_56_5_B41
      rw [stdHere hE hN kT1, zb_def, bcS (fun i hi h12 => stdN_hi _ (by omega) i hi (by omega)), zb_def]
      show zu (f_X9_judge_56 (nI (vlS c (pth Sm n (Sm.1 19) p))) (nI (cts p)) T1) _ = _
      rw [e2, zu_def]
    refine ⟨T2, ?_, ⟨kp_trans kT1 (kp_in k2 (by decide)), ?_, ?_, w2, w3, w4, w5, ?_, ?_⟩, ?_⟩
    · show fb_X9_search_56_5 (f_X9_search_56_5 fuel) (nI d) (nI (cts p)) T = _
      unfold fb_X9_search_56_5
      rw [show nI d * 27 = nI (d * 27) from pk_mul d 27, e1, zu_def, livX60 hc g1.1, zb_def, hl, if_neg (nI_not_neg (by omega)), show T1.1 56 0 = nI y by rw [k1.2 56 (by decide)]; exact v0, if_neg (nI_nlt (by omega) (by omega)), hB]
    · rw [w0, k1.2 56 (by decide)]; exact v0
    · rw [w1, k1.2 56 (by decide)]; exact v1
    · intro k hk
      rw [k2.2 57 (by decide), k1.2 57 (by decide)]
      exact v57 k hk
    · refine rG_congr hc vr fun j hj => ?_
      show T2.1 59 (d * 27 + j) = T.1 59 (d * 27 + j)
      rw [k2.2 59 (by decide), k1.2 59 (by decide)]
    · intro j hj
      rw [k2.2 59 (by decide), k1.2 59 (by decide)]
  | succ r ih =>
    intro d fuel p T b hp hdr hf hI
    obtain ⟨fuel, rfl⟩ : ∃ k, fuel = k + 1 := ⟨fuel - 1, by omega⟩
    obtain ⟨kT, v0, v1, v2, v3, vb, vc, v57, vr⟩ := hI
    have hN := pth_pS hE hn hS p
    obtain ⟨T1, e1, k1, r1⟩ := ldX_60_59 (S := T) (b := d * 27) (by omega)
    have g1 := gR_of_rG hc hN.1.2.1 vr (T := T1) r1
    have kT1 := kp_trans kT (kp_in k1 (by decide))
    have hl : mkS (fun b => decide (0 < T1.1 61 b)) c = mkS (liv (pth Sm n (Sm.1 19) p)) c := mkS_congr fun b hb => by
      show decide (0 < T1.1 61 b) = decide (0 < pth Sm n (Sm.1 19) p (8 * b))
      rw [(g1.2.2.2 b hb).1]
    have hI1 : sInv y n Sx Sm c d p b T1 := by
      refine ⟨kT1, ?_, ?_, ?_, ?_, vb, ?_, fun k hk => ?_, ?_⟩
      · rw [k1.2 56 (by decide)]; exact v0
      · rw [k1.2 56 (by decide)]; exact v1
      · rw [k1.2 56 (by decide)]; exact v2
      · rw [k1.2 56 (by decide)]; exact v3
      · rw [k1.2 58 (by decide)]; exact vc
      · rw [k1.2 57 (by decide)]; exact v57 k hk
      · rw [k1.2 59 (by decide)]; exact vr
    have hlt3 : nI d < 3 := nI_lt (b := 3) (by omega) (by omega)
    have e0 : f_X9_search_56_5 (fuel + 1) (nI d) (nI (cts p)) T = f_X9_search_56_5_L62 (f_X9_search_56_5 fuel) zN (nI d) (nI (cts p)) (mkS (liv (pth Sm n (Sm.1 19) p)) c) (sI 0) T1 := by
      show fb_X9_search_56_5 (f_X9_search_56_5 fuel) (nI d) (nI (cts p)) T = _
      unfold fb_X9_search_56_5
      rw [show nI d * 27 = nI (d * 27) from pk_mul d 27, e1, zu_def, livX60 hc g1.1, zb_def, hl, if_neg (nI_not_neg (by omega)), show T1.1 56 0 = nI y by rw [k1.2 56 (by decide)]; exact v0, if_pos (nI_lt (by omega) (by omega)), if_pos hlt3]
      rfl
    rw [e0]
    have h59 : ∀ j, j < (d + 1) * 27 → T1.1 59 j = T.1 59 j := fun j _ => by rw [k1.2 59 (by decide)]
    refine loopI (f := fun q V i => f_X9_search_56_5_L62 (f_X9_search_56_5 fuel) q (nI d) (nI (cts p)) (mkS (liv (pth Sm n (Sm.1 19) p)) c) (sI i) V)
      (fun i V => sInv y n Sx Sm c d p (foldN (fun b i => pF st (fun p => vlS c (pth Sm n (Sm.1 19) p)) r (i :: p) b) 0 i b) V ∧ (∀ j, j < (d + 1) * 27 → V.1 59 j = T.1 59 j) ∧ (1 ≤ i → pD st (fun p => vlS c (pth Sm n (Sm.1 19) p)) r (0 :: p) (foldN (fun b i => pF st (fun p => vlS c (pth Sm n (Sm.1 19) p)) r (i :: p) b) 0 i b)))
      (fun o => ∃ T', o = some T' ∧ sInv y n Sx Sm c d p (pF st (fun p => vlS c (pth Sm n (Sm.1 19) p)) (r + 1) p b) T' ∧ ∀ j, j < (d + 1) * 27 → T'.1 59 j = T.1 59 j) (c := st + 1) ?_ ?_ (st + 1) 0 zN T1 (by omega) (by show st + 1 < 10000; omega) ⟨hI1, h59, fun h => absurd h (by omega)⟩
    · intro q V i hi ⟨hV, hV59, hD⟩
      rw [foldN_snoc, Nat.zero_add]
      generalize foldN (fun b i => pF st (fun p => vlS c (pth Sm n (Sm.1 19) p)) r (i :: p) b) 0 i b = bi at hV hD ⊢
      have hV5 : V.1 5 0 = nI st := by rw [hV.1.2 5 (by decide)]; exact hE.2.2.2.2.2.2.2.2.1
      have hd3 : pD st (fun p => vlS c (pth Sm n (Sm.1 19) p)) r (0 :: p) (pF st (fun p => vlS c (pth Sm n (Sm.1 19) p)) r (i :: p) bi) := by
        by_cases h1 : 1 ≤ i
        · exact pD_keep (g := fun b => pF st (fun p => vlS c (pth Sm n (Sm.1 19) p)) r (i :: p) b) (fun o t b h => pF_keep r (i :: p) b h) r (0 :: p) bi (hD h1)
        · have : i = 0 := by omega
          subst this
          exact pF_D r (0 :: p) bi
      obtain ⟨V', eV', iV', rV'⟩ := s111 (r := r) (i := i) (F := f_X9_search_56_5 fuel) (K := f_X9_search_56_5_L62 (f_X9_search_56_5 fuel) q) hE hn hS hy hp (by omega) (fun p T b hp hI => ih (d + 1) fuel p T b hp (by omega) (by omega) hI) hV
      match i, hi with
      | 0, hi =>
        refine ⟨V', ?_, iV', fun j hj => (rV' j hj).trans (hV59 j hj), fun _ => hd3⟩
        rw [← eV']
        show f_X9_search_56_5_L62 (f_X9_search_56_5 fuel) (q + 1) (nI d) (nI (cts p)) (mkS (liv (pth Sm n (Sm.1 19) p)) c) (-1) V = _
        rw [f_X9_search_56_5_L62, hV5, if_pos ?_, if_pos rfl]
        · unfold f_X9_search_56_5_B84
          rw [if_pos rfl]
          rfl
        · rw [Int32.lt_iff_toInt_lt, nI_toInt (by omega)]
          show (-1 : Int) < _
          omega
      | i + 1, hi =>
        have hlt : nI i < nI st := nI_lt (by omega) (by omega)
        have hne : ¬ nI i = -1 := nI_neg1 (by omega)
        have hct : nI (cts p) + 1 = nI (cts ((i + 1) :: p)) := by
          rw [nI_1]
          show _ = nI (cts p + if i + 1 = 0 then 0 else 1)
          rw [if_neg (by omega)]
        have hon := onStX (S := V) (N := pth Sm n (Sm.1 19) p) hc (fun b hb => by rw [hV.1.2 14 (by decide), hN.2 b 2 hb (by omega) (by omega)]; exact (hE.2.2.2.2.2.2.2.2.2.2 b hb).1) (fun i hi => bt_mkS (liv (pth Sm n (Sm.1 19) p)) hi c (by omega)) (nI i)
        have e3 : f_X9_search_56_5_L62 (f_X9_search_56_5 fuel) (q + 1) (nI d) (nI (cts p)) (mkS (liv (pth Sm n (Sm.1 19) p)) c) (sI (i + 1)) V = if mkS (fun b => liv (pth Sm n (Sm.1 19) p) b && decide (pth Sm n (Sm.1 19) p (8 * b + 2) = nI i)) c = 0 then f_X9_search_56_5_B111 (f_X9_search_56_5 fuel) (f_X9_search_56_5_L62 (f_X9_search_56_5 fuel) q) (nI d) (nI (cts p)) (mkS (liv (pth Sm n (Sm.1 19) p)) c) (nI i) (nI (cts ((i + 1) :: p))) 1 V else f_X9_search_56_5_B111 (f_X9_search_56_5 fuel) (f_X9_search_56_5_L62 (f_X9_search_56_5 fuel) q) (nI d) (nI (cts p)) (mkS (liv (pth Sm n (Sm.1 19) p)) c) (nI i) (nI (cts ((i + 1) :: p))) 0 V := by
          show f_X9_search_56_5_L62 (f_X9_search_56_5 fuel) (q + 1) (nI d) (nI (cts p)) (mkS (liv (pth Sm n (Sm.1 19) p)) c) (nI i) V = _
          rw [f_X9_search_56_5_L62, hV5, if_pos hlt, if_neg hne]
          unfold f_X9_search_56_5_B84
          rw [if_neg hne, hon, zb_def, hct]
        by_cases hz : mkS (fun b => liv (pth Sm n (Sm.1 19) p) b && decide (pth Sm n (Sm.1 19) p (8 * b + 2) = nI i)) c = 0
        · rw [if_pos hz] at e3
          have hidle : ∀ b, b < c → pth Sm n (Sm.1 19) p (8 * b + 2) = nI i → pth Sm n (Sm.1 19) p (8 * b) = 0 := fun b hb hs => by
            have hb0 := bt_mkS (fun b => liv (pth Sm n (Sm.1 19) p) b && decide (pth Sm n (Sm.1 19) p (8 * b + 2) = nI i)) (show b < 32 by omega) c (by omega)
            rw [hz, b_0] at hb0
            simp only [hb, hs, decide_true, Bool.true_and, Bool.and_true] at hb0
            obtain ⟨v, h1, h2, h3⟩ := (hN.1.2.2 b hb).1
            unfold liv at hb0
            rw [h3] at hb0 ⊢
            have hb1 := hb0.symm
            simp only [decide_eq_false_iff_not, Int32.lt_iff_toInt_lt, Int32.toInt_ofInt_of_le (show -2147483648 ≤ v by omega) (show v < 2147483648 by omega), i0] at hb1
            rw [show v = 0 by omega]
            rfl
          have heq : eqv c (pth Sm n (Sm.1 19) ((i + 1) :: p)) (pth Sm n (Sm.1 19) (0 :: p)) := by
            obtain ⟨r1, U1, f1, f2⟩ := nxt_idle hE hn hN hidle
            obtain ⟨r2, U2, f3, f4⟩ := nxt_idle (s := -1) hE hn hN (no_m1 hN hst)
            rw [f1] at f3
            cases f3
            show eqv c (nxt Sm n (nI i) _) (nxt Sm n (-1) _)
            rw [f2, f4]
            exact eqv_rfl c _
          have hsame : pF st (fun p => vlS c (pth Sm n (Sm.1 19) p)) r ((i + 1) :: p) bi = bi := pD_id r _ bi (pD_like hE hn hS r (0 :: p) ((i + 1) :: p) bi heq (by show cts p + _ ≤ cts p + _; simp) (hD (by omega)))
          refine ⟨V, ?_, ?_, hV59, fun _ => hd3⟩
          · rw [e3]
            unfold f_X9_search_56_5_B111
            rw [if_neg (by decide), zlet_def, nI_1]
            rfl
          · rw [hsame]; exact hV
        · rw [if_neg hz] at e3
          refine ⟨V', ?_, iV', fun j hj => (rV' j hj).trans (hV59 j hj), fun _ => hd3⟩
          exact e3.trans eV'
    · rintro q V ⟨hV, hV59, -⟩
      have hV5 : V.1 5 0 = nI st := by rw [hV.1.2 5 (by decide)]; exact hE.2.2.2.2.2.2.2.2.1
      refine ⟨V, ?_, hV, hV59⟩
      show f_X9_search_56_5_L62 (f_X9_search_56_5 fuel) (q + 1) (nI d) (nI (cts p)) (mkS (liv (pth Sm n (Sm.1 19) p)) c) (nI st) V = _
      rw [f_X9_search_56_5_L62, hV5, if_neg (nI_nlt (Nat.le_refl _) (by omega))]
