/-! ===== plan: what is dead stays dead ===== -/
theorem dead_trim {c b0 : Nat} (hb0 : b0 < 12) (hc : c ≤ 12) {n s : Int32} (hn : isI 1 99 n) : ∀ (q i : Nat) (U U' : zS), f_X12_trimHere_L2 q s n (nI i) U = some U' → i ≤ c → U.1 20 96 = nI c → U.1 20 (8 * b0) = 0 → U'.1 20 (8 * b0) = 0 := by
  intro q
  induction q with
  | zero => intro i U U' h; cases h
  | succ q ih =>
    intro i U U' h hi e96 e0
    rw [f_X12_trimHere_L2, billsM e96, zb_def] at h
    by_cases hic : i < c
    · rw [if_pos (nI_lt hic (by omega)), of2 (by omega), zb_def] at h
      by_cases hs : U.1 20 (8 * i + 2) = s
      · rw [if_pos hs, lessM (by omega), zu_def, zlet_def, nI_1] at h
        refine ih (i + 1) _ U' h (by omega) ?_ ?_
        · rw [zput1_eq, upd_ne _ _ _ _ (by omega)]; exact e96
        · rw [zput1_eq]
          by_cases hbi : b0 = i
          · subst hbi
            rw [upd_at, e0]
            unfold leL
            rw [if_neg ?_]
            obtain ⟨v, h1, h2, rfl⟩ := hn
            intro z
            rw [Int32.lt_iff_toInt_lt, Int32.toInt_ofInt_of_le (by omega) (by omega), i0] at z
            omega
          · rw [upd_ne _ _ _ _ (by omega)]; exact e0
      · rw [if_neg hs, zlet_def, nI_1] at h
        exact ih (i + 1) U U' h (by omega) e96 e0
    · rw [if_neg (nI_nlt (by omega) (by omega))] at h
      cases h
      exact e0
theorem dead_231 {c b0 : Nat} (hb0 : b0 < 12) (hc : c ≤ 12) {w : Int32} {U U' : zS} {r : Int32} (h : f_X12_goYear_B231 w U = some (r, U')) (e96 : U.1 20 96 = nI c) (e0 : U.1 20 (8 * b0) = 0) : U'.1 20 (8 * b0) = 0 := by
  have e97 : (zput U 20 97 (U.1 20 97 + 1)).1 20 96 = nI c := by rw [zput1_eq, upd_ne _ _ _ _ (by omega)]; exact e96
  unfold f_X12_goYear_B231 at h
  rw [show Int32.toNatClampNeg 97 = 97 from rfl, zlet_def, livM hc e97, zb_def, memM, zb_def] at h
  cases h
  rw [zput1_eq, upd_ne _ _ _ _ (by omega)]
  exact e0
theorem dead_177 {c b0 : Nat} (hb0 : b0 < 12) (hc : c ≤ 12) : ∀ (q i : Nat) (w r : Int32) (U U' : zS), f_X12_goYear_L177 q w (nI i) U = some (r, U') → i ≤ c → isI 1 99 (U.1 0 47) → U.1 20 96 = nI c → U.1 20 (8 * b0) = 0 → U'.1 20 (8 * b0) = 0 := by
  intro q
  induction q with
  | zero => intro i w r U U' h; cases h
  | succ q ih =>
    intro i w r U U' h hi hf e96 e0
    rw [f_X12_goYear_L177, billsM e96, zb_def] at h
    by_cases hic : i < c
    · rw [if_pos (nI_lt hic (by omega))] at h
      split at h
      · rw [of3 (by omega), zb_def] at h
        split at h
        · split at h
          · rw [lessM (by omega), zu_def, zlet_def, nI_1] at h
            refine ih (i + 1) w r _ U' h (by omega) ?_ ?_ ?_
            · rw [zput1_ne _ _ _ _ _ (by decide)]; exact hf
            · rw [zput1_eq, upd_ne _ _ _ _ (by omega)]; exact e96
            · rw [zput1_eq]
              by_cases hbi : b0 = i
              · subst hbi
                rw [upd_at, e0]
                unfold leL
                rw [if_neg ?_]
                obtain ⟨v, h1, h2, h3⟩ := hf
                rw [h3]
                intro z
                rw [Int32.lt_iff_toInt_lt, Int32.toInt_ofInt_of_le (by omega) (by omega), i0] at z
                omega
              · rw [upd_ne _ _ _ _ (by omega)]; exact e0
          · rw [zlet_def, nI_1] at h
            exact ih (i + 1) w r U U' h (by omega) hf e96 e0
        · cases h
      · exact dead_231 hb0 hc h e96 e0
    · rw [if_neg (nI_nlt (by omega) (by omega))] at h
      exact dead_231 hb0 hc h e96 e0
theorem dead_128 {c b0 i : Nat} (hb0 : b0 < 12) (hi : i < 12) (hbi : b0 ≠ i) {K : Int32 → Int32 → zS → Option (Int32 × zS)} {w s r : Int32} {U U' : zS} (h : f_X12_goYear_B128 K w (nI i) s (8 * nI i + 0) U = some (r, U')) (e96 : U.1 20 96 = nI c) (e0 : U.1 20 (8 * b0) = 0) : ∃ U1, K w (nI (i + 1)) U1 = some (r, U') ∧ kp [20] U U1 ∧ U1.1 20 96 = nI c ∧ U1.1 20 (8 * b0) = 0 := by
  unfold f_X12_goYear_B128 at h
  rw [show (8 * nI i + 0 : Int32) = nI (8 * i) from nI_8 i 0, show (8 * nI i + 1 : Int32) = nI (8 * i + 1) from nI_8 i 1] at h
  rw [if_pos (zinN (by omega) (by omega)), zlet_def, if_pos (zinN (by omega) (by omega)), if_pos (zinN (by omega) (by omega)), zlet_def, zlet_def, nI_1, nI_clamp (by omega), nI_clamp (by omega)] at h
  refine ⟨_, h, kp_trans (kp_put (by decide)) (kp_put (by decide)), ?_, ?_⟩
  · rw [zput1_eq, upd_ne _ _ _ _ (by omega), zput1_eq, upd_ne _ _ _ _ (by omega)]; exact e96
  · rw [zput1_eq, upd_ne _ _ _ _ (by omega), zput1_eq, upd_ne _ _ _ _ (by omega)]; exact e0
theorem askY {c b q : Nat} {w : Int32} {U : zS} (hc : c ≤ 12) (e96 : U.1 20 96 = nI c) (hb : b < c) (hlv : liv (U.1 20) b = true) : ∃ W, f_X12_goYear_L7 (q + 1) w (nI b) U = (zb (f_X12_grown W) fun r31 T30 => zlet ((U.1 20 (8 * b)) + r31) fun v32 => if v32 < 0 then f_X12_goYear_B128 (f_X12_goYear_L7 q) w (nI b) 0 ((8 * nI b) + 0) T30 else if (99 : Int32) < v32 then f_X12_goYear_B128 (f_X12_goYear_L7 q) w (nI b) 99 ((8 * nI b) + 0) T30 else f_X12_goYear_B128 (f_X12_goYear_L7 q) w (nI b) v32 ((8 * nI b) + 0) T30) ∧ kp [9] U W ∧ W.1 9 0 = U.1 20 (8 * b) ∧ W.1 9 1 = U.1 20 (8 * b + 1) ∧ W.1 9 2 = U.1 20 (8 * b + 2) ∧ W.1 9 3 = nrN (U.1 20) c b ∧ W.1 9 4 = U.1 20 97 := by
  have hlt : nI b < nI c := nI_lt hb (by omega)
  refine ⟨zput (zput (zput (zput (zput U 9 0 (U.1 20 (8 * b))) 9 1 (U.1 20 (8 * b + 1))) 9 2 (U.1 20 (8 * b + 2))) 9 3 (nrN (U.1 20) c b)) 9 4 (U.1 20 97), ?_, ?_, rfl, rfl, rfl, rfl, rfl⟩
  · rw [f_X12_goYear_L7, billsM e96, zb_def, if_pos hlt, livesM (by omega), zb_def, z01, if_pos hlv, of0 (by omega), zb_def, zlet_def, of1 (by omega), zb_def, zlet_def, of2 (by omega), zb_def, zlet_def]
    have hn : f_X12_near (nI b) (zput (zput (zput U 9 0 (U.1 20 (8 * b))) 9 1 (U.1 20 (8 * b + 1))) 9 2 (U.1 20 (8 * b + 2))) = some (nrN (U.1 20) c b, zput (zput (zput U 9 0 (U.1 20 (8 * b))) 9 1 (U.1 20 (8 * b + 1))) 9 2 (U.1 20 (8 * b + 2))) := nearM (S := zput (zput (zput U 9 0 (U.1 20 (8 * b))) 9 1 (U.1 20 (8 * b + 1))) 9 2 (U.1 20 (8 * b + 2))) hc e96 (by omega)
    rw [show zput (zput (zput U 9 (Int32.toNatClampNeg 0) (U.1 20 (8 * b))) 9 (Int32.toNatClampNeg 1) ((zput U 9 (Int32.toNatClampNeg 0) (U.1 20 (8 * b))).1 20 (8 * b + 1))) 9 (Int32.toNatClampNeg 2) ((zput (zput U 9 (Int32.toNatClampNeg 0) (U.1 20 (8 * b))) 9 (Int32.toNatClampNeg 1) ((zput U 9 (Int32.toNatClampNeg 0) (U.1 20 (8 * b))).1 20 (8 * b + 1))).1 20 (8 * b + 2)) = zput (zput (zput U 9 0 (U.1 20 (8 * b))) 9 1 (U.1 20 (8 * b + 1))) 9 2 (U.1 20 (8 * b + 2)) from rfl, hn, zb_def, zlet_def, zlet_def, of0 (by omega), zb_def]
    rfl
  · refine kp_trans (kp_trans (kp_trans (kp_trans (kp_put (by decide)) (kp_put (by decide))) (kp_put (by decide))) (kp_put (by decide))) (kp_put (by decide))
theorem dead_7 {st pl c hb b0 : Nat} {Sx Sm : zS} (hE : pE st pl c hb Sx Sm) (hb0 : b0 < 12) (hc : c ≤ 12) : ∀ (q i : Nat) (w r : Int32) (U U' : zS), f_X12_goYear_L7 q w (nI i) U = some (r, U') → i ≤ c → kp [8, 9, 20, 22, 23] Sm U → U.1 20 96 = nI c → U.1 20 (8 * b0) = 0 → U'.1 20 (8 * b0) = 0 := by
  intro q
  induction q with
  | zero => intro i w r U U' h; cases h
  | succ q ih =>
    intro i w r U U' h hi hU e96 e0
    have h0 := h
    rw [f_X12_goYear_L7, billsM e96, zb_def] at h
    by_cases hic : i < c
    · rw [if_pos (nI_lt hic (by omega)), livesM (by omega), zb_def] at h
      by_cases hl : liv (U.1 20) i = true
      · have hbi : b0 ≠ i := fun z => by
          subst z
          unfold liv at hl
          rw [e0] at hl
          simp at hl
        obtain ⟨W, eW, kW, w0, w1, w2, w3, w4⟩ := askY (q := q) (w := w) hc e96 hic hl
        have hFW : rFm (Sx.1 9 0) (Sx.1 9 1) (W.1 0 21) (W.1 0 18) (W.1 0 52) (Sx.1 10) (W.1 5) (W.1 6) := by
          rw [kW.2 0 (by decide), kW.2 5 (by decide), kW.2 6 (by decide), hU.2 0 (by decide), hU.2 5 (by decide), hU.2 6 (by decide)]
          exact hE.2.2.1
        obtain ⟨v, T', W', eX, eM, kT', kW'⟩ := formula hFW w0 w1 w2 w3 w4
        have W20 : W'.1 20 = U.1 20 := (kW'.2 20 (by decide)).trans (kW.2 20 (by decide))
        have kUW : kp [8, 9, 20, 22, 23] Sm W' := kp_trans hU (kp_trans (kp_in kW (by decide)) (kp_in kW' (by decide)))
        rw [eW, eM, zb_def, zlet_def] at h0
        have key : ∀ y, f_X12_goYear_B128 (f_X12_goYear_L7 q) w (nI i) y ((8 * nI i) + 0) W' = some (r, U') → U'.1 20 (8 * b0) = 0 := fun y hy => by
          obtain ⟨U1, h1, k1, e1, e2⟩ := dead_128 hb0 (by omega) hbi hy (by rw [W20]; exact e96) (by rw [W20]; exact e0)
          exact ih (i + 1) w r U1 U' h1 (by omega) (kp_trans kUW (kp_in k1 (by decide))) e1 e2
        split at h0
        · exact key _ h0
        · split at h0
          · exact key _ h0
          · exact key _ h0
      · rw [if_neg hl, if_pos rfl, zlet_def, nI_1] at h
        exact ih (i + 1) w r U U' h (by omega) hU e96 e0
    · rw [if_neg (nI_nlt (by omega) (by omega)), zlet_def] at h
      refine dead_177 hb0 hc zN 0 w r _ U' h (by omega) ?_ ?_ ?_
      · rw [zput1_ne _ _ _ _ _ (by decide), hU.2 0 (by decide)]; exact hE.2.2.2.2.2.1
      · rw [zput1_eq, upd_ne _ _ _ _ (by decide)]; exact e96
      · rw [zput1_eq, upd_ne _ _ _ _ (by show 8 * b0 ≠ 98; omega)]; exact e0
theorem nxt_dead {st pl tp c hb b0 : Nat} {Sx Sm : zS} {n : Int32} {N : Nat → Int32} (hE : pE st pl c hb Sx Sm) (hn : isI 1 99 n) (hS : pS st pl tp c (Sm.1 19) N) (s : Int32) (hb0 : b0 < 12) (e0 : N (8 * b0) = 0) : nxt Sm n s N (8 * b0) = 0 := by
  have hc := hS.1.1
  obtain ⟨T1, T2, U1, U2, r, e1, e2, e3, e4, -, k2, g2, p2, -⟩ := step60 (T := cX Sx c N) (U := cM Sm N) hE hn (kp_in (cX_kp Sx c N) (by decide)) (kp_in (cM_kp Sm N) (by decide)) (cX_gR Sx c N) hS s
  rw [nxt_eq e3 e4]
  have d1 : U1.1 20 (8 * b0) = 0 := dead_trim hb0 hc hn zN 0 (cM Sm N) U1 e3 (by omega) hS.1.2.1 e0
  obtain ⟨T1', U1', f1, f2, f3, f4, f5, f6, -⟩ := cut60 (S := cX Sx c N) (M := cM Sm N) (s := s) hn (fun o ho => by
    show Sx.1 14 o = N (8 * o + 2)
    rw [hS.2 o 2 ho (by omega) (by omega)]
    exact (hE.2.2.2.2.2.2.2.2.2.2 o ho).1) (cX_gR Sx c N) hS.1
  rw [e3] at f2
  cases f2
  have e96 : U1.1 20 96 = nI c := f6.2.1
  have kU : kp [8, 9, 20, 22, 23] Sm U1 := kp_trans (kp_in (cM_kp Sm N) (by decide)) (kp_in f4 (by decide))
  unfold f_X12_goYear at e4
  rw [livM hc e96, zb_def] at e4
  exact dead_7 hE hb0 hc zN 0 _ r U1 U2 e4 (by omega) kU e96 d1
/-! how many live, how many stand -/
def cntS (x : Int32) : Nat := sumN (fun k => if bt x k then 1 else 0) 12
theorem memF_cnt (x : Int32) : memF x = nI (cntS x) := by
  have := fold_cnt (g := fun acc k => acc + ((x >>> (nI k &&& 31)) &&& 1)) (f := fun k => if bt x k then 1 else 0) (n := 12) (fun j k hk => by
    show nI j + ((x >>> (nI k &&& 31)) &&& 1) = _
    rw [b_ask x (by omega)]
    by_cases h : bt x k = true
    · rw [if_pos h, if_pos h, nI_1]
    · rw [if_neg h, if_neg h]
      show nI j + nI 0 = _
      rw [nI_add]) 12 0 (Nat.le_refl _)
  rw [Nat.zero_add] at this
  exact this
theorem cntS_le (x : Int32) : cntS x ≤ 12 := by
  have : cntS x ≤ sumN (fun _ => 1) 12 := sumN_mono 12 fun i _ => by split <;> omega
  exact this
theorem cntS_mono {x y : Int32} (h : ∀ i, i < 12 → bt x i = true → bt y i = true) : cntS x ≤ cntS y := sumN_mono 12 fun i hi => by
  by_cases hx : bt x i = true
  · rw [if_pos hx, if_pos (h i hi hx)]; exact Nat.le_refl _
  · rw [if_neg hx]; exact Nat.zero_le _
theorem std_sub (lv : Nat → Bool) (am rp : Nat → Int32) {c : Nat} (hc : c ≤ 12) : ∀ i, i < 32 → bt (stdS lv am rp c) i = true → bt (mkS lv c) i = true := by
  intro i hi
  unfold stdS
  have : ∀ m, m ≤ c → bt (foldN (fun acc b => if bt (mkS lv c &&& (repS lv rp c ^^^ (-1))) b = true ∧ (am b < 0 ∨ (acc >>> (am b &&& 31)) &&& 1 = 1) then acc ||| (1 <<< (nI b &&& 31)) else acc) 0 m 0) i = true → bt (mkS lv c) i = true := by
    intro m
    induction m with
    | zero => intro _ h; rw [show foldN _ 0 0 (0 : Int32) = 0 from rfl, b_0] at h; cases h
    | succ m ih =>
      intro hm
      rw [foldN_snoc, Nat.zero_add]
      generalize foldN (fun acc b => if bt (mkS lv c &&& (repS lv rp c ^^^ (-1))) b = true ∧ (am b < 0 ∨ (acc >>> (am b &&& 31)) &&& 1 = 1) then acc ||| (1 <<< (nI b &&& 31)) else acc) 0 m 0 = z at ih ⊢
      have ih := ih (by omega)
      intro h
      by_cases hq : bt (mkS lv c &&& (repS lv rp c ^^^ (-1))) m = true ∧ (am m < 0 ∨ (z >>> (am m &&& 31)) &&& 1 = 1)
      · rw [if_pos hq, b_or, b_bit (by omega) hi] at h
        by_cases him : i = m
        · subst him
          have := hq.1
          rw [b_and] at this
          simp at this
          exact this.1
        · simp only [him, decide_false, Bool.or_false] at h
          exact ih h
      · rw [if_neg hq] at h
        exact ih h
  exact this c (Nat.le_refl c)
/-! ===== plan: the best row, told by itself ===== -/
def sI : Nat → Int32
  | 0 => -1
  | i + 1 => nI i
theorem sI_1 (i : Nat) : sI i + 1 = sI (i + 1) := by
  cases i with
  | zero => rfl
  | succ i => exact nI_1 i
theorem sI_sub (i : Nat) : nI i - 1 = sI i := by
  cases i with
  | zero => rfl
  | succ i =>
    show nI (i + 1) - 1 = nI i
    rw [← nI_1, Int32.add_sub_cancel]
/-- a row of cuts, the last one ahead -/
def cts : List Nat → Nat
  | [] => 0
  | i :: p => cts p + (if i = 0 then 0 else 1)
theorem cts_le (p : List Nat) : cts p ≤ p.length := by
  induction p with
  | nil => exact Nat.le_refl _
  | cons i p ih =>
    show cts p + _ ≤ p.length + 1
    split <;> omega
abbrev pB : Type := Option (Nat × Nat × List Nat)
def pBet (o t : Nat) : pB → Bool
  | none => true
  | some (m, f, _) => decide (m < o) || (decide (o = m) && decide (t < f))
def pJ (o t : Nat) (p : List Nat) (b : pB) : pB := if pBet o t b then some (o, t, p) else b
def pF (st : Nat) (val : List Nat → Nat) : Nat → List Nat → pB → pB
  | 0, p, b => pJ (val p) (cts p) p b
  | r + 1, p, b => foldN (fun b i => pF st val r (i :: p) b) 0 (st + 1) b
theorem pBet_anti {o o' t t' : Nat} {b : pB} (ho : o ≤ o') (ht : t' ≤ t) (h : pBet o' t' b = false) : pBet o t b = false := by
  match b with
  | none => cases h
  | some (m, f, p) =>
    simp only [pBet, Bool.or_eq_false_iff, Bool.and_eq_false_iff, decide_eq_false_iff_not] at h ⊢
    omega
theorem pJ_keep {o t o' t' : Nat} {p : List Nat} {b : pB} (h : pBet o t b = false) : pBet o t (pJ o' t' p b) = false := by
  unfold pJ
  by_cases hb : pBet o' t' b = true
  · rw [if_pos hb]
    match b with
    | none => cases h
    | some (m, f, q) =>
      simp only [pBet, Bool.or_eq_false_iff, Bool.and_eq_false_iff, decide_eq_false_iff_not, Bool.or_eq_true, Bool.and_eq_true, decide_eq_true_eq] at h hb ⊢
      omega
  · rw [if_neg hb]; exact h
theorem foldN_keep {α : Type} {g : α → Nat → α} {P : α → Prop} : ∀ (m b : Nat) (a : α), (∀ a i, b ≤ i → i < b + m → P a → P (g a i)) → P a → P (foldN g b m a)
  | 0, _, _, _, h => h
  | m + 1, b, a, hg, h => foldN_keep m (b + 1) (g a b) (fun a i h1 h2 => hg a i (by omega) (by omega)) (hg a b (by omega) (by omega) h)
theorem pF_keep {st o t : Nat} {val : List Nat → Nat} : ∀ (r : Nat) (p : List Nat) (b : pB), pBet o t b = false → pBet o t (pF st val r p b) = false
  | 0, p, b, h => pJ_keep h
  | r + 1, p, b, h => foldN_keep (P := fun b => pBet o t b = false) (st + 1) 0 b (fun b i _ _ h => pF_keep r (i :: p) b h) h
/-- all rows behind p are dominated -/
def pD (st : Nat) (val : List Nat → Nat) : Nat → List Nat → pB → Prop
  | 0, p, b => pBet (val p) (cts p) b = false
  | r + 1, p, b => ∀ i, i < st + 1 → pD st val r (i :: p) b
theorem pD_keep {st : Nat} {val : List Nat → Nat} {g : pB → pB} (hg : ∀ o t b, pBet o t b = false → pBet o t (g b) = false) : ∀ (r : Nat) (p : List Nat) (b : pB), pD st val r p b → pD st val r p (g b)
  | 0, p, b, h => hg _ _ b h
  | r + 1, p, b, h => fun i hi => pD_keep hg r (i :: p) b (h i hi)
theorem pfold_id {g : pB → Nat → pB} : ∀ (m k : Nat) (b : pB), (∀ i, k ≤ i → i < k + m → g b i = b) → foldN g k m b = b
  | 0, _, _, _ => rfl
  | m + 1, k, b, h => by
    show foldN g (k + 1) m (g b k) = b
    rw [h k (by omega) (by omega)]
    exact pfold_id m (k + 1) b (fun i h1 h2 => h i (by omega) (by omega))
theorem pD_id {st : Nat} {val : List Nat → Nat} : ∀ (r : Nat) (p : List Nat) (b : pB), pD st val r p b → pF st val r p b = b
  | 0, p, b, h => by
    show pJ _ _ p b = b
    unfold pJ
    rw [if_neg (by rw [show pBet (val p) (cts p) b = false from h]; decide)]
  | r + 1, p, b, h => pfold_id (st + 1) 0 b fun i _ hi => pD_id r (i :: p) b (h i (by omega))
theorem pF_D {st : Nat} {val : List Nat → Nat} : ∀ (r : Nat) (p : List Nat) (b : pB), pD st val r p (pF st val r p b)
  | 0, p, b => by
    show pBet _ _ (pJ _ _ p b) = false
    unfold pJ
    by_cases hb : pBet (val p) (cts p) b = true
    · rw [if_pos hb]
      simp [pBet]
    · rw [if_neg hb]
      simpa using hb
  | r + 1, p, b => fun i hi => by
    show pD st val r (i :: p) (foldN (fun b i => pF st val r (i :: p) b) 0 (st + 1) b)
    rw [show st + 1 = (i + 1) + (st - i) by omega, foldN_add, foldN_snoc, Nat.zero_add, Nat.zero_add]
    refine foldN_keep (P := fun b => pD st val r (i :: p) b) (st - i) (i + 1) _ (fun b j _ _ h => pD_keep (g := fun b => pF st val r (j :: p) b) (fun o t b h => pF_keep r (j :: p) b h) r (i :: p) b h) (pF_D r (i :: p) _)
/-- what can't win is left out -/
theorem pF_prune {st : Nat} {val lv : List Nat → Nat} (h1 : ∀ p, val p ≤ lv p) (h2 : ∀ i p, lv (i :: p) ≤ lv p) : ∀ (r : Nat) (p : List Nat) (b : pB), pBet (lv p) (cts p) b = false → pD st val r p b
  | 0, p, b, h => pBet_anti (h1 p) (Nat.le_refl _) h
  | r + 1, p, b, h => fun i _ => pF_prune h1 h2 r (i :: p) b (pBet_anti (h2 i p) (by show cts p ≤ cts p + _; omega) h)
/-- rows as numbers -/
def pl_ (st : Nat) : Nat → Nat → List Nat
  | 0, _ => []
  | r + 1, v => (v % (st + 1)) :: pl_ st r (v / (st + 1))
theorem pl_len (st : Nat) : ∀ (r v : Nat), (pl_ st r v).length = r
  | 0, _ => rfl
  | r + 1, v => by
    show (pl_ st r _).length + 1 = r + 1
    rw [pl_len st r]
theorem foldN_off {α : Type} (g : α → Nat → α) : ∀ (m k : Nat) (a : α), foldN g k m a = foldN (fun a j => g a (k + j)) 0 m a
  | 0, _, _ => rfl
  | m + 1, k, a => by
    show foldN g (k + 1) m (g a k) = foldN (fun a j => g a (k + j)) (0 + 1) m (g a (k + 0))
    rw [foldN_off g m (k + 1) (g a k), foldN_shift, Nat.add_zero]
    exact foldN_congr m 0 _ fun a i _ _ => by rw [show k + 1 + i = k + (i + 1) by omega]
theorem foldN_mul {α : Type} (g : α → Nat → α) (m : Nat) : ∀ (B k : Nat) (a : α), foldN g (k * m) (B * m) a = foldN (fun a i => foldN (fun a j => g a (i * m + j)) 0 m a) k B a
  | 0, k, a => by rw [Nat.zero_mul]; rfl
  | B + 1, k, a => by
    rw [show (B + 1) * m = m + B * m by rw [Nat.succ_mul]; omega, foldN_add, show k * m + m = (k + 1) * m by rw [Nat.succ_mul], foldN_mul g m B (k + 1)]
    show foldN _ (k + 1) B (foldN g (k * m) m a) = foldN _ (k + 1) B (foldN (fun a j => g a (k * m + j)) 0 m a)
    rw [foldN_off g m (k * m) a]
theorem pF_rows {st : Nat} {val : List Nat → Nat} : ∀ (r d a : Nat) (b : pB), pF st val r (pl_ st d a) b = foldN (fun b j => pJ (val (pl_ st (d + r) (a * (st + 1) ^ r + j))) (cts (pl_ st (d + r) (a * (st + 1) ^ r + j))) (pl_ st (d + r) (a * (st + 1) ^ r + j)) b) 0 ((st + 1) ^ r) b
  | 0, d, a, b => by
    show pJ _ _ _ b = pJ _ _ _ b
    rw [Nat.pow_zero, Nat.mul_one, Nat.add_zero, Nat.add_zero]
  | r + 1, d, a, b => by
    have e : (st + 1) ^ (r + 1) = (st + 1) * (st + 1) ^ r := by rw [Nat.pow_succ, Nat.mul_comm]
    have h0 : ∀ g : pB → Nat → pB, foldN g 0 ((st + 1) * (st + 1) ^ r) b = foldN g (0 * (st + 1) ^ r) ((st + 1) * (st + 1) ^ r) b := fun g => by rw [Nat.zero_mul]
    rw [e, h0, foldN_mul]
    refine foldN_congr (st + 1) 0 b fun b i _ hi => ?_
    have hp : i :: pl_ st d a = pl_ st (d + 1) (a * (st + 1) + i) := by
      show _ = ((a * (st + 1) + i) % (st + 1)) :: pl_ st d ((a * (st + 1) + i) / (st + 1))
      rw [Nat.mul_comm a, Nat.mul_add_mod, Nat.mod_eq_of_lt (by omega), Nat.mul_add_div (by omega), Nat.div_eq_of_lt (by omega), Nat.add_zero]
    rw [hp, pF_rows r (d + 1) (a * (st + 1) + i) b]
    refine foldN_congr ((st + 1) ^ r) 0 b fun b j _ _ => ?_
    rw [show d + 1 + r = d + (r + 1) by omega, show (a * (st + 1) + i) * (st + 1) ^ r + j = a * ((st + 1) * (st + 1) ^ r) + (i * (st + 1) ^ r + j) by rw [Nat.add_mul, Nat.mul_assoc, Nat.add_assoc]]
