/-! ===== a year ===== -/
def bOk (st pl tp c : Nat) (N : Nat → Int32) : Prop := c ≤ 12 ∧ N 96 = nI c ∧ ∀ b, b < c → isI 0 99 (N (8 * b)) ∧ (∃ s : Nat, s < st ∧ N (8 * b + 2) = nI s) ∧ (∃ p : Nat, p < pl ∧ N (8 * b + 3) = nI p) ∧ isI (-1) (tp - 1) (N (8 * b + 4)) ∧ isI (-9) 9 (N (8 * b + 5)) ∧ isI (-1) (b - 1) (N (8 * b + 6)) ∧ isI (-1) (b - 1) (N (8 * b + 7))
theorem ok_b {st pl tp c : Nat} {N : Nat → Int32} (h : okN st pl tp c N) : bOk st pl tp c N := ⟨h.1, h.2.1, h.2.2.2.2⟩
theorem bOk_congr {st pl tp c : Nat} {N N' : Nat → Int32} (h : bOk st pl tp c N) (e : ∀ i, i < 99 → N' i = N i) : bOk st pl tp c N' := by
  obtain ⟨h1, h2, h3⟩ := h
  refine ⟨h1, (e 96 (by omega)).trans h2, fun b hb => ?_⟩
  rw [e _ (by omega), e _ (by omega), e _ (by omega), e _ (by omega), e _ (by omega), e _ (by omega), e _ (by omega)]
  exact h3 b hb
/-- the class's growth rows against the reference's air -/
def gR (c : Nat) (A G L Ag : Nat → Int32) : Prop := G 0 = nI c ∧ G 1 = A 97 ∧ G 2 = A 98 ∧ ∀ b, b < c → L b = A (8 * b) ∧ Ag b = A (8 * b + 1)
theorem i0 : (0 : Int32).toInt = 0 := rfl
theorem i1 : (1 : Int32).toInt = 1 := rfl
theorem i2 : (2 : Int32).toInt = 2 := rfl
theorem i99 : (99 : Int32).toInt = 99 := rfl
/-! near -/
def nrP (A : Nat → Int32) (b o : Nat) : Bool := !decide (o = b) && (liv A o && decide (apF (A (8 * o + 2)) (A (8 * b + 2)) < 2))
def nrN (A : Nat → Int32) (c b : Nat) : Int32 := foldN (fun acc o => if nrP A b o then acc + 1 else acc) 0 c 0
theorem nearM {S : zS} {c b : Nat} (hc : c ≤ 12) (e : S.1 20 96 = nI c) (hb : b < 12) : f_X12_near (nI b) S = some (nrN (S.1 20) c b, S) := by
  have h := loopN (f := fun n acc o S => f_X12_near_L4 n (nI b) acc o S) (S := S) (c := c) (g := fun acc o => if nrP (S.1 20) b o then acc + 1 else acc) (fun n acc o ho => by
    have k1 : f_X12_near_B50 (f_X12_near_L4 n) (nI b) (nI o) 1 acc S = f_X12_near_L4 n (nI b) (acc + 1) (nI (o + 1)) S := by
      unfold f_X12_near_B50
      rw [truth1, zb_def, zlet_def, zlet_def, nI_1]
    have k0 : f_X12_near_B50 (f_X12_near_L4 n) (nI b) (nI o) 0 acc S = f_X12_near_L4 n (nI b) acc (nI (o + 1)) S := by
      unfold f_X12_near_B50
      rw [truth0, zb_def, zlet_def, zlet_def, nI_1, show acc + 0 = acc by grind]
    show f_X12_near_L4 (n + 1) (nI b) acc (nI o) S = _
    rw [f_X12_near_L4, billsM e, zb_def, if_pos (nI_lt ho (by omega)), k0, livesM (by omega), zb_def, k0, of2 (by omega), zb_def, of2 (by omega), zb_def, apartM, zb_def, k0, k1, z01]
    unfold nrP
    by_cases h1 : o = b
    · subst h1
      rw [if_pos rfl, if_neg (by simp)]
    · have h1' : ¬ nI o = nI b := fun z => h1 ((nI_eq (by omega) (by omega)).mp z)
      rw [if_neg h1']
      by_cases h2 : liv (S.1 20) o = true
      · rw [if_pos h2]
        by_cases h3 : apF (S.1 20 (8 * o + 2)) (S.1 20 (8 * b + 2)) < 2
        · rw [if_pos h3, if_pos (by simp [h1, h2, h3])]
        · rw [if_neg h3, if_neg (by simp [h3])]
      · rw [if_neg h2, if_neg (by simp [h2])]) (fun n acc => by
    show f_X12_near_L4 (n + 1) (nI b) acc (nI c) S = _
    rw [f_X12_near_L4, billsM e, zb_def, if_neg (nI_nlt (Nat.le_refl c) (by omega))]) c 0 zN 0 (by omega) (by show c < 10000; omega)
  exact h
theorem nearX {S : zS} {A : Nat → Int32} {c b st : Nat} (hst : st ≤ 12) (hc : c ≤ 12) (hb : b < c) (hk : ∀ o, o < c → S.1 14 o = A (8 * o + 2)) (hs : ∀ o, o < c → ∃ s : Nat, s < st ∧ A (8 * o + 2) = nI s) : f_X1_othersNear_13 (nI b) (mkS (liv A) c) S = some (nrN A c b, S) := by
  unfold f_X1_othersNear_13
  rw [if_neg (nI_not_neg (by omega)), if_pos (show nI b < 12 from nI_lt (b := 12) (by omega) (by omega))]
  have hzb : zin (nI b) 12 := vp_in_nI (by omega) (by omega)
  have h := loopN (f := fun n acc o S => f_X1_othersNear_13_L17 n (nI b) (mkS (liv A) c) acc o S) (S := S) (c := 12) (g := fun acc o => if (decide (o < c) && nrP A b o) then acc + 1 else acc) (fun n acc o ho => by
    have hzo : zin (nI o) 12 := vp_in_nI ho (by omega)
    show f_X1_othersNear_13_L17 (n + 1) (nI b) (mkS (liv A) c) acc (nI o) S = _
    rw [f_X1_othersNear_13_L17, if_pos (show nI o < 12 from nI_lt (b := 12) ho (by omega)), if_pos hzo, if_pos hzb, nI_clamp (by omega), nI_clamp (by omega)]
    simp only [b_ask0 (mkS (liv A) c) (show o < 31 by omega), bt_mkS (liv A) (show o < 32 by omega) c (by omega), zlet_def, nI_1]
    by_cases hoc : o < c
    · by_cases h1 : o = b
      · subst h1
        rw [if_pos rfl, if_neg (by simp [nrP])]
      · have h1' : ¬ nI o = nI b := fun z => h1 ((nI_eq (by omega) (by omega)).mp z)
        rw [if_neg h1', hk o hoc, hk b hb]
        obtain ⟨s, hs1, es⟩ := hs o hoc
        obtain ⟨t, ht1, et⟩ := hs b hb
        have hap := apart_abs (a := A (8 * o + 2)) (b := A (8 * b + 2)) (by rw [es, nI_toInt (by omega)]; omega) (by rw [et, nI_toInt (by omega)]; omega)
        rw [← hap]
        by_cases h2 : liv A o = true
        · rw [if_neg (by simp [hoc, h2])]
          by_cases h3 : apF (A (8 * o + 2)) (A (8 * b + 2)) < 2
          · have h3' : ¬ (1 : Int32) < apF (A (8 * o + 2)) (A (8 * b + 2)) := fun z => by
              rw [Int32.lt_iff_toInt_lt, i2] at h3
              rw [Int32.lt_iff_toInt_lt, i1] at z
              omega
            rw [if_neg h3', if_pos (by simp [nrP, hoc, h1, h2, h3])]
          · have h3' : (1 : Int32) < apF (A (8 * o + 2)) (A (8 * b + 2)) := by
              rw [Int32.lt_iff_toInt_lt, i2] at h3
              rw [Int32.lt_iff_toInt_lt, i1]
              omega
            rw [if_pos h3', if_neg (by simp [nrP, h3])]
        · rw [if_pos (by simp [h2]), if_neg (by simp [nrP, h2])]
    · have h1' : ¬ nI o = nI b := fun z => by have := (nI_eq (a := o) (by omega) (by omega)).mp z; omega
      rw [if_neg h1', if_pos (by simp [hoc]), if_neg (by simp [hoc])]) (fun n acc => by
    show f_X1_othersNear_13_L17 (n + 1) (nI b) (mkS (liv A) c) acc (nI 12) S = _
    rw [f_X1_othersNear_13_L17, if_neg (by decide)]) 12 0 zN 0 rfl (by decide)
  refine h.trans (congrArg (fun z => some (z, S)) ?_)
  have e12 : (12 : Nat) = c + (12 - c) := by omega
  conv => lhs; rw [e12]
  rw [foldN_add, Nat.zero_add, foldN_id (12 - c) c _ (fun a i h1 h2 => if_neg (by simp; omega))]
  exact foldN_congr c 0 0 fun a i _ hi => by rw [show decide (i < c) = true by simp; omega, Bool.true_and]
/-! a life, grown or lessened -/
def clL (v : Int32) : Int32 := if v < 0 then 0 else if 99 < v then 99 else v
theorem clampX (v : Int32) : zmax 0 (zmin 99 v) = clL v := by
  unfold zmax zmin clL
  by_cases h1 : v < 0
  · have h2 : v < 99 := Int32.lt_trans h1 (by decide)
    rw [if_pos h2, if_pos h1, if_neg (fun z => Int32.lt_irrefl (Int32.lt_trans h1 z))]
  · rw [if_neg h1]
    by_cases h2 : 99 < v
    · rw [if_pos h2, if_neg (fun z => Int32.lt_irrefl (Int32.lt_trans h2 z)), if_pos (by decide)]
    · rw [if_neg h2]
      have e1 : ¬ v.toInt < 0 := fun z => h1 (Int32.lt_iff_toInt_lt.mpr (by rw [i0]; exact z))
      have e2 : ¬ 99 < v.toInt := fun z => h2 (Int32.lt_iff_toInt_lt.mpr (by rw [i99]; exact z))
      by_cases h3 : v < 99
      · rw [if_pos h3]
        by_cases h4 : 0 < v
        · rw [if_pos h4]
        · rw [if_neg h4]
          have e4 : ¬ 0 < v.toInt := fun z => h4 (Int32.lt_iff_toInt_lt.mpr (by rw [i0]; exact z))
          rw [← Int32.toInt_inj, i0]; omega
      · rw [if_neg h3, if_pos (by decide)]
        have e3 : ¬ v.toInt < 99 := fun z => h3 (Int32.lt_iff_toInt_lt.mpr (by rw [i99]; exact z))
        rw [← Int32.toInt_inj, i99]; omega
theorem clL_is (v : Int32) : isI 0 99 (clL v) := by
  unfold clL
  by_cases h1 : v < 0
  · rw [if_pos h1]; exact ⟨0, by omega, by omega, rfl⟩
  · rw [if_neg h1]
    by_cases h2 : 99 < v
    · rw [if_pos h2]; exact ⟨99, by omega, by omega, rfl⟩
    · rw [if_neg h2]
      have e1 : ¬ v.toInt < 0 := fun z => h1 (Int32.lt_iff_toInt_lt.mpr (by rw [i0]; exact z))
      have e2 : ¬ 99 < v.toInt := fun z => h2 (Int32.lt_iff_toInt_lt.mpr (by rw [i99]; exact z))
      exact isI_of (by omega) (by omega)
/-- lessened by n -/
def leL (l n : Int32) : Int32 := if n < l then l - n else 0
theorem lessX {l n : Int32} (hl : isI 0 99 l) (hn : isI 1 99 n) : zmax 0 (l - n) = leL l n ∧ isI 0 99 (leL l n) := by
  obtain ⟨l1, l2⟩ := isI_toInt hl (by omega) (by omega)
  obtain ⟨n1, n2⟩ := isI_toInt hn (by omega) (by omega)
  have hs : (l - n).toInt = l.toInt - n.toInt := i_sub (by omega) (by omega) (by omega) (by omega)
  unfold zmax leL
  by_cases h : n < l
  · have h' := Int32.lt_iff_toInt_lt.mp h
    have : (0 : Int32) < l - n := Int32.lt_iff_toInt_lt.mpr (by rw [hs, i0]; omega)
    rw [if_pos h, if_pos this]
    exact ⟨rfl, isI_of (by omega) (by omega)⟩
  · have h' : ¬ n.toInt < l.toInt := fun z => h (Int32.lt_iff_toInt_lt.mpr z)
    have : ¬ (0 : Int32) < l - n := fun z => by
      have := Int32.lt_iff_toInt_lt.mp z
      rw [hs, i0] at this
      omega
    rw [if_neg h, if_neg this]
    exact ⟨rfl, ⟨0, by omega, by omega, rfl⟩⟩
theorem lessM {S : zS} {b : Nat} (hb : b < 12) (n : Int32) : f_X12_lessen (nI b) n S = some (zput S 20 (8 * b) (leL (S.1 20 (8 * b)) n)) := by
  unfold f_X12_lessen f_X12_lessen_B32 leL
  have e8 : (8 : Int32) * nI b + 0 = nI (8 * b) := nI_8 b 0
  have hz : zin (nI (8 * b)) 99 := vp_in_nI (by omega) (by omega)
  rw [of0 hb, zb_def, of0 hb, zb_def, e8, if_pos hz, if_pos hz, nI_clamp (by omega), zlet_def, zlet_def]
  by_cases h : n < S.1 20 (8 * b)
  · rw [if_pos h, if_pos h]
  · rw [if_neg h, if_neg h]
/-- the air after bill b has a new life l and age a -/
theorem bOk_life {st pl tp c b : Nat} {A : Nat → Int32} {l : Int32} (h : bOk st pl tp c A) (hb : b < 12) (hl : isI 0 99 l) : bOk st pl tp c (upd A (8 * b) l) := by
  obtain ⟨h1, h2, h3⟩ := h
  refine ⟨h1, (upd_ne _ _ _ _ (by omega)).trans h2, fun o ho => ?_⟩
  obtain ⟨k1, k2⟩ := h3 o ho
  rw [upd_ne A (8 * b) (8 * o + 2) l (by omega), upd_ne A (8 * b) (8 * o + 3) l (by omega), upd_ne A (8 * b) (8 * o + 4) l (by omega), upd_ne A (8 * b) (8 * o + 5) l (by omega), upd_ne A (8 * b) (8 * o + 6) l (by omega), upd_ne A (8 * b) (8 * o + 7) l (by omega)]
  refine ⟨?_, k2⟩
  by_cases hob : o = b
  · subst hob; rw [upd_at]; exact hl
  · rw [upd_ne _ _ _ _ (by omega)]; exact k1
theorem bOk_oth {st pl tp c i : Nat} {A : Nat → Int32} {x : Int32} (h : bOk st pl tp c A) (hi : i % 8 = 1 ∧ i < 96 ∨ 96 < i) : bOk st pl tp c (upd A i x) := by
  obtain ⟨h1, h2, h3⟩ := h
  refine ⟨h1, (upd_ne _ _ _ _ (by omega)).trans h2, fun o ho => ?_⟩
  have := h3 o ho
  rw [upd_ne A i (8 * o) x (by omega), upd_ne A i (8 * o + 2) x (by omega), upd_ne A i (8 * o + 3) x (by omega), upd_ne A i (8 * o + 4) x (by omega), upd_ne A i (8 * o + 5) x (by omega), upd_ne A i (8 * o + 6) x (by omega), upd_ne A i (8 * o + 7) x (by omega)]
  exact this
theorem mkS_life {A : Nat → Int32} {c b : Nat} {l : Int32} (hc : c ≤ 12) (hb : b < c) (hlv : liv A b = true) (hl : isI 0 99 l) : mkS (liv (upd A (8 * b) l)) c = if l = 0 then mkS (liv A) c &&& ((1 <<< (nI b &&& 31)) ^^^ (-1)) else mkS (liv A) c := by
  obtain ⟨l1, l2⟩ := isI_toInt hl (by omega) (by omega)
  by_cases h0 : l = 0
  · rw [if_pos h0]
    symm
    refine mkS_of (by omega) fun i hi => ?_
    rw [mkS_less _ (by omega) (by omega) i hi]
    congr 1
    subst h0
    exact (liv_kil A b i).symm
  · rw [if_neg h0]
    refine mkS_congr fun i hi => ?_
    unfold liv at hlv ⊢
    by_cases hib : i = b
    · subst hib
      rw [upd_at, hlv, decide_eq_true_eq, Int32.lt_iff_toInt_lt, i0]
      have : ¬ l.toInt = 0 := fun z => h0 (by rw [← Int32.toInt_inj, i0]; exact z)
      omega
    · rw [upd_ne _ _ _ _ (by omega)]
theorem mkS_oth {A : Nat → Int32} {c i : Nat} {x : Int32} (hi : i % 8 = 1 ∨ 96 < i) (hc : c ≤ 12) : mkS (liv (upd A i x)) c = mkS (liv A) c := mkS_congr fun b hb => by
  unfold liv
  rw [upd_ne _ _ _ _ (by omega)]
/-! ===== a year of growth row 40 ===== -/
/-- between the start (S, M) and now (T, U) only the growth went on -/
def yI40 (st pl tp c : Nat) (y s : Int32) (S M T U : zS) : Prop := kp [40, 41, 42, 11, 12] S T ∧ kp [8, 9, 20] M U ∧ gR c (U.1 20) (T.1 40) (T.1 41) (T.1 42) ∧ bOk st pl tp c (U.1 20) ∧ (∀ b j, b < c → 2 ≤ j → j < 8 → U.1 20 (8 * b + j) = M.1 20 (8 * b + j)) ∧ U.1 20 97 = y ∧ U.1 20 98 = s
theorem grow40 {st pl tp c : Nat} {y s : Int32} {S M : zS} (hst : st ≤ 12) (hF : rFm (S.1 9 0) (S.1 9 1) (M.1 0 21) (M.1 0 18) (M.1 0 52) (S.1 10) (M.1 5) (M.1 6)) (hk : ∀ o, o < c → S.1 14 o = M.1 20 (8 * o + 2)) (hI : yI40 st pl tp c y s S M S M) (w : Int32) : ∃ T U, f_X3_growAll_40_5 S = some T ∧ f_X12_goYear_L7 zN w 0 M = f_X12_goYear_L177 zN w 0 (zput U 20 98 (zrem (((U.1 20 98) * 137) + 71) 1000)) ∧ yI40 st pl tp c y s S M T U := by
  have hc := hI.2.2.2.1.1
  have e0 : S.1 40 0 = nI c := hI.2.2.1.1
  unfold f_X3_growAll_40_5
  rw [livX40 hc e0, zb_def, show mkS (fun b => decide (0 < S.1 41 b)) c = mkS (liv (M.1 20)) c from mkS_congr fun b hb => by unfold liv; rw [(hI.2.2.1.2.2.2 b hb).1]]
  refine loopR (f := fun n (a : Int32 × zS) b => f_X3_growAll_40_5_L13 n a.1 (nI b) a.2) (f' := fun n (U : zS) b => f_X12_goYear_L7 n w (nI b) U) (fun _ a U => a.1 = mkS (liv (U.1 20)) c ∧ yI40 st pl tp c y s S M a.2 U) (fun o o' => ∃ T U, o = some T ∧ o' = f_X12_goYear_L177 zN w 0 (zput U 20 98 (zrem (((U.1 20 98) * 137) + 71) 1000)) ∧ yI40 st pl tp c y s S M T U) (c := c) ?_ ?_ c 0 zN zN (_, S) M (by omega) (by show c < 10000; omega) (by show c < 10000; omega) ⟨rfl, hI⟩
  · rintro n n' ⟨x3, T⟩ U b hb ⟨hx, kT, kU, ⟨g0, g1, g2, g3⟩, hok, hfix, h97, h98⟩
    dsimp only at hx kT g0 g1 g2 g3 ⊢
    subst hx
    obtain ⟨-, e96, hbl⟩ := hok
    have hok : bOk st pl tp c (U.1 20) := ⟨hc, e96, hbl⟩
    have hlt : nI b < nI c := nI_lt hb (by omega)
    have h12 : nI b < 12 := nI_lt (b := 12) (by omega) (by omega)
    have hz : zin (nI b) 12 := vp_in_nI (by omega) (by omega)
    have hcl : (nI b).toNatClampNeg = b := nI_clamp (by omega)
    obtain ⟨gl, ga⟩ := g3 b hb
    by_cases hlv : liv (U.1 20) b = true
    · have hpos : (0 : Int32) < T.1 41 b := by rw [gl]; unfold liv at hlv; simpa using hlv
      have T14 : T.1 14 = S.1 14 := kT.2 14 (by decide)
      have hnear : f_X1_othersNear_13 (nI b) (mkS (liv (U.1 20)) c) T = some (nrN (U.1 20) c b, T) := nearX hst hc hb (fun o ho => by rw [T14, hk o ho, hfix o 2 ho (by omega) (by omega)]) (fun o ho => (hbl o ho).2.1)
      -- what the reference asks
      have hask : ∃ W, f_X12_goYear_L7 (n' + 1) w (nI b) U = (zb (f_X12_grown W) fun r31 T30 => zlet ((U.1 20 (8 * b)) + r31) fun v32 => if v32 < 0 then f_X12_goYear_B128 (f_X12_goYear_L7 n') w (nI b) 0 ((8 * nI b) + 0) T30 else if (99 : Int32) < v32 then f_X12_goYear_B128 (f_X12_goYear_L7 n') w (nI b) 99 ((8 * nI b) + 0) T30 else f_X12_goYear_B128 (f_X12_goYear_L7 n') w (nI b) v32 ((8 * nI b) + 0) T30) ∧ kp [9] U W ∧ W.1 9 0 = U.1 20 (8 * b) ∧ W.1 9 1 = U.1 20 (8 * b + 1) ∧ W.1 9 2 = U.1 20 (8 * b + 2) ∧ W.1 9 3 = nrN (U.1 20) c b ∧ W.1 9 4 = U.1 20 97 := by
        refine ⟨zput (zput (zput (zput (zput U 9 0 (U.1 20 (8 * b))) 9 1 (U.1 20 (8 * b + 1))) 9 2 (U.1 20 (8 * b + 2))) 9 3 (nrN (U.1 20) c b)) 9 4 (U.1 20 97), ?_, ?_, rfl, rfl, rfl, rfl, rfl⟩
        · rw [f_X12_goYear_L7, billsM e96, zb_def, if_pos hlt, livesM (by omega), zb_def, z01, if_pos hlv, of0 (by omega), zb_def, zlet_def, of1 (by omega), zb_def, zlet_def, of2 (by omega), zb_def, zlet_def]
          have hn : f_X12_near (nI b) (zput (zput (zput U 9 0 (U.1 20 (8 * b))) 9 1 (U.1 20 (8 * b + 1))) 9 2 (U.1 20 (8 * b + 2))) = some (nrN (U.1 20) c b, zput (zput (zput U 9 0 (U.1 20 (8 * b))) 9 1 (U.1 20 (8 * b + 1))) 9 2 (U.1 20 (8 * b + 2))) := nearM (S := zput (zput (zput U 9 0 (U.1 20 (8 * b))) 9 1 (U.1 20 (8 * b + 1))) 9 2 (U.1 20 (8 * b + 2))) hc e96 (by omega)
          rw [show zput (zput (zput U 9 (Int32.toNatClampNeg 0) (U.1 20 (8 * b))) 9 (Int32.toNatClampNeg 1) ((zput U 9 (Int32.toNatClampNeg 0) (U.1 20 (8 * b))).1 20 (8 * b + 1))) 9 (Int32.toNatClampNeg 2) ((zput (zput U 9 (Int32.toNatClampNeg 0) (U.1 20 (8 * b))) 9 (Int32.toNatClampNeg 1) ((zput U 9 (Int32.toNatClampNeg 0) (U.1 20 (8 * b))).1 20 (8 * b + 1))).1 20 (8 * b + 2)) = zput (zput (zput U 9 0 (U.1 20 (8 * b))) 9 1 (U.1 20 (8 * b + 1))) 9 2 (U.1 20 (8 * b + 2)) from rfl, hn, zb_def, zlet_def, zlet_def, of0 (by omega), zb_def]
          rfl
        · refine kp_trans (kp_trans (kp_trans (kp_trans (kp_put (by decide)) (kp_put (by decide))) (kp_put (by decide))) (kp_put (by decide))) (kp_put (by decide))
      obtain ⟨W, eW, kW, w0, w1, w2, w3, w4⟩ := hask
      have hFW : rFm (T.1 9 0) (T.1 9 1) (W.1 0 21) (W.1 0 18) (W.1 0 52) (T.1 10) (W.1 5) (W.1 6) := by
        rw [kT.2 9 (by decide), kT.2 10 (by decide), kW.2 0 (by decide), kW.2 5 (by decide), kW.2 6 (by decide), kU.2 0 (by decide), kU.2 5 (by decide), kU.2 6 (by decide)]
        exact hF
      obtain ⟨v, T', W', eX, eM, kT', kW'⟩ := formula hFW w0 w1 w2 w3 w4
      rw [eM, zb_def, zlet_def] at eW
      have hb8 : (8 : Int32) * nI b + 0 = nI (8 * b) := nI_8 b 0
      have hb81 : (8 : Int32) * nI b + 1 = nI (8 * b + 1) := nI_8 b 1
      have z8 : zin (nI (8 * b)) 99 := vp_in_nI (by omega) (by omega)
      have z81 : zin (nI (8 * b + 1)) 99 := vp_in_nI (by omega) (by omega)
      have W20 : W'.1 20 = U.1 20 := (kW'.2 20 (by decide)).trans (kW.2 20 (by decide))
      have hB : ∀ y : Int32, f_X12_goYear_B128 (f_X12_goYear_L7 n') w (nI b) y ((8 * nI b) + 0) W' = f_X12_goYear_L7 n' w (nI (b + 1)) (zput (zput W' 20 (8 * b) y) 20 (8 * b + 1) (U.1 20 (8 * b + 1) + 1)) := fun y => by
        unfold f_X12_goYear_B128
        rw [hb8, hb81, if_pos z8, zlet_def, if_pos z81, if_pos z81, zlet_def, zlet_def, nI_clamp (by omega), nI_clamp (by omega), nI_1, zput1_eq, upd_ne _ _ _ _ (by omega), W20]
      have eW2 : f_X12_goYear_L7 (n' + 1) w (nI b) U = f_X12_goYear_L7 n' w (nI (b + 1)) (zput (zput W' 20 (8 * b) (clL (U.1 20 (8 * b) + v))) 20 (8 * b + 1) (U.1 20 (8 * b + 1) + 1)) := by
        rw [eW, hB, hB, hB]
        unfold clL
        by_cases q1 : U.1 20 (8 * b) + v < 0
        · rw [if_pos q1, if_pos q1]
        · rw [if_neg q1, if_neg q1]
          by_cases q2 : 99 < U.1 20 (8 * b) + v
          · rw [if_pos q2, if_pos q2]
          · rw [if_neg q2, if_neg q2]
      -- the class
      have T'L : T'.1 41 = T.1 41 := kT'.2 41 (by decide)
      have T'A : T'.1 42 = T.1 42 := kT'.2 42 (by decide)
      have eX' : f_X2_result_9 (T.1 41 b) (T.1 42 b) (T.1 14 b) (nrN (U.1 20) c b) (T.1 40 1) T = some (v, T') := by
        rw [gl, ga, g1, T14, hk b hb, ← hfix b 2 hb (by omega) (by omega)]
        exact eX
      have eT2 : f_X3_growAll_40_5_L13 (n + 1) (mkS (liv (U.1 20)) c) (nI b) T = f_X3_growAll_40_5_L13 n (if clL (U.1 20 (8 * b) + v) = 0 then mkS (liv (U.1 20)) c &&& ((1 <<< (nI b &&& 31)) ^^^ (-1)) else mkS (liv (U.1 20)) c) (nI (b + 1)) (zput (zput T' 41 b (clL (U.1 20 (8 * b) + v))) 42 b (U.1 20 (8 * b + 1) + 1)) := by
        rw [f_X3_growAll_40_5_L13, g0, if_pos hlt, if_pos h12, if_pos hz]
        simp only [hcl]
        rw [if_pos hpos, hnear, zb_def, if_pos hz, if_pos hz, if_pos hz, eX', zb_def, if_pos hz, if_pos hz, zlet_def, if_pos hz, if_pos hz, zlet_def, if_pos hz, zlet_def, zlet_def, zlet_def, T'L, gl, clampX, nI_1]
        have q1 : (zput T' 41 b (clL (U.1 20 (8 * b) + v))).1 42 b = U.1 20 (8 * b + 1) := by
          rw [zput1_ne _ _ _ _ _ (by decide), T'A]; exact ga
        rw [q1]
        have q2 : (zput (zput T' 41 b (clL (U.1 20 (8 * b) + v))) 42 b (U.1 20 (8 * b + 1) + 1)).1 41 b = clL (U.1 20 (8 * b) + v) := by
          rw [zput1_ne _ _ _ _ _ (by decide), zput1_eq, upd_at]
        rw [q2]
        by_cases q3 : clL (U.1 20 (8 * b) + v) = 0
        · rw [if_pos q3, if_pos q3]
        · rw [if_neg q3, if_neg q3]
      have hcis := clL_is (U.1 20 (8 * b) + v)
      generalize clL (U.1 20 (8 * b) + v) = l at eT2 eW2 hcis
      refine ⟨(_, _), _, eT2, eW2, ?_, ?_, ?_, ?_, ?_, ?_, ?_, ?_⟩
      · show (if l = 0 then mkS (liv (U.1 20)) c &&& ((1 <<< (nI b &&& 31)) ^^^ (-1)) else mkS (liv (U.1 20)) c) = mkS (liv ((zput (zput W' 20 (8 * b) l) 20 (8 * b + 1) (U.1 20 (8 * b + 1) + 1)).1 20)) c
        rw [zput1_eq, zput1_eq, W20, mkS_oth (Or.inl (by omega)) hc, mkS_life hc hb hlv hcis]
      · exact kp_trans (kp_trans kT (kp_sub kT' (by decide))) (kp_trans (kp_put (by decide)) (kp_put (by decide)))
      · exact kp_trans (kp_trans kU (kp_trans (kp_sub kW (by decide)) (kp_sub kW' (by decide)))) (kp_trans (kp_put (by decide)) (kp_put (by decide)))
      · show gR c ((zput (zput W' 20 (8 * b) l) 20 (8 * b + 1) (U.1 20 (8 * b + 1) + 1)).1 20) ((zput (zput T' 41 b l) 42 b (U.1 20 (8 * b + 1) + 1)).1 40) ((zput (zput T' 41 b l) 42 b (U.1 20 (8 * b + 1) + 1)).1 41) ((zput (zput T' 41 b l) 42 b (U.1 20 (8 * b + 1) + 1)).1 42)
        rw [zput1_eq, zput1_eq, W20, zput1_ne _ _ _ _ _ (show 40 ≠ 42 by decide), zput1_ne _ _ _ _ _ (show 40 ≠ 41 by decide), zput1_ne _ _ _ _ _ (show 41 ≠ 42 by decide), zput1_eq, zput1_eq, zput1_ne _ _ _ _ _ (show 42 ≠ 41 by decide), T'L, T'A, kT'.2 40 (by decide)]
        refine ⟨g0, ?_, ?_, fun o ho => ?_⟩
        · rw [upd_ne _ _ _ _ (by omega), upd_ne _ _ _ _ (by omega)]; exact g1
        · rw [upd_ne _ _ _ _ (by omega), upd_ne _ _ _ _ (by omega)]; exact g2
        · by_cases hob : o = b
          · subst hob
            rw [upd_at, upd_at, upd_at, upd_ne _ _ _ _ (by omega), upd_at]
            exact ⟨rfl, rfl⟩
          · rw [upd_ne _ _ _ _ hob, upd_ne _ _ _ _ hob, upd_ne _ _ _ _ (by omega), upd_ne _ _ _ _ (by omega), upd_ne _ _ _ _ (by omega), upd_ne _ _ _ _ (by omega)]
            exact g3 o ho
      · show bOk st pl tp c ((zput (zput W' 20 (8 * b) l) 20 (8 * b + 1) (U.1 20 (8 * b + 1) + 1)).1 20)
        rw [zput1_eq, zput1_eq, W20]
        exact bOk_oth (bOk_life hok (by omega) hcis) (Or.inl ⟨by omega, by omega⟩)
      · intro o j ho h2 h8
        show (zput (zput W' 20 (8 * b) l) 20 (8 * b + 1) (U.1 20 (8 * b + 1) + 1)).1 20 (8 * o + j) = _
        rw [zput1_eq, zput1_eq, W20, upd_ne _ _ _ _ (by omega), upd_ne _ _ _ _ (by omega)]
        exact hfix o j ho h2 h8
      · show (zput (zput W' 20 (8 * b) l) 20 (8 * b + 1) (U.1 20 (8 * b + 1) + 1)).1 20 97 = _
        rw [zput1_eq, zput1_eq, W20, upd_ne _ _ _ _ (by omega), upd_ne _ _ _ _ (by omega)]
        exact h97
      · show (zput (zput W' 20 (8 * b) l) 20 (8 * b + 1) (U.1 20 (8 * b + 1) + 1)).1 20 98 = _
        rw [zput1_eq, zput1_eq, W20, upd_ne _ _ _ _ (by omega), upd_ne _ _ _ _ (by omega)]
        exact h98
    · have hnp : ¬ (0 : Int32) < T.1 41 b := by rw [gl]; unfold liv at hlv; simpa using hlv
      refine ⟨(mkS (liv (U.1 20)) c, T), U, ?_, ?_, rfl, kT, kU, ⟨g0, g1, g2, g3⟩, hok, hfix, h97, h98⟩
      · rw [f_X3_growAll_40_5_L13, g0, if_pos hlt, if_pos h12, if_pos hz]
        simp only [hcl]
        rw [if_neg hnp, zlet_def, nI_1]
      · rw [f_X12_goYear_L7, billsM e96, zb_def, if_pos hlt, livesM (by omega), zb_def, z01, if_neg hlv, zlet_def, nI_1]
  · rintro n n' ⟨x3, T⟩ U ⟨hx, hy⟩
    dsimp only at hx hy ⊢
    have e96 := hy.2.2.2.1.2.1
    refine ⟨T, U, ?_, ?_, hy⟩
    · rw [f_X3_growAll_40_5_L13, hy.2.2.1.1, if_neg (nI_nlt (Nat.le_refl c) (by omega))]
    · rw [f_X12_goYear_L7, billsM e96, zb_def, if_neg (nI_nlt (Nat.le_refl c) (by omega)), zlet_def]
      rfl
theorem frz40 {st pl tp c hb : Nat} {y s : Int32} {S M T U : zS} (hpl : pl ≤ 4) (h10 : S.1 5 10 = M.1 0 47) (hfo : isI 1 99 (M.1 0 47)) (h6 : S.1 5 6 = nI hb) (h17 : ∀ p, p < pl → M.1 17 p = if hb.testBit p then 1 else 0) (hk : ∀ o, o < c → S.1 15 o = M.1 20 (8 * o + 3)) (hfr : zrem s 100 < M.1 0 46) (hI : yI40 st pl tp c y s S M T U) (w : Int32) : ∃ T' U', f_X3_freeze_40_5 T = some T' ∧ f_X12_goYear_L177 zN w 0 U = f_X12_goYear_B231 w U' ∧ yI40 st pl tp c y s S M T' U' := by
  have hc := hI.2.2.2.1.1
  unfold f_X3_freeze_40_5
  refine loopR (f := fun n (T : zS) b => f_X3_freeze_40_5_L2 n (nI b) T) (f' := fun n (U : zS) b => f_X12_goYear_L177 n w (nI b) U) (fun _ T U' => yI40 st pl tp c y s S M T U') (fun o o' => ∃ T' U', o = some T' ∧ o' = f_X12_goYear_B231 w U' ∧ yI40 st pl tp c y s S M T' U') (c := c) ?_ ?_ c 0 zN zN T U (by omega) (by show c < 10000; omega) (by show c < 10000; omega) hI
  · rintro n n' T V b hbc ⟨kT, kU, ⟨g0, g1, g2, g3⟩, hok, hfix, h97, h98⟩
    obtain ⟨-, e96, hbl⟩ := hok
    have hok : bOk st pl tp c (V.1 20) := ⟨hc, e96, hbl⟩
    have hlt : nI b < nI c := nI_lt hbc (by omega)
    have h12 : nI b < 12 := nI_lt (b := 12) (by omega) (by omega)
    have hz : zin (nI b) 12 := vp_in_nI (by omega) (by omega)
    have hcl : (nI b).toNatClampNeg = b := nI_clamp (by omega)
    obtain ⟨gl, ga⟩ := g3 b hbc
    obtain ⟨k1, -, ⟨p, hp, ep⟩, -⟩ := hbl b hbc
    have T5 : T.1 5 = S.1 5 := kT.2 5 (by decide)
    have T15 : T.1 15 b = nI p := by rw [kT.2 15 (by decide), hk b hbc, ← hfix b 3 hbc (by omega) (by omega), ep]
    have hz4 : zin (nI p) 4 := vp_in_nI (by omega) (by omega)
    have V0 : V.1 0 = M.1 0 := kU.2 0 (by decide)
    have V17 : V.1 17 p = if hb.testBit p then 1 else 0 := by rw [kU.2 17 (by decide)]; exact h17 p hp
    have hfr' : zrem (V.1 20 98) 100 < V.1 0 46 := by rw [h98, V0]; exact hfr
    have hM : f_X12_goYear_L177 (n' + 1) w (nI b) V = if hb.testBit p = true then f_X12_goYear_L177 n' w (nI (b + 1)) V else f_X12_goYear_L177 n' w (nI (b + 1)) (zput V 20 (8 * b) (leL (V.1 20 (8 * b)) (M.1 0 47))) := by
      rw [f_X12_goYear_L177, billsM e96, zb_def, if_pos hlt, show Int32.toNatClampNeg 98 = 98 from rfl, if_pos hfr', of3 (by omega), zb_def, ep, if_pos hz4, nI_clamp (by omega), V17, lessM (by omega), zu_def, zlet_def, zlet_def, nI_1, V0]
      by_cases hh : hb.testBit p = true
      · rw [if_pos hh, if_pos hh, if_neg (by decide)]
      · rw [if_neg hh, if_neg hh, if_pos rfl]
    have hX : f_X3_freeze_40_5_L2 (n + 1) (nI b) T = if hb.testBit p = true then f_X3_freeze_40_5_L2 n (nI (b + 1)) T else f_X3_freeze_40_5_L2 n (nI (b + 1)) (zput T 41 b (leL (V.1 20 (8 * b)) (M.1 0 47))) := by
      rw [f_X3_freeze_40_5_L2, g0, if_pos hlt, if_pos h12, if_pos hz]
      simp only [hcl]
      rw [T5, T15, h6, b_ask (nI hb) (by omega), bt_nI hb (by omega), if_pos hz, if_pos hz, zlet_def, zlet_def, zlet_def, nI_1, gl, h10, (lessX k1 hfo).1]
      by_cases hh : hb.testBit p = true
      · rw [if_pos hh, if_pos hh, if_neg (by decide)]
      · rw [if_neg hh, if_neg hh, if_pos rfl]
    by_cases hh : hb.testBit p = true
    · rw [if_pos hh] at hM hX
      exact ⟨T, V, hX, hM, kT, kU, ⟨g0, g1, g2, g3⟩, hok, hfix, h97, h98⟩
    · rw [if_neg hh] at hM hX
      have hl := (lessX k1 hfo).2
      generalize leL (V.1 20 (8 * b)) (M.1 0 47) = l at hM hX hl
      refine ⟨_, _, hX, hM, kp_trans kT (kp_put (by decide)), kp_trans kU (kp_put (by decide)), ?_, ?_, ?_, ?_, ?_⟩
      · rw [zput1_eq, zput1_ne _ _ _ _ _ (show 40 ≠ 41 by decide), zput1_eq, zput1_ne _ _ _ _ _ (show 42 ≠ 41 by decide)]
        refine ⟨g0, ?_, ?_, fun o ho => ?_⟩
        · rw [upd_ne _ _ _ _ (by omega)]; exact g1
        · rw [upd_ne _ _ _ _ (by omega)]; exact g2
        · rw [upd_ne _ (8 * b) (8 * o + 1) l (by omega)]
          by_cases hob : o = b
          · subst hob
            rw [upd_at, upd_at]
            exact ⟨rfl, ga⟩
          · rw [upd_ne _ _ _ _ hob, upd_ne _ _ _ _ (by omega)]
            exact g3 o ho
      · rw [zput1_eq]; exact bOk_life hok (by omega) hl
      · intro o j ho h2 h8
        rw [zput1_eq, upd_ne _ _ _ _ (by omega)]
        exact hfix o j ho h2 h8
      · rw [zput1_eq, upd_ne _ _ _ _ (by omega)]; exact h97
      · rw [zput1_eq, upd_ne _ _ _ _ (by omega)]; exact h98
  · rintro n n' T V hy
    have e96 := hy.2.2.2.1.2.1
    refine ⟨T, V, ?_, ?_, hy⟩
    · rw [f_X3_freeze_40_5_L2, hy.2.2.1.1, if_neg (nI_nlt (Nat.le_refl c) (by omega))]
    · rw [f_X12_goYear_L177, billsM e96, zb_def, if_neg (nI_nlt (Nat.le_refl c) (by omega))]
theorem year40 {st pl tp c hb : Nat} {y s : Int32} {S M : zS} (hst : st ≤ 12) (hpl : pl ≤ 4) (hF : rFm (S.1 9 0) (S.1 9 1) (M.1 0 21) (M.1 0 18) (M.1 0 52) (S.1 10) (M.1 5) (M.1 6)) (h9 : S.1 5 9 = M.1 0 46) (h10 : S.1 5 10 = M.1 0 47) (hfo : isI 1 99 (M.1 0 47)) (h6 : S.1 5 6 = nI hb) (h17 : ∀ p, p < pl → M.1 17 p = if hb.testBit p then 1 else 0) (hk2 : ∀ o, o < c → S.1 14 o = M.1 20 (8 * o + 2)) (hk3 : ∀ o, o < c → S.1 15 o = M.1 20 (8 * o + 3)) (hI : yI40 st pl tp c y s S M S M) : ∃ T U, f_X3_passYear_40_5 S = some T ∧ f_X12_goYear M = some (memF (mkS (liv (M.1 20)) c &&& (mkS (liv (U.1 20)) c ^^^ (-1))), U) ∧ yI40 st pl tp c (y + 1) (zrem (s * 137 + 71) 1000) S M T U := by
  have hc := hI.2.2.2.1.1
  unfold f_X3_passYear_40_5 f_X12_goYear
  rw [livM hc hI.2.2.2.1.2.1, zb_def]
  generalize mkS (liv (M.1 20)) c = w
  obtain ⟨T1, U1, eT1, eU1, kT, kU, ⟨g0, g1, g2, g3⟩, hok, hfix, h97, h98⟩ := grow40 hst hF hk2 hI w
  rw [eT1, zu_def, eU1, zlet_def, g2, h98]
  have hy3 : yI40 st pl tp c y (zrem (s * 137 + 71) 1000) S M (zput T1 40 2 (zrem (s * 137 + 71) 1000)) (zput U1 20 98 (zrem (s * 137 + 71) 1000)) := by
    refine ⟨kp_trans kT (kp_put (by decide)), kp_trans kU (kp_put (by decide)), ?_, ?_, ?_, ?_, ?_⟩
    · rw [zput1_eq, zput1_eq, zput1_ne _ _ _ _ _ (show 41 ≠ 40 by decide), zput1_ne _ _ _ _ _ (show 42 ≠ 40 by decide)]
      refine ⟨?_, ?_, ?_, fun o ho => ?_⟩
      · rw [upd_ne _ _ _ _ (by decide)]; exact g0
      · rw [upd_ne _ _ _ _ (by decide), upd_ne _ _ _ _ (by decide)]; exact g1
      · rw [upd_at, upd_at]
      · rw [upd_ne _ _ _ _ (by omega), upd_ne _ _ _ _ (by omega)]; exact g3 o ho
    · rw [zput1_eq]; exact bOk_oth hok (Or.inr (by omega))
    · intro o j ho h2 h8
      rw [zput1_eq, upd_ne _ _ _ _ (by omega)]
      exact hfix o j ho h2 h8
    · rw [zput1_eq, upd_ne _ _ _ _ (by decide)]; exact h97
    · rw [zput1_eq, upd_at]
  generalize hT3 : zput T1 40 2 (zrem (s * 137 + 71) 1000) = T3 at hy3 ⊢
  generalize hU3 : zput U1 20 98 (zrem (s * 137 + 71) 1000) = U3 at hy3 ⊢
  clear hT3 hU3 eT1 eU1 g0 g1 g2 g3 h97 h98 hok hfix kT kU
  generalize zrem (s * 137 + 71) 1000 = s' at hy3 ⊢
  have hend : ∀ T U : zS, yI40 st pl tp c y s' S M T U → ∃ T' U', f_X3_passYear_40_5_B43 T = some T' ∧ f_X12_goYear_B231 w U = some (memF (w &&& (mkS (liv (U'.1 20)) c ^^^ (-1))), U') ∧ yI40 st pl tp c (y + 1) s' S M T' U' := by
    rintro T U ⟨kT, kU, ⟨g0, g1, g2, g3⟩, hok, hfix, h97, h98⟩
    unfold f_X3_passYear_40_5_B43 f_X12_goYear_B231
    rw [zlet_def, zlet_def, show Int32.toNatClampNeg 97 = 97 from rfl, g1, h97]
    have e96 : (zput U 20 97 (y + 1)).1 20 96 = nI c := by rw [zput1_eq, upd_ne _ _ _ _ (by decide)]; exact hok.2.1
    rw [livM hc e96, zb_def, memM, zb_def]
    refine ⟨_, _, rfl, rfl, kp_trans kT (kp_put (by decide)), kp_trans kU (kp_put (by decide)), ?_, ?_, ?_, ?_, ?_⟩
    · rw [zput1_eq, zput1_eq, zput1_ne _ _ _ _ _ (show 41 ≠ 40 by decide), zput1_ne _ _ _ _ _ (show 42 ≠ 40 by decide)]
      refine ⟨?_, ?_, ?_, fun o ho => ?_⟩
      · rw [upd_ne _ _ _ _ (by decide)]; exact g0
      · rw [upd_at, upd_at]
      · rw [upd_ne _ _ _ _ (by decide), upd_ne _ _ _ _ (by decide)]; exact g2
      · rw [upd_ne _ _ _ _ (by omega), upd_ne _ _ _ _ (by omega)]; exact g3 o ho
    · rw [zput1_eq]; exact bOk_oth hok (Or.inr (by omega))
    · intro o j ho h2 h8
      rw [zput1_eq, upd_ne _ _ _ _ (by omega)]
      exact hfix o j ho h2 h8
    · rw [zput1_eq, upd_at]
    · rw [zput1_eq, upd_ne _ _ _ _ (by decide)]; exact h98
  have T32 : T3.1 40 2 = s' := hy3.2.2.1.2.2.1.trans hy3.2.2.2.2.2.2
  have T39 : T3.1 5 9 = M.1 0 46 := by rw [hy3.1.2 5 (by decide)]; exact h9
  rw [T32, T39]
  by_cases hfr : zrem s' 100 < M.1 0 46
  · obtain ⟨T4, U4, eT4, eU4, y4⟩ := frz40 hpl h10 hfo h6 h17 hk3 hfr hy3 w
    rw [if_pos hfr, eT4, zu_def, eU4]
    exact hend T4 U4 y4
  · have eU : f_X12_goYear_L177 zN w 0 U3 = f_X12_goYear_B231 w U3 := by
      have e96 := hy3.2.2.2.1.2.1
      have h98 : U3.1 20 98 = s' := hy3.2.2.2.2.2.2
      have h46 : U3.1 0 46 = M.1 0 46 := by rw [hy3.2.1.2 0 (by decide)]
      rw [show zN = 9999 + 1 from rfl, f_X12_goYear_L177, billsM e96, zb_def, show Int32.toNatClampNeg 98 = 98 from rfl, h98, h46, if_neg hfr, ite_self]
    rw [if_neg hfr, eU]
    exact hend T3 U3 hy3
/-! ===== a year of growth row 37 ===== -/
/-- between the start (S, M) and now (T, U) only the growth went on -/
def yI37 (st pl tp c : Nat) (y s : Int32) (S M T U : zS) : Prop := kp [37, 38, 39, 11, 12] S T ∧ kp [8, 9, 20] M U ∧ gR c (U.1 20) (T.1 37) (T.1 38) (T.1 39) ∧ bOk st pl tp c (U.1 20) ∧ (∀ b j, b < c → 2 ≤ j → j < 8 → U.1 20 (8 * b + j) = M.1 20 (8 * b + j)) ∧ U.1 20 97 = y ∧ U.1 20 98 = s
theorem grow37 {st pl tp c : Nat} {y s : Int32} {S M : zS} (hst : st ≤ 12) (hF : rFm (S.1 9 0) (S.1 9 1) (M.1 0 21) (M.1 0 18) (M.1 0 52) (S.1 10) (M.1 5) (M.1 6)) (hk : ∀ o, o < c → S.1 14 o = M.1 20 (8 * o + 2)) (hI : yI37 st pl tp c y s S M S M) (w : Int32) : ∃ T U, f_X3_growAll_37_5 S = some T ∧ f_X12_goYear_L7 zN w 0 M = f_X12_goYear_L177 zN w 0 (zput U 20 98 (zrem (((U.1 20 98) * 137) + 71) 1000)) ∧ yI37 st pl tp c y s S M T U := by
  have hc := hI.2.2.2.1.1
  have e0 : S.1 37 0 = nI c := hI.2.2.1.1
  unfold f_X3_growAll_37_5
  rw [livX37 hc e0, zb_def, show mkS (fun b => decide (0 < S.1 38 b)) c = mkS (liv (M.1 20)) c from mkS_congr fun b hb => by unfold liv; rw [(hI.2.2.1.2.2.2 b hb).1]]
  refine loopR (f := fun n (a : Int32 × zS) b => f_X3_growAll_37_5_L13 n a.1 (nI b) a.2) (f' := fun n (U : zS) b => f_X12_goYear_L7 n w (nI b) U) (fun _ a U => a.1 = mkS (liv (U.1 20)) c ∧ yI37 st pl tp c y s S M a.2 U) (fun o o' => ∃ T U, o = some T ∧ o' = f_X12_goYear_L177 zN w 0 (zput U 20 98 (zrem (((U.1 20 98) * 137) + 71) 1000)) ∧ yI37 st pl tp c y s S M T U) (c := c) ?_ ?_ c 0 zN zN (_, S) M (by omega) (by show c < 10000; omega) (by show c < 10000; omega) ⟨rfl, hI⟩
  · rintro n n' ⟨x3, T⟩ U b hb ⟨hx, kT, kU, ⟨g0, g1, g2, g3⟩, hok, hfix, h97, h98⟩
    dsimp only at hx kT g0 g1 g2 g3 ⊢
    subst hx
    obtain ⟨-, e96, hbl⟩ := hok
    have hok : bOk st pl tp c (U.1 20) := ⟨hc, e96, hbl⟩
    have hlt : nI b < nI c := nI_lt hb (by omega)
    have h12 : nI b < 12 := nI_lt (b := 12) (by omega) (by omega)
    have hz : zin (nI b) 12 := vp_in_nI (by omega) (by omega)
    have hcl : (nI b).toNatClampNeg = b := nI_clamp (by omega)
    obtain ⟨gl, ga⟩ := g3 b hb
    by_cases hlv : liv (U.1 20) b = true
    · have hpos : (0 : Int32) < T.1 38 b := by rw [gl]; unfold liv at hlv; simpa using hlv
      have T14 : T.1 14 = S.1 14 := kT.2 14 (by decide)
      have hnear : f_X1_othersNear_13 (nI b) (mkS (liv (U.1 20)) c) T = some (nrN (U.1 20) c b, T) := nearX hst hc hb (fun o ho => by rw [T14, hk o ho, hfix o 2 ho (by omega) (by omega)]) (fun o ho => (hbl o ho).2.1)
      -- what the reference asks
      have hask : ∃ W, f_X12_goYear_L7 (n' + 1) w (nI b) U = (zb (f_X12_grown W) fun r31 T30 => zlet ((U.1 20 (8 * b)) + r31) fun v32 => if v32 < 0 then f_X12_goYear_B128 (f_X12_goYear_L7 n') w (nI b) 0 ((8 * nI b) + 0) T30 else if (99 : Int32) < v32 then f_X12_goYear_B128 (f_X12_goYear_L7 n') w (nI b) 99 ((8 * nI b) + 0) T30 else f_X12_goYear_B128 (f_X12_goYear_L7 n') w (nI b) v32 ((8 * nI b) + 0) T30) ∧ kp [9] U W ∧ W.1 9 0 = U.1 20 (8 * b) ∧ W.1 9 1 = U.1 20 (8 * b + 1) ∧ W.1 9 2 = U.1 20 (8 * b + 2) ∧ W.1 9 3 = nrN (U.1 20) c b ∧ W.1 9 4 = U.1 20 97 := by
        refine ⟨zput (zput (zput (zput (zput U 9 0 (U.1 20 (8 * b))) 9 1 (U.1 20 (8 * b + 1))) 9 2 (U.1 20 (8 * b + 2))) 9 3 (nrN (U.1 20) c b)) 9 4 (U.1 20 97), ?_, ?_, rfl, rfl, rfl, rfl, rfl⟩
        · rw [f_X12_goYear_L7, billsM e96, zb_def, if_pos hlt, livesM (by omega), zb_def, z01, if_pos hlv, of0 (by omega), zb_def, zlet_def, of1 (by omega), zb_def, zlet_def, of2 (by omega), zb_def, zlet_def]
          have hn : f_X12_near (nI b) (zput (zput (zput U 9 0 (U.1 20 (8 * b))) 9 1 (U.1 20 (8 * b + 1))) 9 2 (U.1 20 (8 * b + 2))) = some (nrN (U.1 20) c b, zput (zput (zput U 9 0 (U.1 20 (8 * b))) 9 1 (U.1 20 (8 * b + 1))) 9 2 (U.1 20 (8 * b + 2))) := nearM (S := zput (zput (zput U 9 0 (U.1 20 (8 * b))) 9 1 (U.1 20 (8 * b + 1))) 9 2 (U.1 20 (8 * b + 2))) hc e96 (by omega)
          rw [show zput (zput (zput U 9 (Int32.toNatClampNeg 0) (U.1 20 (8 * b))) 9 (Int32.toNatClampNeg 1) ((zput U 9 (Int32.toNatClampNeg 0) (U.1 20 (8 * b))).1 20 (8 * b + 1))) 9 (Int32.toNatClampNeg 2) ((zput (zput U 9 (Int32.toNatClampNeg 0) (U.1 20 (8 * b))) 9 (Int32.toNatClampNeg 1) ((zput U 9 (Int32.toNatClampNeg 0) (U.1 20 (8 * b))).1 20 (8 * b + 1))).1 20 (8 * b + 2)) = zput (zput (zput U 9 0 (U.1 20 (8 * b))) 9 1 (U.1 20 (8 * b + 1))) 9 2 (U.1 20 (8 * b + 2)) from rfl, hn, zb_def, zlet_def, zlet_def, of0 (by omega), zb_def]
          rfl
        · refine kp_trans (kp_trans (kp_trans (kp_trans (kp_put (by decide)) (kp_put (by decide))) (kp_put (by decide))) (kp_put (by decide))) (kp_put (by decide))
      obtain ⟨W, eW, kW, w0, w1, w2, w3, w4⟩ := hask
      have hFW : rFm (T.1 9 0) (T.1 9 1) (W.1 0 21) (W.1 0 18) (W.1 0 52) (T.1 10) (W.1 5) (W.1 6) := by
        rw [kT.2 9 (by decide), kT.2 10 (by decide), kW.2 0 (by decide), kW.2 5 (by decide), kW.2 6 (by decide), kU.2 0 (by decide), kU.2 5 (by decide), kU.2 6 (by decide)]
        exact hF
      obtain ⟨v, T', W', eX, eM, kT', kW'⟩ := formula hFW w0 w1 w2 w3 w4
      rw [eM, zb_def, zlet_def] at eW
      have hb8 : (8 : Int32) * nI b + 0 = nI (8 * b) := nI_8 b 0
      have hb81 : (8 : Int32) * nI b + 1 = nI (8 * b + 1) := nI_8 b 1
      have z8 : zin (nI (8 * b)) 99 := vp_in_nI (by omega) (by omega)
      have z81 : zin (nI (8 * b + 1)) 99 := vp_in_nI (by omega) (by omega)
      have W20 : W'.1 20 = U.1 20 := (kW'.2 20 (by decide)).trans (kW.2 20 (by decide))
      have hB : ∀ y : Int32, f_X12_goYear_B128 (f_X12_goYear_L7 n') w (nI b) y ((8 * nI b) + 0) W' = f_X12_goYear_L7 n' w (nI (b + 1)) (zput (zput W' 20 (8 * b) y) 20 (8 * b + 1) (U.1 20 (8 * b + 1) + 1)) := fun y => by
        unfold f_X12_goYear_B128
        rw [hb8, hb81, if_pos z8, zlet_def, if_pos z81, if_pos z81, zlet_def, zlet_def, nI_clamp (by omega), nI_clamp (by omega), nI_1, zput1_eq, upd_ne _ _ _ _ (by omega), W20]
      have eW2 : f_X12_goYear_L7 (n' + 1) w (nI b) U = f_X12_goYear_L7 n' w (nI (b + 1)) (zput (zput W' 20 (8 * b) (clL (U.1 20 (8 * b) + v))) 20 (8 * b + 1) (U.1 20 (8 * b + 1) + 1)) := by
        rw [eW, hB, hB, hB]
        unfold clL
        by_cases q1 : U.1 20 (8 * b) + v < 0
        · rw [if_pos q1, if_pos q1]
        · rw [if_neg q1, if_neg q1]
          by_cases q2 : 99 < U.1 20 (8 * b) + v
          · rw [if_pos q2, if_pos q2]
          · rw [if_neg q2, if_neg q2]
      -- the class
      have T'L : T'.1 38 = T.1 38 := kT'.2 38 (by decide)
      have T'A : T'.1 39 = T.1 39 := kT'.2 39 (by decide)
      have eX' : f_X2_result_9 (T.1 38 b) (T.1 39 b) (T.1 14 b) (nrN (U.1 20) c b) (T.1 37 1) T = some (v, T') := by
        rw [gl, ga, g1, T14, hk b hb, ← hfix b 2 hb (by omega) (by omega)]
        exact eX
      have eT2 : f_X3_growAll_37_5_L13 (n + 1) (mkS (liv (U.1 20)) c) (nI b) T = f_X3_growAll_37_5_L13 n (if clL (U.1 20 (8 * b) + v) = 0 then mkS (liv (U.1 20)) c &&& ((1 <<< (nI b &&& 31)) ^^^ (-1)) else mkS (liv (U.1 20)) c) (nI (b + 1)) (zput (zput T' 38 b (clL (U.1 20 (8 * b) + v))) 39 b (U.1 20 (8 * b + 1) + 1)) := by
        rw [f_X3_growAll_37_5_L13, g0, if_pos hlt, if_pos h12, if_pos hz]
        simp only [hcl]
        rw [if_pos hpos, hnear, zb_def, if_pos hz, if_pos hz, if_pos hz, eX', zb_def, if_pos hz, if_pos hz, zlet_def, if_pos hz, if_pos hz, zlet_def, if_pos hz, zlet_def, zlet_def, zlet_def, T'L, gl, clampX, nI_1]
        have q1 : (zput T' 38 b (clL (U.1 20 (8 * b) + v))).1 39 b = U.1 20 (8 * b + 1) := by
          rw [zput1_ne _ _ _ _ _ (by decide), T'A]; exact ga
        rw [q1]
        have q2 : (zput (zput T' 38 b (clL (U.1 20 (8 * b) + v))) 39 b (U.1 20 (8 * b + 1) + 1)).1 38 b = clL (U.1 20 (8 * b) + v) := by
          rw [zput1_ne _ _ _ _ _ (by decide), zput1_eq, upd_at]
        rw [q2]
        by_cases q3 : clL (U.1 20 (8 * b) + v) = 0
        · rw [if_pos q3, if_pos q3]
        · rw [if_neg q3, if_neg q3]
      have hcis := clL_is (U.1 20 (8 * b) + v)
      generalize clL (U.1 20 (8 * b) + v) = l at eT2 eW2 hcis
      refine ⟨(_, _), _, eT2, eW2, ?_, ?_, ?_, ?_, ?_, ?_, ?_, ?_⟩
      · show (if l = 0 then mkS (liv (U.1 20)) c &&& ((1 <<< (nI b &&& 31)) ^^^ (-1)) else mkS (liv (U.1 20)) c) = mkS (liv ((zput (zput W' 20 (8 * b) l) 20 (8 * b + 1) (U.1 20 (8 * b + 1) + 1)).1 20)) c
        rw [zput1_eq, zput1_eq, W20, mkS_oth (Or.inl (by omega)) hc, mkS_life hc hb hlv hcis]
      · exact kp_trans (kp_trans kT (kp_sub kT' (by decide))) (kp_trans (kp_put (by decide)) (kp_put (by decide)))
      · exact kp_trans (kp_trans kU (kp_trans (kp_sub kW (by decide)) (kp_sub kW' (by decide)))) (kp_trans (kp_put (by decide)) (kp_put (by decide)))
      · show gR c ((zput (zput W' 20 (8 * b) l) 20 (8 * b + 1) (U.1 20 (8 * b + 1) + 1)).1 20) ((zput (zput T' 38 b l) 39 b (U.1 20 (8 * b + 1) + 1)).1 37) ((zput (zput T' 38 b l) 39 b (U.1 20 (8 * b + 1) + 1)).1 38) ((zput (zput T' 38 b l) 39 b (U.1 20 (8 * b + 1) + 1)).1 39)
        rw [zput1_eq, zput1_eq, W20, zput1_ne _ _ _ _ _ (show 37 ≠ 39 by decide), zput1_ne _ _ _ _ _ (show 37 ≠ 38 by decide), zput1_ne _ _ _ _ _ (show 38 ≠ 39 by decide), zput1_eq, zput1_eq, zput1_ne _ _ _ _ _ (show 39 ≠ 38 by decide), T'L, T'A, kT'.2 37 (by decide)]
        refine ⟨g0, ?_, ?_, fun o ho => ?_⟩
        · rw [upd_ne _ _ _ _ (by omega), upd_ne _ _ _ _ (by omega)]; exact g1
        · rw [upd_ne _ _ _ _ (by omega), upd_ne _ _ _ _ (by omega)]; exact g2
        · by_cases hob : o = b
          · subst hob
            rw [upd_at, upd_at, upd_at, upd_ne _ _ _ _ (by omega), upd_at]
            exact ⟨rfl, rfl⟩
          · rw [upd_ne _ _ _ _ hob, upd_ne _ _ _ _ hob, upd_ne _ _ _ _ (by omega), upd_ne _ _ _ _ (by omega), upd_ne _ _ _ _ (by omega), upd_ne _ _ _ _ (by omega)]
            exact g3 o ho
      · show bOk st pl tp c ((zput (zput W' 20 (8 * b) l) 20 (8 * b + 1) (U.1 20 (8 * b + 1) + 1)).1 20)
        rw [zput1_eq, zput1_eq, W20]
        exact bOk_oth (bOk_life hok (by omega) hcis) (Or.inl ⟨by omega, by omega⟩)
      · intro o j ho h2 h8
        show (zput (zput W' 20 (8 * b) l) 20 (8 * b + 1) (U.1 20 (8 * b + 1) + 1)).1 20 (8 * o + j) = _
        rw [zput1_eq, zput1_eq, W20, upd_ne _ _ _ _ (by omega), upd_ne _ _ _ _ (by omega)]
        exact hfix o j ho h2 h8
      · show (zput (zput W' 20 (8 * b) l) 20 (8 * b + 1) (U.1 20 (8 * b + 1) + 1)).1 20 97 = _
        rw [zput1_eq, zput1_eq, W20, upd_ne _ _ _ _ (by omega), upd_ne _ _ _ _ (by omega)]
        exact h97
      · show (zput (zput W' 20 (8 * b) l) 20 (8 * b + 1) (U.1 20 (8 * b + 1) + 1)).1 20 98 = _
        rw [zput1_eq, zput1_eq, W20, upd_ne _ _ _ _ (by omega), upd_ne _ _ _ _ (by omega)]
        exact h98
    · have hnp : ¬ (0 : Int32) < T.1 38 b := by rw [gl]; unfold liv at hlv; simpa using hlv
      refine ⟨(mkS (liv (U.1 20)) c, T), U, ?_, ?_, rfl, kT, kU, ⟨g0, g1, g2, g3⟩, hok, hfix, h97, h98⟩
      · rw [f_X3_growAll_37_5_L13, g0, if_pos hlt, if_pos h12, if_pos hz]
        simp only [hcl]
        rw [if_neg hnp, zlet_def, nI_1]
      · rw [f_X12_goYear_L7, billsM e96, zb_def, if_pos hlt, livesM (by omega), zb_def, z01, if_neg hlv, zlet_def, nI_1]
  · rintro n n' ⟨x3, T⟩ U ⟨hx, hy⟩
    dsimp only at hx hy ⊢
    have e96 := hy.2.2.2.1.2.1
    refine ⟨T, U, ?_, ?_, hy⟩
    · rw [f_X3_growAll_37_5_L13, hy.2.2.1.1, if_neg (nI_nlt (Nat.le_refl c) (by omega))]
    · rw [f_X12_goYear_L7, billsM e96, zb_def, if_neg (nI_nlt (Nat.le_refl c) (by omega)), zlet_def]
      rfl
theorem frz37 {st pl tp c hb : Nat} {y s : Int32} {S M T U : zS} (hpl : pl ≤ 4) (h10 : S.1 5 10 = M.1 0 47) (hfo : isI 1 99 (M.1 0 47)) (h6 : S.1 5 6 = nI hb) (h17 : ∀ p, p < pl → M.1 17 p = if hb.testBit p then 1 else 0) (hk : ∀ o, o < c → S.1 15 o = M.1 20 (8 * o + 3)) (hfr : zrem s 100 < M.1 0 46) (hI : yI37 st pl tp c y s S M T U) (w : Int32) : ∃ T' U', f_X3_freeze_37_5 T = some T' ∧ f_X12_goYear_L177 zN w 0 U = f_X12_goYear_B231 w U' ∧ yI37 st pl tp c y s S M T' U' := by
  have hc := hI.2.2.2.1.1
  unfold f_X3_freeze_37_5
  refine loopR (f := fun n (T : zS) b => f_X3_freeze_37_5_L2 n (nI b) T) (f' := fun n (U : zS) b => f_X12_goYear_L177 n w (nI b) U) (fun _ T U' => yI37 st pl tp c y s S M T U') (fun o o' => ∃ T' U', o = some T' ∧ o' = f_X12_goYear_B231 w U' ∧ yI37 st pl tp c y s S M T' U') (c := c) ?_ ?_ c 0 zN zN T U (by omega) (by show c < 10000; omega) (by show c < 10000; omega) hI
  · rintro n n' T V b hbc ⟨kT, kU, ⟨g0, g1, g2, g3⟩, hok, hfix, h97, h98⟩
    obtain ⟨-, e96, hbl⟩ := hok
    have hok : bOk st pl tp c (V.1 20) := ⟨hc, e96, hbl⟩
    have hlt : nI b < nI c := nI_lt hbc (by omega)
    have h12 : nI b < 12 := nI_lt (b := 12) (by omega) (by omega)
    have hz : zin (nI b) 12 := vp_in_nI (by omega) (by omega)
    have hcl : (nI b).toNatClampNeg = b := nI_clamp (by omega)
    obtain ⟨gl, ga⟩ := g3 b hbc
    obtain ⟨k1, -, ⟨p, hp, ep⟩, -⟩ := hbl b hbc
    have T5 : T.1 5 = S.1 5 := kT.2 5 (by decide)
    have T15 : T.1 15 b = nI p := by rw [kT.2 15 (by decide), hk b hbc, ← hfix b 3 hbc (by omega) (by omega), ep]
    have hz4 : zin (nI p) 4 := vp_in_nI (by omega) (by omega)
    have V0 : V.1 0 = M.1 0 := kU.2 0 (by decide)
    have V17 : V.1 17 p = if hb.testBit p then 1 else 0 := by rw [kU.2 17 (by decide)]; exact h17 p hp
    have hfr' : zrem (V.1 20 98) 100 < V.1 0 46 := by rw [h98, V0]; exact hfr
    have hM : f_X12_goYear_L177 (n' + 1) w (nI b) V = if hb.testBit p = true then f_X12_goYear_L177 n' w (nI (b + 1)) V else f_X12_goYear_L177 n' w (nI (b + 1)) (zput V 20 (8 * b) (leL (V.1 20 (8 * b)) (M.1 0 47))) := by
      rw [f_X12_goYear_L177, billsM e96, zb_def, if_pos hlt, show Int32.toNatClampNeg 98 = 98 from rfl, if_pos hfr', of3 (by omega), zb_def, ep, if_pos hz4, nI_clamp (by omega), V17, lessM (by omega), zu_def, zlet_def, zlet_def, nI_1, V0]
      by_cases hh : hb.testBit p = true
      · rw [if_pos hh, if_pos hh, if_neg (by decide)]
      · rw [if_neg hh, if_neg hh, if_pos rfl]
    have hX : f_X3_freeze_37_5_L2 (n + 1) (nI b) T = if hb.testBit p = true then f_X3_freeze_37_5_L2 n (nI (b + 1)) T else f_X3_freeze_37_5_L2 n (nI (b + 1)) (zput T 38 b (leL (V.1 20 (8 * b)) (M.1 0 47))) := by
      rw [f_X3_freeze_37_5_L2, g0, if_pos hlt, if_pos h12, if_pos hz]
      simp only [hcl]
      rw [T5, T15, h6, b_ask (nI hb) (by omega), bt_nI hb (by omega), if_pos hz, if_pos hz, zlet_def, zlet_def, zlet_def, nI_1, gl, h10, (lessX k1 hfo).1]
      by_cases hh : hb.testBit p = true
      · rw [if_pos hh, if_pos hh, if_neg (by decide)]
      · rw [if_neg hh, if_neg hh, if_pos rfl]
    by_cases hh : hb.testBit p = true
    · rw [if_pos hh] at hM hX
      exact ⟨T, V, hX, hM, kT, kU, ⟨g0, g1, g2, g3⟩, hok, hfix, h97, h98⟩
    · rw [if_neg hh] at hM hX
      have hl := (lessX k1 hfo).2
      generalize leL (V.1 20 (8 * b)) (M.1 0 47) = l at hM hX hl
      refine ⟨_, _, hX, hM, kp_trans kT (kp_put (by decide)), kp_trans kU (kp_put (by decide)), ?_, ?_, ?_, ?_, ?_⟩
      · rw [zput1_eq, zput1_ne _ _ _ _ _ (show 37 ≠ 38 by decide), zput1_eq, zput1_ne _ _ _ _ _ (show 39 ≠ 38 by decide)]
        refine ⟨g0, ?_, ?_, fun o ho => ?_⟩
        · rw [upd_ne _ _ _ _ (by omega)]; exact g1
        · rw [upd_ne _ _ _ _ (by omega)]; exact g2
        · rw [upd_ne _ (8 * b) (8 * o + 1) l (by omega)]
          by_cases hob : o = b
          · subst hob
            rw [upd_at, upd_at]
            exact ⟨rfl, ga⟩
          · rw [upd_ne _ _ _ _ hob, upd_ne _ _ _ _ (by omega)]
            exact g3 o ho
      · rw [zput1_eq]; exact bOk_life hok (by omega) hl
      · intro o j ho h2 h8
        rw [zput1_eq, upd_ne _ _ _ _ (by omega)]
        exact hfix o j ho h2 h8
      · rw [zput1_eq, upd_ne _ _ _ _ (by omega)]; exact h97
      · rw [zput1_eq, upd_ne _ _ _ _ (by omega)]; exact h98
  · rintro n n' T V hy
    have e96 := hy.2.2.2.1.2.1
    refine ⟨T, V, ?_, ?_, hy⟩
    · rw [f_X3_freeze_37_5_L2, hy.2.2.1.1, if_neg (nI_nlt (Nat.le_refl c) (by omega))]
    · rw [f_X12_goYear_L177, billsM e96, zb_def, if_neg (nI_nlt (Nat.le_refl c) (by omega))]
theorem year37 {st pl tp c hb : Nat} {y s : Int32} {S M : zS} (hst : st ≤ 12) (hpl : pl ≤ 4) (hF : rFm (S.1 9 0) (S.1 9 1) (M.1 0 21) (M.1 0 18) (M.1 0 52) (S.1 10) (M.1 5) (M.1 6)) (h9 : S.1 5 9 = M.1 0 46) (h10 : S.1 5 10 = M.1 0 47) (hfo : isI 1 99 (M.1 0 47)) (h6 : S.1 5 6 = nI hb) (h17 : ∀ p, p < pl → M.1 17 p = if hb.testBit p then 1 else 0) (hk2 : ∀ o, o < c → S.1 14 o = M.1 20 (8 * o + 2)) (hk3 : ∀ o, o < c → S.1 15 o = M.1 20 (8 * o + 3)) (hI : yI37 st pl tp c y s S M S M) : ∃ T U, f_X3_passYear_37_5 S = some T ∧ f_X12_goYear M = some (memF (mkS (liv (M.1 20)) c &&& (mkS (liv (U.1 20)) c ^^^ (-1))), U) ∧ yI37 st pl tp c (y + 1) (zrem (s * 137 + 71) 1000) S M T U := by
  have hc := hI.2.2.2.1.1
  unfold f_X3_passYear_37_5 f_X12_goYear
  rw [livM hc hI.2.2.2.1.2.1, zb_def]
  generalize mkS (liv (M.1 20)) c = w
  obtain ⟨T1, U1, eT1, eU1, kT, kU, ⟨g0, g1, g2, g3⟩, hok, hfix, h97, h98⟩ := grow37 hst hF hk2 hI w
  rw [eT1, zu_def, eU1, zlet_def, g2, h98]
  have hy3 : yI37 st pl tp c y (zrem (s * 137 + 71) 1000) S M (zput T1 37 2 (zrem (s * 137 + 71) 1000)) (zput U1 20 98 (zrem (s * 137 + 71) 1000)) := by
    refine ⟨kp_trans kT (kp_put (by decide)), kp_trans kU (kp_put (by decide)), ?_, ?_, ?_, ?_, ?_⟩
    · rw [zput1_eq, zput1_eq, zput1_ne _ _ _ _ _ (show 38 ≠ 37 by decide), zput1_ne _ _ _ _ _ (show 39 ≠ 37 by decide)]
      refine ⟨?_, ?_, ?_, fun o ho => ?_⟩
      · rw [upd_ne _ _ _ _ (by decide)]; exact g0
      · rw [upd_ne _ _ _ _ (by decide), upd_ne _ _ _ _ (by decide)]; exact g1
      · rw [upd_at, upd_at]
      · rw [upd_ne _ _ _ _ (by omega), upd_ne _ _ _ _ (by omega)]; exact g3 o ho
    · rw [zput1_eq]; exact bOk_oth hok (Or.inr (by omega))
    · intro o j ho h2 h8
      rw [zput1_eq, upd_ne _ _ _ _ (by omega)]
      exact hfix o j ho h2 h8
    · rw [zput1_eq, upd_ne _ _ _ _ (by decide)]; exact h97
    · rw [zput1_eq, upd_at]
  generalize hT3 : zput T1 37 2 (zrem (s * 137 + 71) 1000) = T3 at hy3 ⊢
  generalize hU3 : zput U1 20 98 (zrem (s * 137 + 71) 1000) = U3 at hy3 ⊢
  clear hT3 hU3 eT1 eU1 g0 g1 g2 g3 h97 h98 hok hfix kT kU
  generalize zrem (s * 137 + 71) 1000 = s' at hy3 ⊢
  have hend : ∀ T U : zS, yI37 st pl tp c y s' S M T U → ∃ T' U', f_X3_passYear_37_5_B43 T = some T' ∧ f_X12_goYear_B231 w U = some (memF (w &&& (mkS (liv (U'.1 20)) c ^^^ (-1))), U') ∧ yI37 st pl tp c (y + 1) s' S M T' U' := by
    rintro T U ⟨kT, kU, ⟨g0, g1, g2, g3⟩, hok, hfix, h97, h98⟩
    unfold f_X3_passYear_37_5_B43 f_X12_goYear_B231
    rw [zlet_def, zlet_def, show Int32.toNatClampNeg 97 = 97 from rfl, g1, h97]
    have e96 : (zput U 20 97 (y + 1)).1 20 96 = nI c := by rw [zput1_eq, upd_ne _ _ _ _ (by decide)]; exact hok.2.1
    rw [livM hc e96, zb_def, memM, zb_def]
    refine ⟨_, _, rfl, rfl, kp_trans kT (kp_put (by decide)), kp_trans kU (kp_put (by decide)), ?_, ?_, ?_, ?_, ?_⟩
    · rw [zput1_eq, zput1_eq, zput1_ne _ _ _ _ _ (show 38 ≠ 37 by decide), zput1_ne _ _ _ _ _ (show 39 ≠ 37 by decide)]
      refine ⟨?_, ?_, ?_, fun o ho => ?_⟩
      · rw [upd_ne _ _ _ _ (by decide)]; exact g0
      · rw [upd_at, upd_at]
      · rw [upd_ne _ _ _ _ (by decide), upd_ne _ _ _ _ (by decide)]; exact g2
      · rw [upd_ne _ _ _ _ (by omega), upd_ne _ _ _ _ (by omega)]; exact g3 o ho
    · rw [zput1_eq]; exact bOk_oth hok (Or.inr (by omega))
    · intro o j ho h2 h8
      rw [zput1_eq, upd_ne _ _ _ _ (by omega)]
      exact hfix o j ho h2 h8
    · rw [zput1_eq, upd_at]
    · rw [zput1_eq, upd_ne _ _ _ _ (by decide)]; exact h98
  have T32 : T3.1 37 2 = s' := hy3.2.2.1.2.2.1.trans hy3.2.2.2.2.2.2
  have T39 : T3.1 5 9 = M.1 0 46 := by rw [hy3.1.2 5 (by decide)]; exact h9
  rw [T32, T39]
  by_cases hfr : zrem s' 100 < M.1 0 46
  · obtain ⟨T4, U4, eT4, eU4, y4⟩ := frz37 hpl h10 hfo h6 h17 hk3 hfr hy3 w
    rw [if_pos hfr, eT4, zu_def, eU4]
    exact hend T4 U4 y4
  · have eU : f_X12_goYear_L177 zN w 0 U3 = f_X12_goYear_B231 w U3 := by
      have e96 := hy3.2.2.2.1.2.1
      have h98 : U3.1 20 98 = s' := hy3.2.2.2.2.2.2
      have h46 : U3.1 0 46 = M.1 0 46 := by rw [hy3.2.1.2 0 (by decide)]
      rw [show zN = 9999 + 1 from rfl, f_X12_goYear_L177, billsM e96, zb_def, show Int32.toNatClampNeg 98 = 98 from rfl, h98, h46, if_neg hfr, ite_self]
    rw [if_neg hfr, eU]
    exact hend T3 U3 hy3
/-! ===== a year of growth row 60 ===== -/
/-- between the start (S, M) and now (T, U) only the growth went on -/
def yI60 (st pl tp c : Nat) (y s : Int32) (S M T U : zS) : Prop := kp [60, 61, 62, 11, 12] S T ∧ kp [8, 9, 20] M U ∧ gR c (U.1 20) (T.1 60) (T.1 61) (T.1 62) ∧ bOk st pl tp c (U.1 20) ∧ (∀ b j, b < c → 2 ≤ j → j < 8 → U.1 20 (8 * b + j) = M.1 20 (8 * b + j)) ∧ U.1 20 97 = y ∧ U.1 20 98 = s
theorem grow60 {st pl tp c : Nat} {y s : Int32} {S M : zS} (hst : st ≤ 12) (hF : rFm (S.1 9 0) (S.1 9 1) (M.1 0 21) (M.1 0 18) (M.1 0 52) (S.1 10) (M.1 5) (M.1 6)) (hk : ∀ o, o < c → S.1 14 o = M.1 20 (8 * o + 2)) (hI : yI60 st pl tp c y s S M S M) (w : Int32) : ∃ T U, f_X3_growAll_60_5 S = some T ∧ f_X12_goYear_L7 zN w 0 M = f_X12_goYear_L177 zN w 0 (zput U 20 98 (zrem (((U.1 20 98) * 137) + 71) 1000)) ∧ yI60 st pl tp c y s S M T U := by
  have hc := hI.2.2.2.1.1
  have e0 : S.1 60 0 = nI c := hI.2.2.1.1
  unfold f_X3_growAll_60_5
  rw [livX60 hc e0, zb_def, show mkS (fun b => decide (0 < S.1 61 b)) c = mkS (liv (M.1 20)) c from mkS_congr fun b hb => by unfold liv; rw [(hI.2.2.1.2.2.2 b hb).1]]
  refine loopR (f := fun n (a : Int32 × zS) b => f_X3_growAll_60_5_L13 n a.1 (nI b) a.2) (f' := fun n (U : zS) b => f_X12_goYear_L7 n w (nI b) U) (fun _ a U => a.1 = mkS (liv (U.1 20)) c ∧ yI60 st pl tp c y s S M a.2 U) (fun o o' => ∃ T U, o = some T ∧ o' = f_X12_goYear_L177 zN w 0 (zput U 20 98 (zrem (((U.1 20 98) * 137) + 71) 1000)) ∧ yI60 st pl tp c y s S M T U) (c := c) ?_ ?_ c 0 zN zN (_, S) M (by omega) (by show c < 10000; omega) (by show c < 10000; omega) ⟨rfl, hI⟩
  · rintro n n' ⟨x3, T⟩ U b hb ⟨hx, kT, kU, ⟨g0, g1, g2, g3⟩, hok, hfix, h97, h98⟩
    dsimp only at hx kT g0 g1 g2 g3 ⊢
    subst hx
    obtain ⟨-, e96, hbl⟩ := hok
    have hok : bOk st pl tp c (U.1 20) := ⟨hc, e96, hbl⟩
    have hlt : nI b < nI c := nI_lt hb (by omega)
    have h12 : nI b < 12 := nI_lt (b := 12) (by omega) (by omega)
    have hz : zin (nI b) 12 := vp_in_nI (by omega) (by omega)
    have hcl : (nI b).toNatClampNeg = b := nI_clamp (by omega)
    obtain ⟨gl, ga⟩ := g3 b hb
    by_cases hlv : liv (U.1 20) b = true
    · have hpos : (0 : Int32) < T.1 61 b := by rw [gl]; unfold liv at hlv; simpa using hlv
      have T14 : T.1 14 = S.1 14 := kT.2 14 (by decide)
      have hnear : f_X1_othersNear_13 (nI b) (mkS (liv (U.1 20)) c) T = some (nrN (U.1 20) c b, T) := nearX hst hc hb (fun o ho => by rw [T14, hk o ho, hfix o 2 ho (by omega) (by omega)]) (fun o ho => (hbl o ho).2.1)
      -- what the reference asks
      have hask : ∃ W, f_X12_goYear_L7 (n' + 1) w (nI b) U = (zb (f_X12_grown W) fun r31 T30 => zlet ((U.1 20 (8 * b)) + r31) fun v32 => if v32 < 0 then f_X12_goYear_B128 (f_X12_goYear_L7 n') w (nI b) 0 ((8 * nI b) + 0) T30 else if (99 : Int32) < v32 then f_X12_goYear_B128 (f_X12_goYear_L7 n') w (nI b) 99 ((8 * nI b) + 0) T30 else f_X12_goYear_B128 (f_X12_goYear_L7 n') w (nI b) v32 ((8 * nI b) + 0) T30) ∧ kp [9] U W ∧ W.1 9 0 = U.1 20 (8 * b) ∧ W.1 9 1 = U.1 20 (8 * b + 1) ∧ W.1 9 2 = U.1 20 (8 * b + 2) ∧ W.1 9 3 = nrN (U.1 20) c b ∧ W.1 9 4 = U.1 20 97 := by
        refine ⟨zput (zput (zput (zput (zput U 9 0 (U.1 20 (8 * b))) 9 1 (U.1 20 (8 * b + 1))) 9 2 (U.1 20 (8 * b + 2))) 9 3 (nrN (U.1 20) c b)) 9 4 (U.1 20 97), ?_, ?_, rfl, rfl, rfl, rfl, rfl⟩
        · rw [f_X12_goYear_L7, billsM e96, zb_def, if_pos hlt, livesM (by omega), zb_def, z01, if_pos hlv, of0 (by omega), zb_def, zlet_def, of1 (by omega), zb_def, zlet_def, of2 (by omega), zb_def, zlet_def]
          have hn : f_X12_near (nI b) (zput (zput (zput U 9 0 (U.1 20 (8 * b))) 9 1 (U.1 20 (8 * b + 1))) 9 2 (U.1 20 (8 * b + 2))) = some (nrN (U.1 20) c b, zput (zput (zput U 9 0 (U.1 20 (8 * b))) 9 1 (U.1 20 (8 * b + 1))) 9 2 (U.1 20 (8 * b + 2))) := nearM (S := zput (zput (zput U 9 0 (U.1 20 (8 * b))) 9 1 (U.1 20 (8 * b + 1))) 9 2 (U.1 20 (8 * b + 2))) hc e96 (by omega)
          rw [show zput (zput (zput U 9 (Int32.toNatClampNeg 0) (U.1 20 (8 * b))) 9 (Int32.toNatClampNeg 1) ((zput U 9 (Int32.toNatClampNeg 0) (U.1 20 (8 * b))).1 20 (8 * b + 1))) 9 (Int32.toNatClampNeg 2) ((zput (zput U 9 (Int32.toNatClampNeg 0) (U.1 20 (8 * b))) 9 (Int32.toNatClampNeg 1) ((zput U 9 (Int32.toNatClampNeg 0) (U.1 20 (8 * b))).1 20 (8 * b + 1))).1 20 (8 * b + 2)) = zput (zput (zput U 9 0 (U.1 20 (8 * b))) 9 1 (U.1 20 (8 * b + 1))) 9 2 (U.1 20 (8 * b + 2)) from rfl, hn, zb_def, zlet_def, zlet_def, of0 (by omega), zb_def]
          rfl
        · refine kp_trans (kp_trans (kp_trans (kp_trans (kp_put (by decide)) (kp_put (by decide))) (kp_put (by decide))) (kp_put (by decide))) (kp_put (by decide))
      obtain ⟨W, eW, kW, w0, w1, w2, w3, w4⟩ := hask
      have hFW : rFm (T.1 9 0) (T.1 9 1) (W.1 0 21) (W.1 0 18) (W.1 0 52) (T.1 10) (W.1 5) (W.1 6) := by
        rw [kT.2 9 (by decide), kT.2 10 (by decide), kW.2 0 (by decide), kW.2 5 (by decide), kW.2 6 (by decide), kU.2 0 (by decide), kU.2 5 (by decide), kU.2 6 (by decide)]
        exact hF
      obtain ⟨v, T', W', eX, eM, kT', kW'⟩ := formula hFW w0 w1 w2 w3 w4
      rw [eM, zb_def, zlet_def] at eW
      have hb8 : (8 : Int32) * nI b + 0 = nI (8 * b) := nI_8 b 0
      have hb81 : (8 : Int32) * nI b + 1 = nI (8 * b + 1) := nI_8 b 1
      have z8 : zin (nI (8 * b)) 99 := vp_in_nI (by omega) (by omega)
      have z81 : zin (nI (8 * b + 1)) 99 := vp_in_nI (by omega) (by omega)
      have W20 : W'.1 20 = U.1 20 := (kW'.2 20 (by decide)).trans (kW.2 20 (by decide))
      have hB : ∀ y : Int32, f_X12_goYear_B128 (f_X12_goYear_L7 n') w (nI b) y ((8 * nI b) + 0) W' = f_X12_goYear_L7 n' w (nI (b + 1)) (zput (zput W' 20 (8 * b) y) 20 (8 * b + 1) (U.1 20 (8 * b + 1) + 1)) := fun y => by
        unfold f_X12_goYear_B128
        rw [hb8, hb81, if_pos z8, zlet_def, if_pos z81, if_pos z81, zlet_def, zlet_def, nI_clamp (by omega), nI_clamp (by omega), nI_1, zput1_eq, upd_ne _ _ _ _ (by omega), W20]
      have eW2 : f_X12_goYear_L7 (n' + 1) w (nI b) U = f_X12_goYear_L7 n' w (nI (b + 1)) (zput (zput W' 20 (8 * b) (clL (U.1 20 (8 * b) + v))) 20 (8 * b + 1) (U.1 20 (8 * b + 1) + 1)) := by
        rw [eW, hB, hB, hB]
        unfold clL
        by_cases q1 : U.1 20 (8 * b) + v < 0
        · rw [if_pos q1, if_pos q1]
        · rw [if_neg q1, if_neg q1]
          by_cases q2 : 99 < U.1 20 (8 * b) + v
          · rw [if_pos q2, if_pos q2]
          · rw [if_neg q2, if_neg q2]
      -- the class
      have T'L : T'.1 61 = T.1 61 := kT'.2 61 (by decide)
      have T'A : T'.1 62 = T.1 62 := kT'.2 62 (by decide)
      have eX' : f_X2_result_9 (T.1 61 b) (T.1 62 b) (T.1 14 b) (nrN (U.1 20) c b) (T.1 60 1) T = some (v, T') := by
        rw [gl, ga, g1, T14, hk b hb, ← hfix b 2 hb (by omega) (by omega)]
        exact eX
      have eT2 : f_X3_growAll_60_5_L13 (n + 1) (mkS (liv (U.1 20)) c) (nI b) T = f_X3_growAll_60_5_L13 n (if clL (U.1 20 (8 * b) + v) = 0 then mkS (liv (U.1 20)) c &&& ((1 <<< (nI b &&& 31)) ^^^ (-1)) else mkS (liv (U.1 20)) c) (nI (b + 1)) (zput (zput T' 61 b (clL (U.1 20 (8 * b) + v))) 62 b (U.1 20 (8 * b + 1) + 1)) := by
        rw [f_X3_growAll_60_5_L13, g0, if_pos hlt, if_pos h12, if_pos hz]
        simp only [hcl]
        rw [if_pos hpos, hnear, zb_def, if_pos hz, if_pos hz, if_pos hz, eX', zb_def, if_pos hz, if_pos hz, zlet_def, if_pos hz, if_pos hz, zlet_def, if_pos hz, zlet_def, zlet_def, zlet_def, T'L, gl, clampX, nI_1]
        have q1 : (zput T' 61 b (clL (U.1 20 (8 * b) + v))).1 62 b = U.1 20 (8 * b + 1) := by
          rw [zput1_ne _ _ _ _ _ (by decide), T'A]; exact ga
        rw [q1]
        have q2 : (zput (zput T' 61 b (clL (U.1 20 (8 * b) + v))) 62 b (U.1 20 (8 * b + 1) + 1)).1 61 b = clL (U.1 20 (8 * b) + v) := by
          rw [zput1_ne _ _ _ _ _ (by decide), zput1_eq, upd_at]
        rw [q2]
        by_cases q3 : clL (U.1 20 (8 * b) + v) = 0
        · rw [if_pos q3, if_pos q3]
        · rw [if_neg q3, if_neg q3]
      have hcis := clL_is (U.1 20 (8 * b) + v)
      generalize clL (U.1 20 (8 * b) + v) = l at eT2 eW2 hcis
      refine ⟨(_, _), _, eT2, eW2, ?_, ?_, ?_, ?_, ?_, ?_, ?_, ?_⟩
      · show (if l = 0 then mkS (liv (U.1 20)) c &&& ((1 <<< (nI b &&& 31)) ^^^ (-1)) else mkS (liv (U.1 20)) c) = mkS (liv ((zput (zput W' 20 (8 * b) l) 20 (8 * b + 1) (U.1 20 (8 * b + 1) + 1)).1 20)) c
        rw [zput1_eq, zput1_eq, W20, mkS_oth (Or.inl (by omega)) hc, mkS_life hc hb hlv hcis]
      · exact kp_trans (kp_trans kT (kp_sub kT' (by decide))) (kp_trans (kp_put (by decide)) (kp_put (by decide)))
      · exact kp_trans (kp_trans kU (kp_trans (kp_sub kW (by decide)) (kp_sub kW' (by decide)))) (kp_trans (kp_put (by decide)) (kp_put (by decide)))
      · show gR c ((zput (zput W' 20 (8 * b) l) 20 (8 * b + 1) (U.1 20 (8 * b + 1) + 1)).1 20) ((zput (zput T' 61 b l) 62 b (U.1 20 (8 * b + 1) + 1)).1 60) ((zput (zput T' 61 b l) 62 b (U.1 20 (8 * b + 1) + 1)).1 61) ((zput (zput T' 61 b l) 62 b (U.1 20 (8 * b + 1) + 1)).1 62)
        rw [zput1_eq, zput1_eq, W20, zput1_ne _ _ _ _ _ (show 60 ≠ 62 by decide), zput1_ne _ _ _ _ _ (show 60 ≠ 61 by decide), zput1_ne _ _ _ _ _ (show 61 ≠ 62 by decide), zput1_eq, zput1_eq, zput1_ne _ _ _ _ _ (show 62 ≠ 61 by decide), T'L, T'A, kT'.2 60 (by decide)]
        refine ⟨g0, ?_, ?_, fun o ho => ?_⟩
        · rw [upd_ne _ _ _ _ (by omega), upd_ne _ _ _ _ (by omega)]; exact g1
        · rw [upd_ne _ _ _ _ (by omega), upd_ne _ _ _ _ (by omega)]; exact g2
        · by_cases hob : o = b
          · subst hob
            rw [upd_at, upd_at, upd_at, upd_ne _ _ _ _ (by omega), upd_at]
            exact ⟨rfl, rfl⟩
          · rw [upd_ne _ _ _ _ hob, upd_ne _ _ _ _ hob, upd_ne _ _ _ _ (by omega), upd_ne _ _ _ _ (by omega), upd_ne _ _ _ _ (by omega), upd_ne _ _ _ _ (by omega)]
            exact g3 o ho
      · show bOk st pl tp c ((zput (zput W' 20 (8 * b) l) 20 (8 * b + 1) (U.1 20 (8 * b + 1) + 1)).1 20)
        rw [zput1_eq, zput1_eq, W20]
        exact bOk_oth (bOk_life hok (by omega) hcis) (Or.inl ⟨by omega, by omega⟩)
      · intro o j ho h2 h8
        show (zput (zput W' 20 (8 * b) l) 20 (8 * b + 1) (U.1 20 (8 * b + 1) + 1)).1 20 (8 * o + j) = _
        rw [zput1_eq, zput1_eq, W20, upd_ne _ _ _ _ (by omega), upd_ne _ _ _ _ (by omega)]
        exact hfix o j ho h2 h8
      · show (zput (zput W' 20 (8 * b) l) 20 (8 * b + 1) (U.1 20 (8 * b + 1) + 1)).1 20 97 = _
        rw [zput1_eq, zput1_eq, W20, upd_ne _ _ _ _ (by omega), upd_ne _ _ _ _ (by omega)]
        exact h97
      · show (zput (zput W' 20 (8 * b) l) 20 (8 * b + 1) (U.1 20 (8 * b + 1) + 1)).1 20 98 = _
        rw [zput1_eq, zput1_eq, W20, upd_ne _ _ _ _ (by omega), upd_ne _ _ _ _ (by omega)]
        exact h98
    · have hnp : ¬ (0 : Int32) < T.1 61 b := by rw [gl]; unfold liv at hlv; simpa using hlv
      refine ⟨(mkS (liv (U.1 20)) c, T), U, ?_, ?_, rfl, kT, kU, ⟨g0, g1, g2, g3⟩, hok, hfix, h97, h98⟩
      · rw [f_X3_growAll_60_5_L13, g0, if_pos hlt, if_pos h12, if_pos hz]
        simp only [hcl]
        rw [if_neg hnp, zlet_def, nI_1]
      · rw [f_X12_goYear_L7, billsM e96, zb_def, if_pos hlt, livesM (by omega), zb_def, z01, if_neg hlv, zlet_def, nI_1]
  · rintro n n' ⟨x3, T⟩ U ⟨hx, hy⟩
    dsimp only at hx hy ⊢
    have e96 := hy.2.2.2.1.2.1
    refine ⟨T, U, ?_, ?_, hy⟩
    · rw [f_X3_growAll_60_5_L13, hy.2.2.1.1, if_neg (nI_nlt (Nat.le_refl c) (by omega))]
    · rw [f_X12_goYear_L7, billsM e96, zb_def, if_neg (nI_nlt (Nat.le_refl c) (by omega)), zlet_def]
      rfl
theorem frz60 {st pl tp c hb : Nat} {y s : Int32} {S M T U : zS} (hpl : pl ≤ 4) (h10 : S.1 5 10 = M.1 0 47) (hfo : isI 1 99 (M.1 0 47)) (h6 : S.1 5 6 = nI hb) (h17 : ∀ p, p < pl → M.1 17 p = if hb.testBit p then 1 else 0) (hk : ∀ o, o < c → S.1 15 o = M.1 20 (8 * o + 3)) (hfr : zrem s 100 < M.1 0 46) (hI : yI60 st pl tp c y s S M T U) (w : Int32) : ∃ T' U', f_X3_freeze_60_5 T = some T' ∧ f_X12_goYear_L177 zN w 0 U = f_X12_goYear_B231 w U' ∧ yI60 st pl tp c y s S M T' U' := by
  have hc := hI.2.2.2.1.1
  unfold f_X3_freeze_60_5
  refine loopR (f := fun n (T : zS) b => f_X3_freeze_60_5_L2 n (nI b) T) (f' := fun n (U : zS) b => f_X12_goYear_L177 n w (nI b) U) (fun _ T U' => yI60 st pl tp c y s S M T U') (fun o o' => ∃ T' U', o = some T' ∧ o' = f_X12_goYear_B231 w U' ∧ yI60 st pl tp c y s S M T' U') (c := c) ?_ ?_ c 0 zN zN T U (by omega) (by show c < 10000; omega) (by show c < 10000; omega) hI
  · rintro n n' T V b hbc ⟨kT, kU, ⟨g0, g1, g2, g3⟩, hok, hfix, h97, h98⟩
    obtain ⟨-, e96, hbl⟩ := hok
    have hok : bOk st pl tp c (V.1 20) := ⟨hc, e96, hbl⟩
    have hlt : nI b < nI c := nI_lt hbc (by omega)
    have h12 : nI b < 12 := nI_lt (b := 12) (by omega) (by omega)
    have hz : zin (nI b) 12 := vp_in_nI (by omega) (by omega)
    have hcl : (nI b).toNatClampNeg = b := nI_clamp (by omega)
    obtain ⟨gl, ga⟩ := g3 b hbc
    obtain ⟨k1, -, ⟨p, hp, ep⟩, -⟩ := hbl b hbc
    have T5 : T.1 5 = S.1 5 := kT.2 5 (by decide)
    have T15 : T.1 15 b = nI p := by rw [kT.2 15 (by decide), hk b hbc, ← hfix b 3 hbc (by omega) (by omega), ep]
    have hz4 : zin (nI p) 4 := vp_in_nI (by omega) (by omega)
    have V0 : V.1 0 = M.1 0 := kU.2 0 (by decide)
    have V17 : V.1 17 p = if hb.testBit p then 1 else 0 := by rw [kU.2 17 (by decide)]; exact h17 p hp
    have hfr' : zrem (V.1 20 98) 100 < V.1 0 46 := by rw [h98, V0]; exact hfr
    have hM : f_X12_goYear_L177 (n' + 1) w (nI b) V = if hb.testBit p = true then f_X12_goYear_L177 n' w (nI (b + 1)) V else f_X12_goYear_L177 n' w (nI (b + 1)) (zput V 20 (8 * b) (leL (V.1 20 (8 * b)) (M.1 0 47))) := by
      rw [f_X12_goYear_L177, billsM e96, zb_def, if_pos hlt, show Int32.toNatClampNeg 98 = 98 from rfl, if_pos hfr', of3 (by omega), zb_def, ep, if_pos hz4, nI_clamp (by omega), V17, lessM (by omega), zu_def, zlet_def, zlet_def, nI_1, V0]
      by_cases hh : hb.testBit p = true
      · rw [if_pos hh, if_pos hh, if_neg (by decide)]
      · rw [if_neg hh, if_neg hh, if_pos rfl]
    have hX : f_X3_freeze_60_5_L2 (n + 1) (nI b) T = if hb.testBit p = true then f_X3_freeze_60_5_L2 n (nI (b + 1)) T else f_X3_freeze_60_5_L2 n (nI (b + 1)) (zput T 61 b (leL (V.1 20 (8 * b)) (M.1 0 47))) := by
      rw [f_X3_freeze_60_5_L2, g0, if_pos hlt, if_pos h12, if_pos hz]
      simp only [hcl]
      rw [T5, T15, h6, b_ask (nI hb) (by omega), bt_nI hb (by omega), if_pos hz, if_pos hz, zlet_def, zlet_def, zlet_def, nI_1, gl, h10, (lessX k1 hfo).1]
      by_cases hh : hb.testBit p = true
      · rw [if_pos hh, if_pos hh, if_neg (by decide)]
      · rw [if_neg hh, if_neg hh, if_pos rfl]
    by_cases hh : hb.testBit p = true
    · rw [if_pos hh] at hM hX
      exact ⟨T, V, hX, hM, kT, kU, ⟨g0, g1, g2, g3⟩, hok, hfix, h97, h98⟩
    · rw [if_neg hh] at hM hX
      have hl := (lessX k1 hfo).2
      generalize leL (V.1 20 (8 * b)) (M.1 0 47) = l at hM hX hl
      refine ⟨_, _, hX, hM, kp_trans kT (kp_put (by decide)), kp_trans kU (kp_put (by decide)), ?_, ?_, ?_, ?_, ?_⟩
      · rw [zput1_eq, zput1_ne _ _ _ _ _ (show 60 ≠ 61 by decide), zput1_eq, zput1_ne _ _ _ _ _ (show 62 ≠ 61 by decide)]
        refine ⟨g0, ?_, ?_, fun o ho => ?_⟩
        · rw [upd_ne _ _ _ _ (by omega)]; exact g1
        · rw [upd_ne _ _ _ _ (by omega)]; exact g2
        · rw [upd_ne _ (8 * b) (8 * o + 1) l (by omega)]
          by_cases hob : o = b
          · subst hob
            rw [upd_at, upd_at]
            exact ⟨rfl, ga⟩
          · rw [upd_ne _ _ _ _ hob, upd_ne _ _ _ _ (by omega)]
            exact g3 o ho
      · rw [zput1_eq]; exact bOk_life hok (by omega) hl
      · intro o j ho h2 h8
        rw [zput1_eq, upd_ne _ _ _ _ (by omega)]
        exact hfix o j ho h2 h8
      · rw [zput1_eq, upd_ne _ _ _ _ (by omega)]; exact h97
      · rw [zput1_eq, upd_ne _ _ _ _ (by omega)]; exact h98
  · rintro n n' T V hy
    have e96 := hy.2.2.2.1.2.1
    refine ⟨T, V, ?_, ?_, hy⟩
    · rw [f_X3_freeze_60_5_L2, hy.2.2.1.1, if_neg (nI_nlt (Nat.le_refl c) (by omega))]
    · rw [f_X12_goYear_L177, billsM e96, zb_def, if_neg (nI_nlt (Nat.le_refl c) (by omega))]
theorem year60 {st pl tp c hb : Nat} {y s : Int32} {S M : zS} (hst : st ≤ 12) (hpl : pl ≤ 4) (hF : rFm (S.1 9 0) (S.1 9 1) (M.1 0 21) (M.1 0 18) (M.1 0 52) (S.1 10) (M.1 5) (M.1 6)) (h9 : S.1 5 9 = M.1 0 46) (h10 : S.1 5 10 = M.1 0 47) (hfo : isI 1 99 (M.1 0 47)) (h6 : S.1 5 6 = nI hb) (h17 : ∀ p, p < pl → M.1 17 p = if hb.testBit p then 1 else 0) (hk2 : ∀ o, o < c → S.1 14 o = M.1 20 (8 * o + 2)) (hk3 : ∀ o, o < c → S.1 15 o = M.1 20 (8 * o + 3)) (hI : yI60 st pl tp c y s S M S M) : ∃ T U, f_X3_passYear_60_5 S = some T ∧ f_X12_goYear M = some (memF (mkS (liv (M.1 20)) c &&& (mkS (liv (U.1 20)) c ^^^ (-1))), U) ∧ yI60 st pl tp c (y + 1) (zrem (s * 137 + 71) 1000) S M T U := by
  have hc := hI.2.2.2.1.1
  unfold f_X3_passYear_60_5 f_X12_goYear
  rw [livM hc hI.2.2.2.1.2.1, zb_def]
  generalize mkS (liv (M.1 20)) c = w
  obtain ⟨T1, U1, eT1, eU1, kT, kU, ⟨g0, g1, g2, g3⟩, hok, hfix, h97, h98⟩ := grow60 hst hF hk2 hI w
  rw [eT1, zu_def, eU1, zlet_def, g2, h98]
  have hy3 : yI60 st pl tp c y (zrem (s * 137 + 71) 1000) S M (zput T1 60 2 (zrem (s * 137 + 71) 1000)) (zput U1 20 98 (zrem (s * 137 + 71) 1000)) := by
    refine ⟨kp_trans kT (kp_put (by decide)), kp_trans kU (kp_put (by decide)), ?_, ?_, ?_, ?_, ?_⟩
    · rw [zput1_eq, zput1_eq, zput1_ne _ _ _ _ _ (show 61 ≠ 60 by decide), zput1_ne _ _ _ _ _ (show 62 ≠ 60 by decide)]
      refine ⟨?_, ?_, ?_, fun o ho => ?_⟩
      · rw [upd_ne _ _ _ _ (by decide)]; exact g0
      · rw [upd_ne _ _ _ _ (by decide), upd_ne _ _ _ _ (by decide)]; exact g1
      · rw [upd_at, upd_at]
      · rw [upd_ne _ _ _ _ (by omega), upd_ne _ _ _ _ (by omega)]; exact g3 o ho
    · rw [zput1_eq]; exact bOk_oth hok (Or.inr (by omega))
    · intro o j ho h2 h8
      rw [zput1_eq, upd_ne _ _ _ _ (by omega)]
      exact hfix o j ho h2 h8
    · rw [zput1_eq, upd_ne _ _ _ _ (by decide)]; exact h97
    · rw [zput1_eq, upd_at]
  generalize hT3 : zput T1 60 2 (zrem (s * 137 + 71) 1000) = T3 at hy3 ⊢
  generalize hU3 : zput U1 20 98 (zrem (s * 137 + 71) 1000) = U3 at hy3 ⊢
  clear hT3 hU3 eT1 eU1 g0 g1 g2 g3 h97 h98 hok hfix kT kU
  generalize zrem (s * 137 + 71) 1000 = s' at hy3 ⊢
  have hend : ∀ T U : zS, yI60 st pl tp c y s' S M T U → ∃ T' U', f_X3_passYear_60_5_B43 T = some T' ∧ f_X12_goYear_B231 w U = some (memF (w &&& (mkS (liv (U'.1 20)) c ^^^ (-1))), U') ∧ yI60 st pl tp c (y + 1) s' S M T' U' := by
    rintro T U ⟨kT, kU, ⟨g0, g1, g2, g3⟩, hok, hfix, h97, h98⟩
    unfold f_X3_passYear_60_5_B43 f_X12_goYear_B231
    rw [zlet_def, zlet_def, show Int32.toNatClampNeg 97 = 97 from rfl, g1, h97]
    have e96 : (zput U 20 97 (y + 1)).1 20 96 = nI c := by rw [zput1_eq, upd_ne _ _ _ _ (by decide)]; exact hok.2.1
    rw [livM hc e96, zb_def, memM, zb_def]
    refine ⟨_, _, rfl, rfl, kp_trans kT (kp_put (by decide)), kp_trans kU (kp_put (by decide)), ?_, ?_, ?_, ?_, ?_⟩
    · rw [zput1_eq, zput1_eq, zput1_ne _ _ _ _ _ (show 61 ≠ 60 by decide), zput1_ne _ _ _ _ _ (show 62 ≠ 60 by decide)]
      refine ⟨?_, ?_, ?_, fun o ho => ?_⟩
      · rw [upd_ne _ _ _ _ (by decide)]; exact g0
      · rw [upd_at, upd_at]
      · rw [upd_ne _ _ _ _ (by decide), upd_ne _ _ _ _ (by decide)]; exact g2
      · rw [upd_ne _ _ _ _ (by omega), upd_ne _ _ _ _ (by omega)]; exact g3 o ho
    · rw [zput1_eq]; exact bOk_oth hok (Or.inr (by omega))
    · intro o j ho h2 h8
      rw [zput1_eq, upd_ne _ _ _ _ (by omega)]
      exact hfix o j ho h2 h8
    · rw [zput1_eq, upd_at]
    · rw [zput1_eq, upd_ne _ _ _ _ (by decide)]; exact h98
  have T32 : T3.1 60 2 = s' := hy3.2.2.1.2.2.1.trans hy3.2.2.2.2.2.2
  have T39 : T3.1 5 9 = M.1 0 46 := by rw [hy3.1.2 5 (by decide)]; exact h9
  rw [T32, T39]
  by_cases hfr : zrem s' 100 < M.1 0 46
  · obtain ⟨T4, U4, eT4, eU4, y4⟩ := frz60 hpl h10 hfo h6 h17 hk3 hfr hy3 w
    rw [if_pos hfr, eT4, zu_def, eU4]
    exact hend T4 U4 y4
  · have eU : f_X12_goYear_L177 zN w 0 U3 = f_X12_goYear_B231 w U3 := by
      have e96 := hy3.2.2.2.1.2.1
      have h98 : U3.1 20 98 = s' := hy3.2.2.2.2.2.2
      have h46 : U3.1 0 46 = M.1 0 46 := by rw [hy3.2.1.2 0 (by decide)]
      rw [show zN = 9999 + 1 from rfl, f_X12_goYear_L177, billsM e96, zb_def, show Int32.toNatClampNeg 98 = 98 from rfl, h98, h46, if_neg hfr, ite_self]
    rw [if_neg hfr, eU]
    exact hend T3 U3 hy3
