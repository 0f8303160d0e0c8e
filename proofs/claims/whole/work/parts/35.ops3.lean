/-! ===== falls, gaps, widest, closes, walk, feed ===== -/
theorem killM {S : zS} {b : Nat} (h : b < 12) : f_X12_kill (nI b) S = some (zput S 20 (8 * b) 0) := by
  unfold f_X12_kill
  rw [show (8 : Int32) * nI b + 0 = nI (8 * b) from nI_8 b 0, if_pos (show zin (nI (8 * b)) 99 from vp_in_nI (by omega) (by omega)), nI_clamp (by omega)]
  rfl
/-- a state with bill b pulled up -/
def kil (N : Nat → Int32) (b : Nat) : Nat → Int32 := upd N (8 * b) 0
theorem liv_kil (N : Nat → Int32) (b i : Nat) : liv (kil N b) i = (liv N i && decide (i ≠ b)) := by
  unfold liv kil
  by_cases h : i = b
  · subst h
    rw [upd_at]
    simp
  · rw [upd_ne _ _ _ _ (by omega)]
    simp [h]
theorem stdN_kil (N : Nat → Int32) (b c : Nat) : stdN (kil N b) c = stdS (fun i => liv N i && decide (i ≠ b)) (fun i => N (8 * i + 6)) (fun i => N (8 * i + 7)) c := by
  unfold stdN
  refine stdS_congr (fun i _ => liv_kil N b i) (fun i _ => ?_) (fun i _ => ?_)
  · unfold kil; rw [upd_ne _ _ _ _ (by omega)]
  · unfold kil; rw [upd_ne _ _ _ _ (by omega)]
theorem mkS_less (p : Nat → Bool) {c b : Nat} (hc : c ≤ 31) (hb : b < 31) : ∀ i, i < 32 → bt (mkS p c &&& ((1 <<< (nI b &&& 31)) ^^^ (-1))) i = (decide (i < c) && (p i && decide (i ≠ b))) := fun i hi => by
  rw [b_and, bt_mkS p hi c (by omega), b_xor, b_m1 i hi, b_bit (by omega) hi]
  by_cases h : i = b <;> simp [h]
theorem op_falls : zSt1 zRel f_X11_falls f_X12_falls := by
  intro a Sx Sm h
  obtain ⟨-, -, -, -, -, -, -, st, pl, tp, pa, hH, hA, hI⟩ := id h
  obtain ⟨c, hN, hB, e0, e1, e2, hl⟩ := ac_now hA
  have hc := hN.1
  show zSame _ _
  unfold f_X11_falls f_X12_falls f_X12_stands
  rw [isBillX hc e0, isBillM hc hN.2.1, zb_def, zb_def, z01, z01]
  by_cases ca : ¬ a < 0 ∧ a < nI c
  · obtain ⟨i, hi, rfl⟩ := nI_of ca.1
    have hic : i < c := (nI_ltI hi (by omega)).mp ca.2
    obtain ⟨x1, x2⟩ := stdNowX hN hB e0 (fun b hb => (hl b hb).1)
    rw [if_pos ca, if_pos ca, loadM, zu_def, stdNowM hc hN.2.1, zb_def, zb_def, killM (by omega), zu_def, x2, zb_def]
    rw [stdX (c := c) (lv := fun j => liv (Sm.1 19) j && decide (j ≠ i)) (am := fun j => Sm.1 19 (8 * j + 6)) (rp := fun j => Sm.1 19 (8 * j + 7)) hc (mkS_less _ (by omega) (by omega)) (fun b hb => (hB b hb).2.2.2.2.2) (fun b hb => (hB b hb).2.2.2.2.1), zb_def, x1, zb_def]
    have e96 : (zput (zld Sm 0) 20 (8 * i) 0).1 20 96 = nI c := by
      rw [zput1_eq, upd_ne _ _ _ _ (by omega), zld_at Sm (by omega)]
      exact hN.2.1
    rw [stdM hc e96, zb_def, zput1_eq, show upd ((zld Sm 0).1 20) (8 * i) 0 = kil ((zld Sm 0).1 20) i from rfl, stdN_kil]
    rw [stdS_congr (lv := fun j => liv ((zld Sm 0).1 20) j && decide (j ≠ i)) (lv' := fun j => liv (Sm.1 19) j && decide (j ≠ i)) (am' := fun j => Sm.1 19 (8 * j + 6)) (rp' := fun j => Sm.1 19 (8 * j + 7)) (fun b hb => by rw [liv_congr (fun i hi => zld_at Sm hi) hc b hb]) (fun b hb => zld_at Sm (by omega)) (fun b hb => zld_at Sm (by omega))]
    exact zsame h
  · rw [if_neg ca, if_neg ca]
    exact zsame h
/-! gaps -/
theorem all_bits : ∀ st, st < 13 → ∀ i, i < 32 → bt ((1 <<< (nI st &&& 31)) - 1) i = decide (i < st) := by decide +kernel
/-- no living bill at stake s -/
def gapP (N : Nat → Int32) (c s : Nat) : Bool := decide (mkS (fun b => liv N b && decide (N (8 * b + 2) = nI s)) c = 0)
theorem gapX {S : zS} {N : Nat → Int32} {st pl tp c : Nat} (hst : st ≤ 12) (p1 : S.1 5 0 = nI st) (hN : okN st pl tp c N) (hB : rB c N (S.1 14) (S.1 15) (S.1 16) (S.1 17) (S.1 18) (S.1 19)) (e : S.1 37 0 = nI c) (hl : ∀ b, b < c → S.1 38 b = N (8 * b)) : f_X11_gaps S = some (mkS (gapP N c) st, S) := by
  unfold f_X11_gaps
  rw [zlet_def, (stdNowX hN hB e hl).2, zb_def, p1]
  have h := loopN (f := fun n acc b S => f_X11_gaps_L22 n acc (mkS (liv N) c) b S) (S := S) (c := st) (g := fun acc s => if gapP N c s then acc else acc &&& ((1 <<< (nI s &&& 31)) ^^^ (-1))) (fun n acc s hs => by
    have h1 : nI s < nI st := nI_lt hs (by omega)
    show f_X11_gaps_L22 (n + 1) acc (mkS (liv N) c) (nI s) S = _
    rw [f_X11_gaps_L22, p1, if_pos h1, onStX hN.1 (fun b hb => (hB b hb).1) (fun i hi => bt_mkS (liv N) hi c (by have := hN.1; omega)), zb_def]
    simp only [zlet_def, nI_1, gapP, decide_eq_true_eq]
    by_cases hg : mkS (fun b => liv N b && decide (N (8 * b + 2) = nI s)) c = 0
    · simp [hg]
    · simp [hg]) (fun n acc => by
    show f_X11_gaps_L22 (n + 1) acc (mkS (liv N) c) (nI st) S = _
    rw [f_X11_gaps_L22, p1, if_neg (nI_nlt (Nat.le_refl st) (by omega))]) st 0 zN ((1 <<< (nI st &&& 31)) - 1) (by omega) (by show st < 10000; omega)
  refine h.trans ?_
  refine congrArg (fun z => some (z, S)) ?_
  refine mkS_of (by omega) fun i hi => ?_
  have key : ∀ m, m ≤ 12 → bt (foldN (fun acc s => if gapP N c s then acc else acc &&& ((1 <<< (nI s &&& 31)) ^^^ (-1))) 0 m ((1 <<< (nI st &&& 31)) - 1)) i = (decide (i < st) && (decide (m ≤ i) || gapP N c i)) := by
    intro m
    induction m with
    | zero =>
      intro _
      show bt ((1 <<< (nI st &&& 31)) - 1) i = _
      rw [all_bits st (by omega) i hi]; simp
    | succ m ih =>
      intro hm
      rw [foldN_snoc, Nat.zero_add]
      have ih := ih (by omega)
      generalize foldN (fun acc s => if gapP N c s then acc else acc &&& ((1 <<< (nI s &&& 31)) ^^^ (-1))) 0 m ((1 <<< (nI st &&& 31)) - 1) = z at ih ⊢
      show bt (if gapP N c m = true then z else z &&& ((1 <<< (nI m &&& 31)) ^^^ (-1))) i = _
      by_cases hg : gapP N c m = true
      · rw [if_pos hg, ih]
        by_cases him : i = m
        · subst him; simp [hg]
        · have : (m ≤ i) = (m + 1 ≤ i) := propext (by omega)
          simp [this]
      · rw [if_neg hg, b_and, ih, b_xor, b_m1 i hi, b_bit (by omega) hi]
        by_cases him : i = m
        · subst him; simp [hg]
        · have : (m ≤ i) = (m + 1 ≤ i) := propext (by omega)
          simp [this, him]
  rw [key st hst]
  by_cases his : i < st
  · simp [his, show ¬ st ≤ i by omega]
  · simp [his]
theorem gapM {S : zS} {st c : Nat} (hst : st ≤ 12) (p2 : S.1 0 42 = nI st) (hc : c ≤ 12) (e : S.1 20 96 = nI c) : f_X12_gapSet S = some (mkS (gapP (S.1 20) c) st, S) := by
  have h := loopN (f := f_X12_gapSet_L4) (S := S) (c := st) (g := stF (gapP (S.1 20) c)) (fun n acc s hs => by
    have h1 : nI s < nI st := nI_lt hs (by omega)
    rw [f_X12_gapSet_L4, p2, if_pos h1, billsAtM hc e, zb_def, livM hc e, zb_def, mkS_and (by omega)]
    have k : ∀ q : Bool, f_X12_gapSet_B31 (f_X12_gapSet_L4 n) (nI s) (if q then 1 else 0) acc S = f_X12_gapSet_L4 n (if q then acc ||| (1 <<< (nI s &&& 31)) else acc) (nI (s + 1)) S := fun q => by
      unfold f_X12_gapSet_B31
      rw [truthM, zb_def, zlet_def, zlet_def, nI_1, shl01 _ _ (by omega)]
    have ec : mkS (fun b => decide (S.1 20 (8 * b + 2) = nI s) && liv (S.1 20) b) c = mkS (fun b => liv (S.1 20) b && decide (S.1 20 (8 * b + 2) = nI s)) c := mkS_congr fun b hb => Bool.and_comm _ _
    rw [ec]
    by_cases hg : mkS (fun b => liv (S.1 20) b && decide (S.1 20 (8 * b + 2) = nI s)) c = 0
    · rw [if_pos hg]
      refine (k true).trans ?_
      simp [stF, gapP, hg]
    · rw [if_neg hg]
      refine (k false).trans ?_
      simp [stF, gapP, hg]) (fun n acc => by
    rw [f_X12_gapSet_L4, p2, if_neg (nI_nlt (Nat.le_refl st) (by omega))]) st 0 zN 0 (by omega) (by show st < 10000; omega)
  exact h
theorem gapP_congr {N N' : Nat → Int32} {c : Nat} (h : ∀ i, i < 99 → N i = N' i) (hc : c ≤ 12) (s : Nat) : gapP N c s = gapP N' c s := by
  unfold gapP
  rw [mkS_congr (p := fun b => liv N b && decide (N (8 * b + 2) = nI s)) (q := fun b => liv N' b && decide (N' (8 * b + 2) = nI s)) fun b hb => by rw [liv_congr h hc b hb, h _ (by omega)]]
theorem gapNow {Sx Sm : zS} (h : zRel Sx Sm) : ∃ st g, st ≤ 12 ∧ Sx.1 5 0 = nI st ∧ Sm.1 0 42 = nI st ∧ f_X11_gaps Sx = some (g, Sx) ∧ f_X12_gaps Sm = some (g, zld Sm 0) := by
  obtain ⟨-, -, -, -, -, -, -, st, pl, tp, pa, hH, hA, hI⟩ := id h
  obtain ⟨c, hN, hB, e0, e1, e2, hl⟩ := ac_now hA
  obtain ⟨-, hst, -, -, -, p1, p2, -⟩ := hH
  have hc := hN.1
  refine ⟨st, _, hst, p1, p2, gapX hst p1 hN hB e0 (fun b hb => (hl b hb).1), ?_⟩
  unfold f_X12_gaps
  rw [loadM, zu_def, gapM (S := zld Sm 0) hst p2 hc ((zld_at Sm (by omega)).trans hN.2.1), zb_def, mkS_congr (fun b hb => gapP_congr (fun i hi => zld_at Sm hi) hc b)]
theorem op_gaps : zSt0 zRel f_X11_gaps f_X12_gaps := by
  intro Sx Sm h
  obtain ⟨st, g, -, -, -, e1, e2⟩ := gapNow h
  exact ⟨_, _, _, e1, e2, zld_rel h⟩
theorem op_widest : zSt0 zRel f_X11_widest f_X12_widest := by
  intro Sx Sm h
  obtain ⟨st, g, hst, p1, p2, e1, e2⟩ := gapNow h
  have p2' : (zld Sm 0).1 0 42 = nI st := p2
  have h' := zld_rel h
  unfold f_X11_widest f_X12_widest
  rw [e1, e2, zb_def, zb_def]
  refine loopR (f := fun n (a : Int32 × Int32) b => f_X11_widest_L12 n g a.1 a.2 (nI b) Sx) (f' := fun n (a : Int32 × Int32) b => f_X12_widest_L12 n g a.1 a.2 (nI b) (zld Sm 0)) (fun _ a a' => a = a') zSame (c := st) ?_ ?_ st 0 zN zN (0, 0) (0, 0) (by omega) (by show st < 10000; omega) (by show st < 10000; omega) rfl
  · intro n n' a a' b hb ha
    subst ha
    have h1 : nI b < nI st := nI_lt hb (by omega)
    refine ⟨(zmax a.1 (if bt g b then a.2 + 1 else 0), if bt g b then a.2 + 1 else 0), _, ?_, ?_, rfl⟩
    · show f_X11_widest_L12 (n + 1) g a.1 a.2 (nI b) Sx = _
      rw [f_X11_widest_L12, p1, if_pos h1]
      simp only [b_ask0 g (show b < 31 by omega), f_X11_widest_B40, zlet_def, nI_1]
      cases hg : bt g b <;> simp
    · show f_X12_widest_L12 (n' + 1) g a.1 a.2 (nI b) (zld Sm 0) = _
      rw [f_X12_widest_L12, p2', if_pos h1]
      simp only [b_ask1 g (show b < 31 by omega), f_X12_widest_B38, zlet_def, nI_1, zmax]
      cases hg : bt g b
      · by_cases hm : a.1 < 0 <;> simp [hm]
      · by_cases hm : a.1 < a.2 + 1 <;> simp [hm]
  · intro n n' a a' ha
    subst ha
    show zSame (f_X11_widest_L12 (n + 1) g a.1 a.2 (nI st) Sx) (f_X12_widest_L12 (n' + 1) g a.1 a.2 (nI st) (zld Sm 0))
    rw [f_X11_widest_L12, p1, if_neg (nI_nlt (Nat.le_refl st) (by omega)), f_X12_widest_L12, p2', if_neg (nI_nlt (Nat.le_refl st) (by omega))]
    exact zsame h'
theorem op_closes : zSt1 zRel f_X11_closes f_X12_closes := by
  intro w Sx Sm h
  obtain ⟨st, g, hst, p1, p2, e1, e2⟩ := gapNow h
  have p2' : (zld Sm 0).1 0 42 = nI st := p2
  have h' := zld_rel h
  show zSame _ _
  unfold f_X11_closes f_X12_closes
  rw [isIn_spec, zb_def]
  by_cases c1 : w < 1
  · rw [if_pos c1, if_pos c1, if_pos rfl]
    exact zsame h
  · rw [if_neg c1, if_neg c1]
    by_cases c2 : (12 : Int32) < w
    · rw [if_pos c2, if_pos c2, if_pos rfl]
      exact zsame h
    · rw [if_neg c2, if_neg c2, if_neg (by decide), e1, e2, zb_def, zb_def]
      obtain ⟨v, hv, rfl⟩ : ∃ v : Nat, v < 2 ^ 31 ∧ w = nI v := nI_of (fun z => c1 (Int32.lt_trans z (by decide)))
      have hv1 : 1 ≤ v := by
        have : ¬ nI v < nI 1 := c1
        rw [nI_ltI hv (by omega)] at this
        omega
      refine loopR (f := fun n (a : Int32 × Int32) b => f_X11_closes_L26 n (nI v) g a.1 a.2 (nI b) Sx) (f' := fun n (a : Int32 × Int32) b => f_X12_closes_L25 n (nI v) g a.1 a.2 (nI b) (zld Sm 0)) (fun _ a a' => a = a' ∧ ∃ r : Nat, a.2 = nI r ∧ r < v) zSame (c := st) ?_ ?_ st 0 zN zN (0, 0) (0, 0) (by omega) (by show st < 10000; omega) (by show st < 10000; omega) ⟨rfl, 0, rfl, hv1⟩
      · intro n n' a a' b hb ⟨ha, r, hr, hrv⟩
        subst ha
        have h1 : nI b < nI st := nI_lt hb (by omega)
        have h0 : ¬ (0 : Int32) = nI v := fun z => by
          have := (nI_eq (a := 0) (by omega) hv).mp z
          omega
        have h0' : (0 : Int32) < nI v := nI_lt (a := 0) (by omega) hv
        cases hg : bt g b with
        | false =>
          refine ⟨(a.1, 0), (a.1, 0), ?_, ?_, rfl, 0, rfl, hv1⟩
          · show f_X11_closes_L26 (n + 1) (nI v) g a.1 a.2 (nI b) Sx = _
            rw [f_X11_closes_L26, p1, if_pos h1]
            simp only [b_ask0 g (show b < 31 by omega), hg, f_X11_closes_B55, zlet_def, nI_1, h0, ↓reduceIte]
          · show f_X12_closes_L25 (n' + 1) (nI v) g a.1 a.2 (nI b) (zld Sm 0) = _
            rw [f_X12_closes_L25, p2', if_pos h1]
            simp only [b_ask1 g (show b < 31 by omega), hg, f_X12_closes_B52, zlet_def, nI_1, h0', ↓reduceIte, Bool.false_eq_true]
        | true =>
          have er : a.2 + 1 = nI (r + 1) := by rw [hr, nI_1]
          by_cases hrw : r + 1 = v
          · have q1 : nI (r + 1) = nI v := by rw [hrw]
            have q2 : ¬ nI (r + 1) < nI v := nI_nlt (by omega) (by omega)
            refine ⟨(a.1 + 1, 0), (a.1 + 1, 0), ?_, ?_, rfl, 0, rfl, hv1⟩
            · show f_X11_closes_L26 (n + 1) (nI v) g a.1 a.2 (nI b) Sx = _
              rw [f_X11_closes_L26, p1, if_pos h1]
              simp only [b_ask0 g (show b < 31 by omega), hg, f_X11_closes_B55, zlet_def, nI_1, er, q1, ↓reduceIte, Bool.true_eq_false]
            · show f_X12_closes_L25 (n' + 1) (nI v) g a.1 a.2 (nI b) (zld Sm 0) = _
              rw [f_X12_closes_L25, p2', if_pos h1]
              simp only [b_ask1 g (show b < 31 by omega), hg, f_X12_closes_B52, zlet_def, nI_1, er, q2, ↓reduceIte]
          · have q1 : ¬ nI (r + 1) = nI v := fun z => hrw ((nI_eq (by omega) hv).mp z)
            have q2 : nI (r + 1) < nI v := nI_lt (by omega) hv
            refine ⟨(a.1, nI (r + 1)), (a.1, nI (r + 1)), ?_, ?_, rfl, r + 1, rfl, by omega⟩
            · show f_X11_closes_L26 (n + 1) (nI v) g a.1 a.2 (nI b) Sx = _
              rw [f_X11_closes_L26, p1, if_pos h1]
              simp only [b_ask0 g (show b < 31 by omega), hg, f_X11_closes_B55, zlet_def, nI_1, er, q1, ↓reduceIte, Bool.true_eq_false]
            · show f_X12_closes_L25 (n' + 1) (nI v) g a.1 a.2 (nI b) (zld Sm 0) = _
              rw [f_X12_closes_L25, p2', if_pos h1]
              simp only [b_ask1 g (show b < 31 by omega), hg, f_X12_closes_B52, zlet_def, nI_1, er, q2, ↓reduceIte]
      · intro n n' a a' ⟨ha, _⟩
        subst ha
        show zSame (f_X11_closes_L26 (n + 1) (nI v) g a.1 a.2 (nI st) Sx) (f_X12_closes_L25 (n' + 1) (nI v) g a.1 a.2 (nI st) (zld Sm 0))
        rw [f_X11_closes_L26, p1, if_neg (nI_nlt (Nat.le_refl st) (by omega)), f_X12_closes_L25, p2', if_neg (nI_nlt (Nat.le_refl st) (by omega))]
        exact zsame h'
/-! walk -/
theorem all_nI : ∀ st, st < 13 → (1 <<< (nI st &&& 31)) - 1 = nI (2 ^ st - 1) := by decide +kernel
theorem all_tn : ∀ st, st < 13 → ((1 <<< (nI st &&& 31)) - 1 : Int32).toBitVec.toNat = 2 ^ st - 1 := by decide +kernel
theorem set_in (x : Int32) {st : Nat} (hst : st ≤ 12) : (x &&& (((1 <<< (nI st &&& 31)) - 1) ^^^ (-1)) = 0) ↔ ¬ x < 0 ∧ ¬ (1 <<< (nI st &&& 31)) - 1 < x := by
  have hp : 2 ^ st ≤ 2 ^ 12 := Nat.pow_le_pow_right (by omega) hst
  have hp0 : 0 < 2 ^ st := Nat.pow_pos (by omega)
  constructor
  · intro h
    have e : x &&& ((1 <<< (nI st &&& 31)) - 1) = x := b_ext fun i hi => by
      have hb : bt (x &&& (((1 <<< (nI st &&& 31)) - 1) ^^^ (-1))) i = false := by rw [h]; exact b_0 i
      rw [b_and, b_xor, b_m1 i hi] at hb
      rw [b_and]
      cases hx : bt x i <;> simp_all
    rw [pk_and x st (all_tn st (by omega))] at e
    have hlt : x.toBitVec.toNat % 2 ^ st < 2 ^ st := Nat.mod_lt _ hp0
    generalize x.toBitVec.toNat % 2 ^ st = j at e hlt
    subst e
    rw [all_nI st (by omega)]
    exact ⟨nI_not_neg (by omega), nI_nlt (by omega) (by omega)⟩
  · rintro ⟨h1, h2⟩
    obtain ⟨j, hj, rfl⟩ := nI_of h1
    rw [all_nI st (by omega), nI_ltI (by omega) hj] at h2
    have e : nI j &&& ((1 <<< (nI st &&& 31)) - 1) = nI j := by
      rw [pk_andN (by omega) st (all_tn st (by omega)), Nat.mod_eq_of_lt (by omega)]
    refine b_ext fun i hi => ?_
    rw [b_0, b_and, b_xor, b_m1 i hi]
    have hb := congrArg (fun z => bt z i) e
    simp only [b_and] at hb
    cases hx : bt (nI j) i <;> simp_all
theorem walk_end (x lo hi : Int32) : (hi - lo) + zmin (x - lo) (hi - x) = if x - lo < hi - x then ((x - lo) + (hi - x)) + (x - lo) else ((x - lo) + (hi - x)) + (hi - x) := by
  have e : hi - lo = (x - lo) + (hi - x) := by grind
  unfold zmin
  by_cases h1 : x - lo < hi - x
  · rw [if_pos h1, if_neg (fun z => Int32.lt_irrefl (Int32.lt_trans h1 z)), e]
  · rw [if_neg h1]
    by_cases h2 : hi - x < x - lo
    · rw [if_pos h2, e]
    · rw [if_neg h2, e]
      have : x - lo = hi - x := by
        rw [← Int32.toInt_inj]
        rw [Int32.lt_iff_toInt_lt] at h1 h2
        omega
      rw [this]
theorem op_walk : zSt2 zRel f_X11_walk f_X12_walk := by
  intro a w Sx Sm h
  obtain ⟨-, -, -, -, -, -, -, st, pl, tp, pa, hH, hA, hI⟩ := id h
  obtain ⟨-, hst, -, -, -, p1, p2, -⟩ := hH
  show zSame _ _
  unfold f_X11_walk f_X12_walk
  rw [isStakeX p1, isStakeM hst p2, zb_def, zb_def, z01, z01]
  by_cases ca : ¬ a < 0 ∧ a < nI st
  · rw [if_pos ca, if_pos ca, isIn_spec, zb_def, p1, p2]
    by_cases cw : w &&& (((1 <<< (nI st &&& 31)) - 1) ^^^ (-1)) = 0
    · obtain ⟨k1, k2⟩ := (set_in w hst).mp cw
      rw [if_pos cw, if_neg k1, if_neg k2, if_neg (by decide)]
      refine loopR (f := fun n (q : Int32 × Int32) b => f_X11_walk_L36 n a w q.1 q.2 (nI b) Sx) (f' := fun n (q : Int32 × Int32) b => f_X12_walk_L34 n a w q.1 q.2 (nI b) Sm) (fun _ q q' => q = q') zSame (c := st) ?_ ?_ st 0 zN zN (a, a) (a, a) (by omega) (by show st < 10000; omega) (by show st < 10000; omega) rfl
      · intro n n' q q' b hb hq
        subst hq
        have h1 : nI b < nI st := nI_lt hb (by omega)
        cases hg : bt w b with
        | false =>
          refine ⟨q, q, ?_, ?_, rfl⟩
          · show f_X11_walk_L36 (n + 1) a w q.1 q.2 (nI b) Sx = _
            rw [f_X11_walk_L36, p1, if_pos h1]
            simp only [b_ask0 w (show b < 31 by omega), hg, zlet_def, nI_1, ↓reduceIte]
          · show f_X12_walk_L34 (n' + 1) a w q.1 q.2 (nI b) Sm = _
            rw [f_X12_walk_L34, p2, if_pos h1]
            simp only [b_ask0 w (show b < 31 by omega), hg, zlet_def, nI_1, ↓reduceIte]
        | true =>
          refine ⟨(zmin q.1 (nI b), zmax q.2 (nI b)), _, ?_, ?_, rfl⟩
          · show f_X11_walk_L36 (n + 1) a w q.1 q.2 (nI b) Sx = _
            rw [f_X11_walk_L36, p1, if_pos h1]
            simp only [b_ask0 w (show b < 31 by omega), hg, zlet_def, nI_1, ↓reduceIte, Bool.true_eq_false]
          · show f_X12_walk_L34 (n' + 1) a w q.1 q.2 (nI b) Sm = _
            rw [f_X12_walk_L34, p2, if_pos h1]
            simp only [b_ask0 w (show b < 31 by omega), hg, zlet_def, nI_1, ↓reduceIte, Bool.true_eq_false, f_X12_walk_B67, zmin, zmax]
            by_cases m1 : nI b < q.1
            · by_cases m2 : q.2 < nI b <;> simp [m1, m2]
            · by_cases m2 : q.2 < nI b <;> simp [m1, m2]
      · intro n n' q q' hq
        subst hq
        show zSame (f_X11_walk_L36 (n + 1) a w q.1 q.2 (nI st) Sx) (f_X12_walk_L34 (n' + 1) a w q.1 q.2 (nI st) Sm)
        rw [f_X11_walk_L36, p1, if_neg (nI_nlt (Nat.le_refl st) (by omega)), f_X12_walk_L34, p2, if_neg (nI_nlt (Nat.le_refl st) (by omega)), walk_end, zlet_def, zlet_def]
        by_cases m : a - q.1 < q.2 - a
        · rw [if_pos m, if_pos m]; exact zsame h
        · rw [if_neg m, if_neg m]; exact zsame h
    · rw [if_neg cw]
      have := fun z => cw ((set_in w hst).mpr z)
      by_cases k1 : w < 0
      · rw [if_pos k1, if_pos rfl]; exact zsame h
      · rw [if_neg k1]
        by_cases k2 : (1 <<< (nI st &&& 31)) - 1 < w
        · rw [if_pos k2, if_pos rfl]; exact zsame h
        · exact absurd ⟨k1, k2⟩ this
  · rw [if_neg ca, if_neg ca]
    exact zsame h
/-! feed -/
theorem byte_eq (w : Int32) : ∃ c : Nat, c < 256 ∧ w &&& 255 = nI c ∧ (Int32.toInt8 w).toInt32 = (nI c).toInt8.toInt32 := by
  obtain ⟨c, hc, e⟩ := pk_andE w (m := 255) 8 (by decide)
  refine ⟨c, hc, e, ?_⟩
  rw [← e]
  congr 1
  rw [← Int8.toBitVec_inj]
  refine BitVec.eq_of_getLsbD_eq fun i hi => ?_
  rw [Int32.toBitVec_toInt8, Int32.toBitVec_toInt8, BitVec.getLsbD_signExtend, BitVec.getLsbD_signExtend]
  have := b_and w 255 i
  rw [b_255] at this
  unfold bt at this
  simp only [show i < 32 by omega, ↓reduceIte, this]
  simp [hi]
theorem feed1 {X M : zS} {n : Nat} (h : zRel X M) (hn : n < 1600) (w : Int32) : zRel (zput (zput X 1 n ((Int32.toInt8 w).toInt32)) 0 1 (nI (n + 1))) (zput (zput M 1 n (w &&& 255)) 0 1 (nI (n + 1))) := by
  obtain ⟨⟨-, hb⟩, hF, hL, hR, hFm, hW, hO, st, pl, tp, pa, hH, hA, hI⟩ := h
  refine ⟨⟨⟨n + 1, by omega, rfl, rfl⟩, fun i hi => ?_⟩, hF, hL, hR, hFm, hW, hO, st, pl, tp, pa, hH, hA, hI⟩
  show ∃ c : Nat, c < 256 ∧ upd (M.1 1) n (w &&& 255) i = nI c ∧ upd (X.1 1) n ((Int32.toInt8 w).toInt32) i = (nI c).toInt8.toInt32
  by_cases hin : i = n
  · subst hin
    rw [upd_at, upd_at]
    exact byte_eq w
  · rw [upd_ne _ _ _ _ hin, upd_ne _ _ _ _ hin]
    exact hb i hi
theorem feed4 {X M : zS} {n : Nat} (h : zRel X M) (hn : n + 4 ≤ 1600) (e1 : X.1 0 1 = nI n) (e2 : M.1 0 1 = nI n) (v : Int32) : ∃ X' M', f_X11_putBytes v X = some X' ∧ f_X12_four v M = some M' ∧ zRel X' M' ∧ X'.1 0 1 = nI (n + 4) ∧ M'.1 0 1 = nI (n + 4) := by
  have key : ∀ (k s f : Nat) (n : Nat) (X M : zS), zRel X M → n < 1600 → X.1 0 1 = nI n → M.1 0 1 = nI n → f_X11_putBytes_L3 (f + 1) v (nI s) X = f_X11_putBytes_L3 f v (nI s + (-8)) (zput (zput X 1 n ((Int32.toInt8 (v >>> (nI s &&& 31))).toInt32)) 0 1 (nI (n + 1))) ∧ f_X12_four_L3 (f + 1) v (nI s) M = f_X12_four_L3 f v (nI s + (-8)) (zput (zput M 1 n ((v >>> (nI s &&& 31)) &&& 255)) 0 1 (nI (n + 1))) ∨ 2 ^ 31 ≤ s := by
    intro k s f n X M h hn e1 e2
    by_cases hs : s < 2 ^ 31
    · left
      have hz : zin (nI n) 1600 = True := zin_T hn (by omega)
      have h16 : nI n < 1600 := nI_lt (b := 1600) hn (by omega)
      constructor
      · rw [f_X11_putBytes_L3, if_neg (nI_not_neg hs), e1]
        simp only [h16, hz, ↓reduceIte, zlet_def, nI_clamp (show n < 2 ^ 31 by omega), pk_vb]
        rw [show (zput X 1 n ((Int32.toInt8 (v >>> (nI s &&& 31))).toInt32)).1 0 1 = X.1 0 1 from rfl, e1, nI_1]
      · rw [f_X12_four_L3, if_neg (nI_not_neg hs), e2]
        simp only [hz, ↓reduceIte, zlet_def, nI_clamp (show n < 2 ^ 31 by omega)]
        rw [show (zput M 1 n ((v >>> (nI s &&& 31)) &&& 255)).1 0 1 = M.1 0 1 from rfl, e2, nI_1]
    · right; omega
  unfold f_X11_putBytes f_X12_four
  have hf : zN = 9995 + 1 + 1 + 1 + 1 + 1 := rfl
  rw [hf]
  rcases key 0 24 (9995 + 1 + 1 + 1 + 1) n X M h (by omega) e1 e2 with ⟨q1, q2⟩ | hh
  · rw [show (24 : Int32) = nI 24 from rfl, q1, q2]
    have h1 := feed1 h (show n < 1600 by omega) (v >>> (nI 24 &&& 31))
    rcases key 0 16 (9995 + 1 + 1 + 1) (n + 1) _ _ h1 (by omega) rfl rfl with ⟨q1, q2⟩ | hh
    · rw [show nI 24 + (-8) = nI 16 from by decide, q1, q2]
      have h2 := feed1 h1 (show n + 1 < 1600 by omega) (v >>> (nI 16 &&& 31))
      rcases key 0 8 (9995 + 1 + 1) (n + 2) _ _ h2 (by omega) rfl rfl with ⟨q1, q2⟩ | hh
      · rw [show nI 16 + (-8) = nI 8 from by decide, q1, q2]
        have h3 := feed1 h2 (show n + 2 < 1600 by omega) (v >>> (nI 8 &&& 31))
        rcases key 0 0 (9995 + 1) (n + 3) _ _ h3 (by omega) rfl rfl with ⟨q1, q2⟩ | hh
        · rw [show nI 8 + (-8) = nI 0 from by decide, q1, q2]
          have h4 := feed1 h3 (show n + 3 < 1600 by omega) (v >>> (nI 0 &&& 31))
          rw [f_X11_putBytes_L3, if_pos (by decide), f_X12_four_L3, if_pos (by decide)]
          exact ⟨_, _, rfl, rfl, h4, rfl, rfl⟩
        · omega
      · omega
    · omega
  · omega
theorem op_feed : zSt5 zRel f_X11_feed f_X12_feed := by
  intro a b c d e Sx Sm h
  obtain ⟨⟨⟨n, hn, e1, e2⟩, -⟩, -⟩ := id h
  show zSame _ _
  unfold f_X11_feed f_X12_feed
  rw [e1, e2]
  have hk : (1600 : Int32) < nI n + 20 ↔ 1600 < n + 20 := by
    rw [show (20 : Int32) = nI 20 from rfl, nI_add, show (1600 : Int32) = nI 1600 from rfl, nI_ltI (by omega) (by omega)]
  by_cases c1 : (1600 : Int32) < nI n + 20
  · rw [if_pos c1, if_pos c1]; exact zsame h
  · rw [if_neg c1, if_neg c1]
    have hn2 : n + 20 ≤ 1600 := Nat.not_lt.mp fun z => c1 (hk.mpr z)
    obtain ⟨X1, M1, q1, q2, h1, r1, r2⟩ := feed4 h (by omega) e1 e2 a
    obtain ⟨X2, M2, q3, q4, h2, r3, r4⟩ := feed4 h1 (by omega) r1 r2 b
    obtain ⟨X3, M3, q5, q6, h3, r5, r6⟩ := feed4 h2 (by omega) r3 r4 c
    obtain ⟨X4, M4, q7, q8, h4, r7, r8⟩ := feed4 h3 (by omega) r5 r6 d
    obtain ⟨X5, M5, q9, q10, h5, r9, r10⟩ := feed4 h4 (by omega) r7 r8 e
    rw [q1, q2, zu_def, zu_def, q3, q4, zu_def, zu_def, q5, q6, zu_def, zu_def, q7, q8, zu_def, zu_def, q9, q10, zu_def, zu_def, r9, r10]
    exact zsame h5
