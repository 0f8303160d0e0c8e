/-! ===== loops in general; the pairs on what is there ===== -/
/-- a loop over b .. c - 1 whose state is anything -/
theorem loopP {α β : Type} {f : Nat → α → Nat → Option β} {g : α → Nat → α} {out : α → Option β} {c : Nat} (h1 : ∀ n a b, b < c → f (n + 1) a b = f n (g a b) (b + 1)) (h2 : ∀ n a, f (n + 1) a c = out a) : ∀ (m b n : Nat) (a : α), b + m = c → m < n → f n a b = out (foldN g b m a) := by
  intro m
  induction m with
  | zero =>
    intro b n acc hb hn
    obtain ⟨k, rfl⟩ : ∃ k, n = k + 1 := ⟨n - 1, by omega⟩
    have : b = c := by omega
    subst this
    exact h2 k acc
  | succ m ih =>
    intro b n acc hb hn
    obtain ⟨k, rfl⟩ : ∃ k, n = k + 1 := ⟨n - 1, by omega⟩
    rw [h1 k acc b (by omega), ih (b + 1) k _ (by omega) (by omega)]
    rfl
/-- two loops in step -/
theorem loopR {α α' β β' : Type} {f : Nat → α → Nat → Option β} {f' : Nat → α' → Nat → Option β'} (R : Nat → α → α' → Prop) (Q : Option β → Option β' → Prop) {c : Nat} (h1 : ∀ n n' a a' b, b < c → R b a a' → ∃ a1 a1', f (n + 1) a b = f n a1 (b + 1) ∧ f' (n' + 1) a' b = f' n' a1' (b + 1) ∧ R (b + 1) a1 a1') (h2 : ∀ n n' a a', R c a a' → Q (f (n + 1) a c) (f' (n' + 1) a' c)) : ∀ (m b n n' : Nat) (a : α) (a' : α'), b + m = c → m < n → m < n' → R b a a' → Q (f n a b) (f' n' a' b) := by
  intro m
  induction m with
  | zero =>
    intro b n n' a a' hb hn hn' hR
    obtain ⟨k, rfl⟩ : ∃ k, n = k + 1 := ⟨n - 1, by omega⟩
    obtain ⟨k', rfl⟩ : ∃ k, n' = k + 1 := ⟨n' - 1, by omega⟩
    have : b = c := by omega
    subst this
    exact h2 k k' a a' hR
  | succ m ih =>
    intro b n n' a a' hb hn hn' hR
    obtain ⟨k, rfl⟩ : ∃ k, n = k + 1 := ⟨n - 1, by omega⟩
    obtain ⟨k', rfl⟩ : ∃ k, n' = k + 1 := ⟨n' - 1, by omega⟩
    obtain ⟨a1, a1', e1, e2, hR'⟩ := h1 k k' a a' b (by omega) hR
    rw [e1, e2]
    exact ih (b + 1) k k' a1 a1' (by omega) (by omega) (by omega) hR'
/-- one loop that keeps a property -/
theorem loopI {α β : Type} {f : Nat → α → Nat → Option β} (R : Nat → α → Prop) (Q : Option β → Prop) {c : Nat} (h1 : ∀ n a b, b < c → R b a → ∃ a1, f (n + 1) a b = f n a1 (b + 1) ∧ R (b + 1) a1) (h2 : ∀ n a, R c a → Q (f (n + 1) a c)) : ∀ (m b n : Nat) (a : α), b + m = c → m < n → R b a → Q (f n a b) := by
  intro m
  induction m with
  | zero =>
    intro b n a hb hn hR
    obtain ⟨k, rfl⟩ : ∃ k, n = k + 1 := ⟨n - 1, by omega⟩
    have : b = c := by omega
    subst this
    exact h2 k a hR
  | succ m ih =>
    intro b n a hb hn hR
    obtain ⟨k, rfl⟩ : ∃ k, n = k + 1 := ⟨n - 1, by omega⟩
    obtain ⟨a1, e1, hR'⟩ := h1 k a b (by omega) hR
    rw [e1]
    exact ih (b + 1) k a1 (by omega) (by omega) hR'
/-- both answer r, and the stores still fit -/
def zSame (a b : zO) : Prop := ∃ r Sx' Sm', a = some (r, Sx') ∧ b = some (r, Sm') ∧ zRel Sx' Sm'
theorem zsame {r : Int32} {Sx Sm : zS} (h : zRel Sx Sm) : zSame (some (r, Sx)) (some (r, Sm)) := ⟨r, Sx, Sm, rfl, rfl, h⟩
theorem zsame' {r r' : Int32} {Sx Sm : zS} (h : zRel Sx Sm) (e : r = r') : zSame (some (r, Sx)) (some (r', Sm)) := ⟨r, Sx, Sm, rfl, by rw [e], h⟩
theorem zsame_ite {P : Prop} [Decidable P] {A B A' B' : zO} (h1 : P → zSame A A') (h2 : ¬ P → zSame B B') : zSame (if P then A else B) (if P then A' else B') := by
  by_cases h : P
  · rw [if_pos h, if_pos h]; exact h1 h
  · rw [if_neg h, if_neg h]; exact h2 h
/-! about -/
theorem op_about : zSt1 zRel f_X11_about f_X12_about := by
  intro a Sx Sm h
  obtain ⟨⟨⟨nt, hnt, t1, t2⟩, -⟩, -, ⟨nl, -, l1, l2, -⟩, ⟨⟨t, ht, r1, r2⟩, nr, hnr, r3, r4, -⟩, ⟨len, un, -, -, f1, f2, -⟩, -, -, st, pl, tp, pa, hH, hA, hI⟩ := id h
  obtain ⟨c, hN, hB, e0, e1, e2, hl⟩ := ac_now hA
  obtain ⟨d, u, f, hh, cc, -, -, a1, a2, -, a3, a4, -⟩ := hA
  obtain ⟨-, -, -, -, -, p1, p2, p3, p4, p5, p6, p7, p8, -⟩ := hH
  have hc := hN.1
  have hx : f_X3_allLife_37 Sx = some (foldN (fun acc b => acc + Sm.1 19 (8 * b)) 0 c 0, Sx) := loopN (f := f_X3_allLife_37_L4) (S := Sx) (c := c) (g := fun acc b => acc + Sm.1 19 (8 * b)) (fun n acc b hb => by
    have h1 : nI b < nI c := nI_lt hb (by omega)
    have h12 : nI b < 12 := nI_lt (b := 12) (by omega) (by omega)
    have hz : zin (nI b) 12 = True := zin_T (by omega) (by omega)
    rw [f_X3_allLife_37_L4, e0]
    simp only [h1, h12, hz, ↓reduceIte, zlet_def, nI_1, nI_clamp (show b < 2 ^ 31 by omega), (hl b hb).1]) (fun n acc => by
    rw [f_X3_allLife_37_L4, e0, if_neg (nI_nlt (Nat.le_refl c) (by omega))]) c 0 zN 0 (by omega) (by show c < 10000; omega)
  have hm : f_X12_allLife Sm = some (foldN (fun acc b => acc + Sm.1 19 (8 * b)) 0 c 0, Sm) := loopN (f := f_X12_allLife_L4) (S := Sm) (c := c) (g := fun acc b => acc + Sm.1 19 (8 * b)) (fun n acc b hb => by
    have h1 : nI b < nI c := nI_lt hb (by omega)
    have e8 : (8 : Int32) * nI b + 0 = nI (8 * b) := nI_8 b 0
    have hz : zin (nI (8 * b)) 99 = True := zin_T (by omega) (by omega)
    rw [f_X12_allLife_L4, show Int32.toNatClampNeg 96 = 96 from rfl, hN.2.1]
    simp only [h1, e8, hz, ↓reduceIte, zlet_def, nI_1, nI_clamp (show 8 * b < 2 ^ 31 by omega)]) (fun n acc => by
    rw [f_X12_allLife_L4, show Int32.toNatClampNeg 96 = 96 from rfl, hN.2.1, if_neg (nI_nlt (Nat.le_refl c) (by omega))]) c 0 zN 0 (by omega) (by show c < 10000; omega)
  show zSame _ _
  unfold f_X11_about f_X12_about
  rw [hx, hm, zb_def, zb_def, show Int32.toNatClampNeg 96 = 96 from rfl, show Int32.toNatClampNeg 97 = 97 from rfl, show Int32.toNatClampNeg 98 = 98 from rfl, e0, hN.2.1, e1, e2, p1, p2, p3, p4, p5, p6, p7, p8, a1, a2, a3, a4, r1, r2, r3, r4, t1, t2, f1, f2, l1, l2]
  repeat (refine zsame_ite (fun _ => zsame h) (fun _ => ?_))
  exact zsame h
/-! bill -/
theorem isStakeX {st : Nat} {S : zS} (e : S.1 5 0 = nI st) (x : Int32) : f_X11_isStake x S = some (if ¬ x < 0 ∧ x < nI st then 1 else 0, S) := by
  unfold f_X11_isStake
  rw [e]
  by_cases c1 : x < 0
  · simp only [c1, not_true_eq_false, false_and, ↓reduceIte]
  · by_cases c2 : x < nI st
    · simp only [c1, c2, not_false_eq_true, and_self, ↓reduceIte]
    · simp only [c1, c2, and_false, ↓reduceIte]
theorem isStakeM {st : Nat} {S : zS} (hst : st ≤ 12) (e : S.1 0 42 = nI st) (x : Int32) : f_X12_isStake x S = some (if ¬ x < 0 ∧ x < nI st then 1 else 0, S) := by
  unfold f_X12_isStake
  rw [e, isIn_n (by omega), zb_def, if_pos (znb_01 _)]
theorem op_bill : zSt2 zRel f_X11_bill f_X12_bill := by
  intro a w Sx Sm h
  obtain ⟨-, -, -, -, -, -, -, st, pl, tp, pa, hH, hA, hI⟩ := id h
  obtain ⟨c, hN, hB, e0, e1, e2, hl⟩ := ac_now hA
  have hc := hN.1
  show zSame _ _
  unfold f_X11_bill f_X12_bill
  rw [isBillX hc e0, isBillM hc hN.2.1, zb_def, zb_def, z01, z01]
  by_cases ca : ¬ a < 0 ∧ a < nI c
  · obtain ⟨i, hi, rfl⟩ := nI_of ca.1
    have hic : i < c := (nI_ltI hi (by omega)).mp ca.2
    have hz : zin (nI i) 12 = True := zin_T (by omega) (by omega)
    obtain ⟨b1, b2, b3, b4, b5, b6⟩ := hB i hic
    obtain ⟨l1, l2⟩ := hl i hic
    have hrep : f_X1_repealedBy_13 (mkS (liv (Sm.1 19)) c) Sx = some (repS (liv (Sm.1 19)) (fun b => Sm.1 19 (8 * b + 7)) c, Sx) := repX hc (fun i hi => bt_mkS _ hi c (by omega)) (fun b hb => (hB b hb).2.2.2.2.2)
    have hrepM : f_X12_repealedSet (zld Sm 0) = some (repS (liv (Sm.1 19)) (fun b => Sm.1 19 (8 * b + 7)) c, zld Sm 0) := by
      rw [repM hc ((zld_at Sm (by omega)).trans hN.2.1), repS_congr (liv_congr (fun i hi => zld_at Sm hi) hc) (fun b hb => zld_at Sm (show 8 * b + 7 < 99 by omega))]
    rw [if_pos ca, if_pos ca, loadM, zu_def]
    have hN' := hN.2.1
    simp only [hz, ↓reduceIte, nI_clamp hi, (stdNowX hN hB e0 (fun b hb => (hl b hb).1)).1, (stdNowX hN hB e0 (fun b hb => (hl b hb).1)).2, stdNowM hc hN', hrep, hrepM, zb_def, of0 (S := zld Sm 0) (show i < 12 by omega), of1 (S := zld Sm 0) (show i < 12 by omega), of2 (S := zld Sm 0) (show i < 12 by omega), of3 (S := zld Sm 0) (show i < 12 by omega), of4 (S := zld Sm 0) (show i < 12 by omega), of5 (S := zld Sm 0) (show i < 12 by omega), of6 (S := zld Sm 0) (show i < 12 by omega), of7 (S := zld Sm 0) (show i < 12 by omega), zld_at Sm (show 8 * i < 99 by omega), zld_at Sm (show 8 * i + 1 < 99 by omega), zld_at Sm (show 8 * i + 2 < 99 by omega), zld_at Sm (show 8 * i + 3 < 99 by omega), zld_at Sm (show 8 * i + 4 < 99 by omega), zld_at Sm (show 8 * i + 5 < 99 by omega), zld_at Sm (show 8 * i + 6 < 99 by omega), zld_at Sm (show 8 * i + 7 < 99 by omega), b1, b2, b3, b4, b5, b6, l1, l2]
    have h' := zld_rel h
    repeat (refine zsame_ite (fun _ => zsame h') (fun _ => ?_))
    exact zsame h'
  · rw [if_neg ca, if_neg ca]
    exact zsame h
/-! stake -/
/-- the bills below c of the set x at stake s -/
theorem onStX {S : zS} {N : Nat → Int32} {c : Nat} (hc : c ≤ 12) (hs : ∀ b, b < c → S.1 14 b = N (8 * b + 2)) {x : Int32} {p : Nat → Bool} (hx : ∀ i, i < 32 → bt x i = (decide (i < c) && p i)) (s : Int32) : f_X1_onStake_13 s x S = some (mkS (fun b => p b && decide (N (8 * b + 2) = s)) c, S) := by
  have h := loopN (f := fun n acc b S => f_X1_onStake_13_L5 n s x acc b S) (S := S) (c := 12) (g := stF (fun b => decide (b < c) && (p b && decide (N (8 * b + 2) = s)))) (fun n acc b hb => by
    have h12 : nI b < 12 := nI_lt (b := 12) hb (by omega)
    have hz : zin (nI b) 12 = True := zin_T hb (by omega)
    show f_X1_onStake_13_L5 (n + 1) s x acc (nI b) S = _
    rw [f_X1_onStake_13_L5]
    simp only [h12, hz, ↓reduceIte, zlet_def, nI_1, b_ask0 x (show b < 31 by omega), hx b (by omega), nI_clamp (show b < 2 ^ 31 by omega), stF]
    by_cases hbc : b < c
    · rw [hs b hbc]
      by_cases hp : p b = true
      · by_cases hn : N (8 * b + 2) = s
        · simp [hbc, hn, hp]
        · simp [hbc, hn, hp]
      · simp [hbc, hp]
    · simp [hbc]) (fun n acc => by
    show f_X1_onStake_13_L5 (n + 1) s x acc (nI 12) S = _
    rw [f_X1_onStake_13_L5, if_neg (by decide)]) 12 0 zN 0 rfl (by decide)
  rw [show f_X1_onStake_13 s x S = f_X1_onStake_13_L5 zN s x 0 (nI 0) S from rfl]
  refine h.trans ?_
  refine congrArg (fun z => some (z, S)) ?_
  refine mkS_of (by omega) fun i hi => ?_
  rw [show foldN (stF (fun b => decide (b < c) && (p b && decide (N (8 * b + 2) = s)))) 0 12 0 = mkS (fun b => decide (b < c) && (p b && decide (N (8 * b + 2) = s))) 12 from rfl, bt_mkS _ hi 12 (by omega)]
  by_cases hic : i < c
  · simp [hic, show i < 12 by omega]
  · simp [hic]
theorem billsAtM {S : zS} {c : Nat} (hc : c ≤ 12) (e : S.1 20 96 = nI c) (s : Int32) : f_X12_billsAt s S = some (mkS (fun b => decide (S.1 20 (8 * b + 2) = s)) c, S) := by
  have h := loopN (f := fun n acc b S => f_X12_billsAt_L4 n s acc b S) (S := S) (c := c) (g := stF (fun b => decide (S.1 20 (8 * b + 2) = s))) (fun n acc b hb => by
    have h1 : nI b < nI c := nI_lt hb (by omega)
    show f_X12_billsAt_L4 (n + 1) s acc (nI b) S = _
    rw [f_X12_billsAt_L4, billsM e, zb_def, if_pos h1, of2 (by omega), zb_def]
    have k : ∀ q : Bool, f_X12_billsAt_B28 (f_X12_billsAt_L4 n) s (nI b) (if q then 1 else 0) acc S = f_X12_billsAt_L4 n s (if q then acc ||| (1 <<< (nI b &&& 31)) else acc) (nI (b + 1)) S := fun q => by
      unfold f_X12_billsAt_B28
      rw [truthM, zb_def, zlet_def, zlet_def, nI_1, shl01 _ _ (by omega)]
    by_cases hn : S.1 20 (8 * b + 2) = s
    · rw [if_pos hn]
      refine (k true).trans ?_
      simp [stF, hn]
    · rw [if_neg hn]
      refine (k false).trans ?_
      simp [stF, hn]) (fun n acc => by
    show f_X12_billsAt_L4 (n + 1) s acc (nI c) S = _
    rw [f_X12_billsAt_L4, billsM e, zb_def, if_neg (nI_nlt (Nat.le_refl c) (by omega))]) c 0 zN 0 (by omega) (by show c < 10000; omega)
  exact h
theorem mkS_and {p q : Nat → Bool} {c : Nat} (hc : c ≤ 32) : mkS p c &&& mkS q c = mkS (fun b => p b && q b) c := mkS_of hc fun i hi => by
  rw [b_and, bt_mkS p hi c hc, bt_mkS q hi c hc]
  cases decide (i < c) <;> simp
theorem mkS_id {x : Int32} {c : Nat} (hc : c ≤ 32) (h : ∀ i, i < 32 → c ≤ i → bt x i = false) : mkS (bt x) c = x := (mkS_of hc fun i hi => by
  by_cases hic : i < c
  · simp [hic]
  · simp [hic, h i hi (by omega)]).symm
/-- what stands lies below c -/
theorem std_hi (lv : Nat → Bool) (am rp : Nat → Int32) {c : Nat} (hc : c ≤ 32) : ∀ i, i < 32 → c ≤ i → bt (stdS lv am rp c) i = false := by
  intro i hi hci
  unfold stdS
  have : ∀ m, m ≤ c → bt (foldN (fun acc b => if bt (mkS lv c &&& (repS lv rp c ^^^ (-1))) b = true ∧ (am b < 0 ∨ (acc >>> (am b &&& 31)) &&& 1 = 1) then acc ||| (1 <<< (nI b &&& 31)) else acc) 0 m 0) i = false := by
    intro m
    induction m with
    | zero => intro _; exact b_0 i
    | succ m ih =>
      intro hm
      rw [foldN_snoc, Nat.zero_add]
      generalize foldN (fun acc b => if bt (mkS lv c &&& (repS lv rp c ^^^ (-1))) b = true ∧ (am b < 0 ∨ (acc >>> (am b &&& 31)) &&& 1 = 1) then acc ||| (1 <<< (nI b &&& 31)) else acc) 0 m 0 = z at ih ⊢
      have ih := ih (by omega)
      show bt (if _ then _ else _) i = false
      split
      · rw [b_or, ih, b_bit (by omega) hi]
        simp; omega
      · exact ih
  exact this c (Nat.le_refl c)
theorem stdN_hi (N : Nat → Int32) {c : Nat} (hc : c ≤ 32) : ∀ i, i < 32 → c ≤ i → bt (stdN N c) i = false := std_hi _ _ _ hc
theorem stdN_bits (N : Nat → Int32) {c : Nat} (hc : c ≤ 32) : ∀ i, i < 32 → bt (stdN N c) i = (decide (i < c) && bt (stdN N c) i) := fun i hi => by
  by_cases hic : i < c
  · simp [hic]
  · simp [hic, stdN_hi N hc i hi (by omega)]
theorem op_stake : zSt2 zRel f_X11_stake f_X12_stake := by
  intro a w Sx Sm h
  obtain ⟨-, -, -, -, -, -, -, st, pl, tp, pa, hH, hA, hI⟩ := id h
  obtain ⟨c, hN, hB, e0, e1, e2, hl⟩ := ac_now hA
  obtain ⟨-, hst, -, -, -, p1, p2, -⟩ := hH
  have hc := hN.1
  have h' := zld_rel h
  show zSame _ _
  unfold f_X11_stake f_X12_stake
  rw [isStakeX p1, isStakeM hst p2, zb_def, zb_def, z01, z01]
  by_cases ca : ¬ a < 0 ∧ a < nI st
  · rw [if_pos ca, if_pos ca, loadM, zu_def, billsAtM hc ((zld_at Sm (by omega)).trans hN.2.1), zb_def, livNowM hc hN.2.1, zb_def, zb_def, stdNowM hc hN.2.1, zb_def]
    rw [(stdNowX hN hB e0 (fun b hb => (hl b hb).1)).1, (stdNowX hN hB e0 (fun b hb => (hl b hb).1)).2, zb_def, zb_def]
    have hb : mkS (fun b => decide ((zld Sm 0).1 20 (8 * b + 2) = a)) c = mkS (fun b => decide (Sm.1 19 (8 * b + 2) = a)) c := mkS_congr fun b hb => by rw [zld_at Sm (show 8 * b + 2 < 99 by omega)]
    rw [hb]
    by_cases w0 : w = 0
    · subst w0
      rw [if_neg (by decide), if_neg (by decide), if_pos rfl, if_pos rfl]
      unfold f_X11_stake_B45
      rw [onStX hc (fun b hb => (hB b hb).1) (fun i hi => bt_mkS (liv (Sm.1 19)) hi c (by omega)), zb_def, mkS_and (by omega)]
      exact zsame' h' (mkS_congr fun b hb => Bool.and_comm _ _)
    · by_cases w1 : w = 1
      · subst w1
        rw [if_neg (by decide), if_neg (by decide), if_neg w0, if_neg w0, if_pos rfl]
        unfold f_X11_stake_B45
        rw [onStX hc (fun b hb => (hB b hb).1) (stdN_bits (Sm.1 19) (by omega)), zb_def]
        have hs : stdN (Sm.1 19) c = mkS (bt (stdN (Sm.1 19) c)) c := (mkS_id (by omega) (stdN_hi _ (by omega))).symm
        have : mkS (fun b => decide (Sm.1 19 (8 * b + 2) = a)) c &&& stdN (Sm.1 19) c = mkS (fun b => bt (stdN (Sm.1 19) c) b && decide (Sm.1 19 (8 * b + 2) = a)) c := by
          conv => lhs; rw [hs]
          rw [mkS_and (by omega)]
          exact mkS_congr fun b hb => Bool.and_comm _ _
        exact zsame' h' this.symm
      · rw [if_neg w0, if_neg w0, if_neg w1]
        by_cases n0 : w < 0
        · rw [if_pos n0]
          exact zsame h'
        · rw [if_neg n0]
          have : (1 : Int32) < w := by
            obtain ⟨m, hm, rfl⟩ := nI_of n0
            refine nI_lt (a := 1) ?_ hm
            rcases m with _ | _ | m
            · exact absurd rfl w0
            · exact absurd rfl w1
            · omega
          rw [if_pos this]
          exact zsame h'
  · rw [if_neg ca, if_neg ca]
    exact zsame h
