/-! ===== places ===== -/
theorem foldN_rel {α α' : Type} {g : α → Nat → α} {g' : α' → Nat → α'} (R : Nat → α → α' → Prop) : ∀ (m b : Nat) (a : α) (a' : α'), (∀ i a a', b ≤ i → i < b + m → R i a a' → R (i + 1) (g a i) (g' a' i)) → R b a a' → R (b + m) (foldN g b m a) (foldN g' b m a')
  | 0, _, _, _, _, h => h
  | m + 1, b, a, a', hs, h => by
    have := foldN_rel R m (b + 1) (g a b) (g' a' b) (fun i a a' h1 h2 => hs i a a' (by omega) (by omega)) (hs b a a' (Nat.le_refl _) (by omega) h)
    rw [show b + 1 + m = b + (m + 1) by omega] at this
    exact this
/-- a state with one bill more -/
def putA (N : Nat → Int32) (c : Nat) (lf s p t y am rp : Int32) : Nat → Int32 := upd (upd (upd (upd (upd (upd (upd (upd (upd N (8 * c) lf) (8 * c + 1) 0) (8 * c + 2) s) (8 * c + 3) p) (8 * c + 4) t) (8 * c + 5) y) (8 * c + 6) am) (8 * c + 7) rp) 96 (nI (c + 1))
theorem putA_lt {N : Nat → Int32} {c : Nat} {lf s p t y am rp : Int32} {i : Nat} (h : i < 8 * c) (h2 : i < 96) : putA N c lf s p t y am rp i = N i := by
  unfold putA
  rw [upd_ne _ _ _ _ (by omega), upd_ne _ _ _ _ (by omega), upd_ne _ _ _ _ (by omega), upd_ne _ _ _ _ (by omega), upd_ne _ _ _ _ (by omega), upd_ne _ _ _ _ (by omega), upd_ne _ _ _ _ (by omega), upd_ne _ _ _ _ (by omega), upd_ne _ _ _ _ (by omega)]
theorem putA_gt {N : Nat → Int32} {c : Nat} {lf s p t y am rp : Int32} {i : Nat} (hc : c < 12) (h : 96 < i) : putA N c lf s p t y am rp i = N i := by
  unfold putA
  rw [upd_ne _ _ _ _ (by omega), upd_ne _ _ _ _ (by omega), upd_ne _ _ _ _ (by omega), upd_ne _ _ _ _ (by omega), upd_ne _ _ _ _ (by omega), upd_ne _ _ _ _ (by omega), upd_ne _ _ _ _ (by omega), upd_ne _ _ _ _ (by omega), upd_ne _ _ _ _ (by omega)]
theorem putA_96 {N : Nat → Int32} {c : Nat} {lf s p t y am rp : Int32} : putA N c lf s p t y am rp 96 = nI (c + 1) := upd_at _ _ _
theorem putA_at {N : Nat → Int32} {c : Nat} {lf s p t y am rp : Int32} (hc : c < 12) : putA N c lf s p t y am rp (8 * c) = lf ∧ putA N c lf s p t y am rp (8 * c + 1) = 0 ∧ putA N c lf s p t y am rp (8 * c + 2) = s ∧ putA N c lf s p t y am rp (8 * c + 3) = p ∧ putA N c lf s p t y am rp (8 * c + 4) = t ∧ putA N c lf s p t y am rp (8 * c + 5) = y ∧ putA N c lf s p t y am rp (8 * c + 6) = am ∧ putA N c lf s p t y am rp (8 * c + 7) = rp := by
  unfold putA
  refine ⟨?_, ?_, ?_, ?_, ?_, ?_, ?_, ?_⟩
  · rw [upd_ne _ _ _ _ (by omega), upd_ne _ _ _ _ (by omega), upd_ne _ _ _ _ (by omega), upd_ne _ _ _ _ (by omega), upd_ne _ _ _ _ (by omega), upd_ne _ _ _ _ (by omega), upd_ne _ _ _ _ (by omega), upd_ne _ _ _ _ (by omega), upd_at]
  · rw [upd_ne _ _ _ _ (by omega), upd_ne _ _ _ _ (by omega), upd_ne _ _ _ _ (by omega), upd_ne _ _ _ _ (by omega), upd_ne _ _ _ _ (by omega), upd_ne _ _ _ _ (by omega), upd_ne _ _ _ _ (by omega), upd_at]
  · rw [upd_ne _ _ _ _ (by omega), upd_ne _ _ _ _ (by omega), upd_ne _ _ _ _ (by omega), upd_ne _ _ _ _ (by omega), upd_ne _ _ _ _ (by omega), upd_ne _ _ _ _ (by omega), upd_at]
  · rw [upd_ne _ _ _ _ (by omega), upd_ne _ _ _ _ (by omega), upd_ne _ _ _ _ (by omega), upd_ne _ _ _ _ (by omega), upd_ne _ _ _ _ (by omega), upd_at]
  · rw [upd_ne _ _ _ _ (by omega), upd_ne _ _ _ _ (by omega), upd_ne _ _ _ _ (by omega), upd_ne _ _ _ _ (by omega), upd_at]
  · rw [upd_ne _ _ _ _ (by omega), upd_ne _ _ _ _ (by omega), upd_ne _ _ _ _ (by omega), upd_at]
  · rw [upd_ne _ _ _ _ (by omega), upd_ne _ _ _ _ (by omega), upd_at]
  · rw [upd_ne _ _ _ _ (by omega), upd_at]
theorem putM {S : zS} {c p : Nat} (hc : c < 12) (e : S.1 20 96 = nI c) (hp : p < 4) (s t y am rp : Int32) : ∃ T, f_X12_put s (nI p) t y am rp S = some T ∧ mKeep S T ∧ T.1 20 = putA (S.1 20) c (S.1 11 p) s (nI p) t y am rp := by
  unfold f_X12_put
  have e8 : (8 : Int32) * nI c = nI (8 * c) := by rw [show (8 : Int32) = nI 8 from rfl, pk_mul]
  have ek : ∀ k : Nat, nI (8 * c) + nI k = nI (8 * c + k) := fun k => nI_add _ _
  have hz4 : zin (nI p) 4 = True := zin_T hp (by omega)
  have hz : ∀ k : Nat, k < 8 → zin (nI (8 * c + k)) 99 = True := fun k hk => zin_T (by omega) (by omega)
  have hcl : ∀ k : Nat, k < 8 → (nI (8 * c + k)).toNatClampNeg = 8 * c + k := fun k hk => nI_clamp (by omega)
  rw [billsM e, zb_def, zlet_def, e8, if_pos (of_eq_true hz4), show nI (8 * c) + 0 = nI (8 * c + 0) from ek 0, show nI (8 * c) + 1 = nI (8 * c + 1) from ek 1, show nI (8 * c) + 2 = nI (8 * c + 2) from ek 2, show nI (8 * c) + 3 = nI (8 * c + 3) from ek 3, show nI (8 * c) + 4 = nI (8 * c + 4) from ek 4, show nI (8 * c) + 5 = nI (8 * c + 5) from ek 5, show nI (8 * c) + 6 = nI (8 * c + 6) from ek 6, show nI (8 * c) + 7 = nI (8 * c + 7) from ek 7]
  simp only [hz 0 (by omega), hz 1 (by omega), hz 2 (by omega), hz 3 (by omega), hz 4 (by omega), hz 5 (by omega), hz 6 (by omega), hz 7 (by omega), hcl 0 (by omega), hcl 1 (by omega), hcl 2 (by omega), hcl 3 (by omega), hcl 4 (by omega), hcl 5 (by omega), hcl 6 (by omega), hcl 7 (by omega), ↓reduceIte, zlet_def, nI_clamp (show p < 2 ^ 31 by omega), show Int32.toNatClampNeg 96 = 96 from rfl]
  refine ⟨_, rfl, ?_, ?_⟩
  · repeat (refine mKeep_trans ?_ (mKeep_put (by decide)))
    exact mKeep_rfl S
  · rw [zput1_eq]
    unfold putA
    have hA : ∀ A : Nat → Int32, A = upd (upd (upd (upd (upd (upd (upd (upd (S.1 20) (8 * c + 0) (S.1 11 p)) (8 * c + 1) 0) (8 * c + 2) s) (8 * c + 3) (nI p)) (8 * c + 4) t) (8 * c + 5) y) (8 * c + 6) am) (8 * c + 7) rp → upd A 96 (A 96 + 1) = upd (upd (upd (upd (upd (upd (upd (upd (upd (S.1 20) (8 * c) (S.1 11 p)) (8 * c + 1) 0) (8 * c + 2) s) (8 * c + 3) (nI p)) (8 * c + 4) t) (8 * c + 5) y) (8 * c + 6) am) (8 * c + 7) rp) 96 (nI (c + 1)) := by
      intro A hA
      have h96 : A 96 = nI c := by
        rw [hA, upd_ne _ _ _ _ (by omega), upd_ne _ _ _ _ (by omega), upd_ne _ _ _ _ (by omega), upd_ne _ _ _ _ (by omega), upd_ne _ _ _ _ (by omega), upd_ne _ _ _ _ (by omega), upd_ne _ _ _ _ (by omega), upd_ne _ _ _ _ (by omega)]
        exact e
      rw [h96, nI_1, hA]
      rfl
    exact hA _ rfl
/-! what stands with one bill more -/
theorem rep_bits {lv : Nat → Bool} {rp : Nat → Int32} {c : Nat} (hc : c ≤ 12) (h : ∀ b, b < c → isI (-1) (b - 1) (rp b)) : ∀ i, i < 32 → c ≤ i → bt (repS lv rp c) i = false := by
  intro i hi hci
  have : ∀ m, m ≤ c → bt (foldN (fun acc b => if lv b = true ∧ ¬ rp b < 0 then acc ||| (1 <<< (rp b &&& 31)) else acc) 0 m 0) i = false := by
    intro m
    induction m with
    | zero => intro _; exact b_0 i
    | succ m ih =>
      intro hm
      rw [foldN_snoc, Nat.zero_add]
      have ih := ih (by omega)
      generalize foldN (fun acc b => if lv b = true ∧ ¬ rp b < 0 then acc ||| (1 <<< (rp b &&& 31)) else acc) 0 m 0 = z at ih ⊢
      show bt (if lv m = true ∧ ¬ rp m < 0 then z ||| (1 <<< (rp m &&& 31)) else z) i = false
      by_cases hr : lv m = true ∧ ¬ rp m < 0
      · rw [if_pos hr, b_or, ih]
        obtain ⟨j, hj, ej⟩ := nI_of hr.2
        have hjm : j < m := by
          obtain ⟨-, h2⟩ := isI_toInt (h m (by omega)) (by omega) (by omega)
          rw [ej, nI_toInt hj] at h2
          omega
        rw [ej, b_bit (by omega) hi]
        simp; omega
      · rw [if_neg hr]; exact ih
  exact this c (Nat.le_refl c)
theorem std_put {lv lv' : Nat → Bool} {am am' rp rp' : Nat → Int32} {c : Nat} (hc : c < 12) (h : ∀ b, b < c → isI (-1) (b - 1) (rp b)) (hl : ∀ b, b < c → lv' b = lv b) (ha : ∀ b, b < c → am' b = am b) (hr : ∀ b, b < c → rp' b = rp b) (l1 : lv' c = true) (l2 : am' c < 0) (l3 : rp' c < 0) : stdS lv' am' rp' (c + 1) = stdS lv am rp c ||| (1 <<< (nI c &&& 31)) := by
  have e1 : repS lv' rp' (c + 1) = repS lv rp c := by
    unfold repS
    rw [foldN_snoc, Nat.zero_add, if_neg (fun z => z.2 l3)]
    exact foldN_congr c 0 0 fun a i _ hi => by rw [hl i (by omega), hr i (by omega)]
  have e2 : ∀ i, i < 32 → bt (mkS lv' (c + 1)) i = (decide (i < c) && lv i || decide (i = c)) := fun i hi => by
    rw [bt_mkS _ hi _ (by omega)]
    by_cases h1 : i < c
    · simp [h1, show i < c + 1 by omega, hl i h1, show ¬ i = c by omega]
    · by_cases h2 : i = c
      · subst h2; simp [l1]
      · simp [h1, h2, show ¬ i < c + 1 by omega]
  unfold stdS
  rw [foldN_snoc, Nat.zero_add]
  have e3 : foldN (fun acc b => if bt (mkS lv' (c + 1) &&& (repS lv' rp' (c + 1) ^^^ (-1))) b = true ∧ (am' b < 0 ∨ (acc >>> (am' b &&& 31)) &&& 1 = 1) then acc ||| (1 <<< (nI b &&& 31)) else acc) 0 c 0 = foldN (fun acc b => if bt (mkS lv c &&& (repS lv rp c ^^^ (-1))) b = true ∧ (am b < 0 ∨ (acc >>> (am b &&& 31)) &&& 1 = 1) then acc ||| (1 <<< (nI b &&& 31)) else acc) 0 c 0 := foldN_congr c 0 0 fun a i _ hi => by
    rw [e1, b_and, e2 i (by omega), b_and, bt_mkS _ (show i < 32 by omega) c (by omega), ha i (by omega)]
    simp [show i < c by omega, show ¬ i = c by omega]
  rw [e3]
  refine if_pos ⟨?_, Or.inl l2⟩
  rw [e1, b_and, e2 c (by omega), b_xor, b_m1 c (by omega), rep_bits (by omega) h c (by omega) (Nat.le_refl _)]
  simp
/-- the reading with a new bill in view -/
def nwF (x : Int32) (sk tp am sy : Nat → Int32) (t s y : Int32) (a : Int32 × Int32) (b : Nat) : Int32 × Int32 := if bt x b = true ∧ tp b = t then (if a.2 = 0 ∧ s < sk b then (if am b < 0 then sy b else y + sy b, 1) else (if am b < 0 then sy b else a.1 + sy b, a.2)) else a
theorem newX {S : zS} {x : Int32} {s : Nat} (hs : s < 12) (hO : ∀ b, b < 12 → ∃ s : Nat, s < 12 ∧ S.1 14 b = nI s) (ho : (∀ i, i < 12 → S.1 20 i = nI ((ordF (S.1 14)).getD i 0)) ∨ x = 0) (t y : Int32) : f_X1_lawWithNew_13 t x (nI s) y S = some (if (rd (S.1 14) (nwF x (S.1 14) (S.1 16) (S.1 18) (S.1 17) t (nI s) y) (0, 0)).2 = 0 then y else (rd (S.1 14) (nwF x (S.1 14) (S.1 16) (S.1 18) (S.1 17) t (nI s) y) (0, 0)).1, S) := by
  unfold f_X1_lawWithNew_13
  rw [if_neg (nI_not_neg (by omega))]
  rcases ho with ho | ho
  · have hh := loopP (f := fun n (a : Int32 × Int32) i => f_X1_lawWithNew_13_L17 n t x (nI s) y a.1 a.2 (nI i) S) (g := fun a i => nwF x (S.1 14) (S.1 16) (S.1 18) (S.1 17) t (nI s) y a ((ordF (S.1 14)).getD i 0)) (out := fun a => some (if a.2 = 0 then y else a.1, S)) (c := 12) (fun n a i hi => by
      have h12 : nI i < 12 := nI_lt (b := 12) hi (by omega)
      have hz : zin (nI i) 12 = True := zin_T hi (by omega)
      obtain ⟨acc, fl⟩ := a
      dsimp only
      conv => lhs; rw [f_X1_lawWithNew_13_L17]
      simp only [h12, hz, ↓reduceIte, zlet_def, nI_1, nI_clamp (show i < 2 ^ 31 by omega), ho i hi]
      have hb := ordF_lt (S.1 14) i
      generalize (ordF (S.1 14)).getD i 0 = b at hb ⊢
      have hb0 : ¬ nI b < 0 := nI_not_neg (by omega)
      have hb12 : nI b < 12 := nI_lt (b := 12) hb (by omega)
      have hzb : zin (nI b) 12 = True := zin_T hb (by omega)
      simp only [hb0, hb12, hzb, ↓reduceIte, b_ask0 x (show b < 31 by omega), nI_clamp (show b < 2 ^ 31 by omega), f_X1_lawWithNew_13_B91, zlet_def, nI_1, nwF]
      by_cases hx : bt x b = true
      · by_cases ht : S.1 16 b = t
        · by_cases hf : fl = 0
          · by_cases hk : nI s < S.1 14 b
            · by_cases ha : S.1 18 b < 0
              · simp [hx, ht, hf, hk, ha]
              · simp [hx, ht, hf, hk, ha]
            · by_cases ha : S.1 18 b < 0
              · simp [hx, ht, hf, hk, ha]
              · simp [hx, ht, hf, hk, ha]
          · by_cases ha : S.1 18 b < 0
            · simp [hx, ht, hf, ha]
            · simp [hx, ht, hf, ha]
        · simp [hx, ht]
      · simp [hx]) (fun n a => by
      show f_X1_lawWithNew_13_L17 (n + 1) t x (nI s) y a.1 a.2 (nI 12) S = _
      rw [f_X1_lawWithNew_13_L17, if_neg (by decide)]
      by_cases hf : a.2 = 0
      · rw [if_pos hf, if_pos hf]
      · rw [if_neg hf, if_neg hf]) 12 0 zN (0, 0) rfl (by decide)
    rw [ord_fold hO] at hh
    exact hh
  · subst ho
    have hh := loopP (f := fun n (a : Int32 × Int32) i => f_X1_lawWithNew_13_L17 n t 0 (nI s) y a.1 a.2 (nI i) S) (g := fun a i => a) (out := fun a => some (if a.2 = 0 then y else a.1, S)) (c := 12) (fun n a i hi => by
      have h12 : nI i < 12 := nI_lt (b := 12) hi (by omega)
      have hz : zin (nI i) 12 = True := zin_T hi (by omega)
      obtain ⟨acc, fl⟩ := a
      dsimp only
      conv => lhs; rw [f_X1_lawWithNew_13_L17]
      simp only [h12, hz, ↓reduceIte, zlet_def, nI_1, nI_clamp (show i < 2 ^ 31 by omega), zsh0, ite_self]) (fun n a => by
      show f_X1_lawWithNew_13_L17 (n + 1) t 0 (nI s) y a.1 a.2 (nI 12) S = _
      rw [f_X1_lawWithNew_13_L17, if_neg (by decide)]
      by_cases hf : a.2 = 0
      · rw [if_pos hf, if_pos hf]
      · rw [if_neg hf, if_neg hf]) 12 0 zN (0, 0) rfl (by decide)
    rw [foldN_id 12 0 (0, 0) (fun _ _ _ _ => rfl)] at hh
    rw [rd_id (G := nwF 0 (S.1 14) (S.1 16) (S.1 18) (S.1 17) t (nI s) y) (fun acc b _ => by unfold nwF; rw [b_0]; simp)]
    exact hh
/-- both readings of a new bill at stake s agree -/
theorem new_eq {X14 X15 X16 X17 X18 X19 N : Nat → Int32} {st pl tp c s : Nat} (hst : st ≤ 12) (hc : c < 12) (hN : okN st pl tp c N) (hB : rB c N X14 X15 X16 X17 X18 X19) (hs : s < st) (lf p t y : Int32) (hlf : 0 < lf) : (if (rd X14 (nwF (stdN N c) X14 X16 X18 X17 t (nI s) y) (0, 0)).2 = 0 then y else (rd X14 (nwF (stdN N c) X14 X16 X18 X17 t (nI s) y) (0, 0)).1) = lwN (putA N c lf (nI s) p t y (-1) (-1)) st (c + 1) (stdN (putA N c lf (nI s) p t y (-1) (-1)) (c + 1)) t := by
  obtain ⟨q0, q1, q2, q3, q4, q5, q6, q7⟩ := putA_at (N := N) (lf := lf) (s := nI s) (p := p) (t := t) (y := y) (am := -1) (rp := -1) hc
  have hlt : ∀ i, i < 8 * c → putA N c lf (nI s) p t y (-1) (-1) i = N i := fun i hi => putA_lt hi (by omega)
  have hstd : stdN (putA N c lf (nI s) p t y (-1) (-1)) (c + 1) = stdN N c ||| (1 <<< (nI c &&& 31)) := by
    refine std_put hc (fun b hb => (hN.2.2.2.2 b hb).2.2.2.2.2.2) (fun b hb => ?_) (fun b hb => hlt _ (by omega)) (fun b hb => hlt _ (by omega)) ?_ ?_ ?_
    · unfold liv; rw [hlt _ (by omega)]
    · unfold liv; rw [q0]; simpa using hlf
    · show putA N c lf (nI s) p t y (-1) (-1) (8 * c + 6) < 0; rw [q6]; decide
    · show putA N c lf (nI s) p t y (-1) (-1) (8 * c + 7) < 0; rw [q7]; decide
  rw [hstd]
  generalize hA : putA N c lf (nI s) p t y (-1) (-1) = A at *
  have hhi := stdN_hi N (c := c) (by omega)
  generalize stdN N c = x at hhi ⊢
  rw [rd_eq (N := N) hst (by omega) (fun b hb => (hB b hb).1) (fun b hb => (hN.2.2.2.2 b hb).2.1) (fun acc b h1 h2 => by unfold nwF; rw [hhi b (by omega) h1]; simp)]
  unfold lwN rdN
  have hx : ∀ b, b < c → bt (x ||| (1 <<< (nI c &&& 31))) b = bt x b := fun b hb => by
    rw [b_or, b_bit (by omega) (by omega)]
    simp; omega
  have hxc : bt (x ||| (1 <<< (nI c &&& 31))) c = true := by
    rw [b_or, b_bit (by omega) (by omega)]
    simp
  have key := foldN_rel (g := fun acc s' => foldN (fun acc b => if N (8 * b + 2) = nI s' then nwF x X14 X16 X18 X17 t (nI s) y acc b else acc) 0 c acc) (g' := fun acc s' => foldN (fun acc b => if A (8 * b + 2) = nI s' then lwF (x ||| (1 <<< (nI c &&& 31))) (fun b => A (8 * b + 4)) (fun b => A (8 * b + 6)) (fun b => A (8 * b + 5)) t acc b else acc) 0 (c + 1) acc) (fun i a m => (i ≤ s → a.2 = 0) ∧ (s < i → a.2 = 0 ∧ m = y ∨ a.2 = 1 ∧ m = a.1)) st 0 (0, 0) 0 (fun i a m _ hi hR => by
    have hin := foldN_rel (g := fun acc b => if N (8 * b + 2) = nI i then nwF x X14 X16 X18 X17 t (nI s) y acc b else acc) (g' := fun acc b => if A (8 * b + 2) = nI i then lwF (x ||| (1 <<< (nI c &&& 31))) (fun b => A (8 * b + 4)) (fun b => A (8 * b + 6)) (fun b => A (8 * b + 5)) t acc b else acc) (fun _ a m => (i ≤ s → a.2 = 0) ∧ (s < i → a.2 = 0 ∧ m = y ∨ a.2 = 1 ∧ m = a.1)) c 0 a m (fun b a m _ hb hR => by
      obtain ⟨acc, fl⟩ := a
      obtain ⟨r1, r2⟩ := hR
      dsimp only at r1 r2 ⊢
      obtain ⟨b1, b2, b3, b4, b5, b6⟩ := hB b (by omega)
      have z2 := hlt (8 * b + 2) (by omega)
      have z4 := hlt (8 * b + 4) (by omega)
      have z5 := hlt (8 * b + 5) (by omega)
      have z6 := hlt (8 * b + 6) (by omega)
      rw [z2]
      by_cases hsk : N (8 * b + 2) = nI i
      · rw [if_pos hsk, if_pos hsk]
        simp only [nwF, lwF, hx b (by omega), z4, z5, z6, b1, b3, b4, b5]
        by_cases hm : bt x b = true ∧ N (8 * b + 4) = t
        · rw [if_pos hm, if_pos hm, hsk]
          by_cases his : i ≤ s
          · have hf := r1 his
            have hns : ¬ nI s < nI i := nI_nlt his (by omega)
            rw [if_neg (fun z => hns z.2)]
            exact ⟨fun _ => hf, fun z => absurd z (by omega)⟩
          · have hss : nI s < nI i := nI_lt (by omega) (by omega)
            rcases r2 (by omega) with ⟨k1, k2⟩ | ⟨k1, k2⟩
            · rw [if_pos ⟨k1, hss⟩, k2]
              exact ⟨fun z => absurd z his, fun _ => Or.inr ⟨rfl, rfl⟩⟩
            · rw [if_neg (fun z => by rw [k1] at z; exact absurd z.1 (by decide)), k2]
              exact ⟨fun z => absurd z his, fun _ => Or.inr ⟨k1, rfl⟩⟩
        · rw [if_neg hm, if_neg hm]
          exact ⟨r1, r2⟩
      · rw [if_neg hsk, if_neg hsk]
        exact ⟨r1, r2⟩) hR
    rw [foldN_snoc (m := c), Nat.zero_add]
    obtain ⟨r1, r2⟩ := hin
    generalize foldN (fun acc b => if N (8 * b + 2) = nI i then nwF x X14 X16 X18 X17 t (nI s) y acc b else acc) 0 c a = a' at r1 r2 ⊢
    generalize foldN (fun acc b => if A (8 * b + 2) = nI i then lwF (x ||| (1 <<< (nI c &&& 31))) (fun b => A (8 * b + 4)) (fun b => A (8 * b + 6)) (fun b => A (8 * b + 5)) t acc b else acc) 0 c m = m' at r1 r2 ⊢
    rw [q2]
    by_cases his : i = s
    · subst his
      rw [if_pos rfl]
      have : lwF (x ||| (1 <<< (nI c &&& 31))) (fun b => A (8 * b + 4)) (fun b => A (8 * b + 6)) (fun b => A (8 * b + 5)) t m' c = y := by
        refine (lwF_set hxc q4).trans ?_
        rw [q6, q5, if_pos (by decide)]
      rw [this]
      exact ⟨fun z => absurd z (by omega), fun _ => Or.inl ⟨r1 (Nat.le_refl _), rfl⟩⟩
    · rw [if_neg (fun z => his ((nI_eq (by omega) (by omega)).mp z).symm)]
      exact ⟨fun z => r1 (by omega), fun z => r2 (by omega)⟩) ⟨fun _ => rfl, fun z => absurd z (by omega)⟩
  rw [Nat.zero_add] at key
  rcases key.2 hs with ⟨k1, k2⟩ | ⟨k1, k2⟩
  · rw [if_pos k1, k2]
  · rw [if_neg (by rw [k1]; decide), k2]
theorem sayX (x : Int32) (S : zS) : f_X11_isSaying x S = some (if x < -9 then 0 else if 9 < x then 0 else 1, S) := by
  unfold f_X11_isSaying
  by_cases c1 : x < -9
  · rw [if_pos c1, if_pos c1]
  · rw [if_neg c1, if_neg c1]
    by_cases c2 : 9 < x
    · rw [if_pos c2, if_pos c2]
    · rw [if_neg c2, if_neg c2]
theorem op_places : zSt3 zRel f_X11_places f_X12_places := by
  intro p t y Sx Sm h
  obtain ⟨-, -, -, -, -, -, hO, st, pl, tp, pa, hH, hA, hI⟩ := id h
  obtain ⟨c, hN, hB, e0, e1, e2, hl⟩ := ac_now hA
  obtain ⟨-, hst, hpl, htp, -, p1, p2, p3, p4, p5, p6, -, -, -, -, -, -, -, hP, -⟩ := hH
  have hc := hN.1
  show zSame _ _
  unfold f_X11_places f_X12_places
  rw [isPlantX hpl p3, isPlantM hpl p4, zb_def, zb_def, z01, z01, isTopicX htp p5, isTopicM htp p6, zb_def, zb_def, z01, z01, sayX, isIn_spec, zb_def, zb_def, show Int32.toNatClampNeg 96 = 96 from rfl, hN.2.1, e0]
  have h12 : nI c < 12 ↔ c < 12 := nI_ltI (b := 12) (by omega) (by omega)
  have h12' : nI c = 12 ↔ c = 12 := nI_eq (b := 12) (by omega) (by omega)
  by_cases cp : ¬ p < 0 ∧ p < nI pl
  · by_cases ct : ¬ t < 0 ∧ t < nI tp
    · rw [if_pos cp, if_pos cp, if_pos ct, if_pos ct]
      by_cases y1 : y < -9
      · rw [if_pos y1, if_pos rfl, if_pos rfl, ite_self]; exact zsame h
      · rw [if_neg y1]
        by_cases y2 : 9 < y
        · rw [if_pos y2, if_pos rfl, if_pos rfl, ite_self]; exact zsame h
        · rw [if_neg y2, if_neg (show ¬ (1 : Int32) = 0 by decide), if_neg (show ¬ (1 : Int32) = 0 by decide)]
          by_cases hcc : c = 12
          · rw [if_neg (show ¬ nI c < 12 from fun z => by have := h12.mp z; omega), if_pos (h12'.mpr hcc)]; exact zsame h
          · have hc12 : c < 12 := by omega
            rw [if_pos (h12.mpr hc12), if_neg (show ¬ nI c = 12 from fun z => hcc (h12'.mp z)), (stdNowX hN hB e0 (fun b hb => (hl b hb).1)).1, zb_def]
            obtain ⟨q, hq, rfl⟩ := nI_of cp.1
            have hqp : q < pl := (nI_ltI hq (by omega)).mp cp.2
            have hlf : 0 < Sm.1 11 q := by
              obtain ⟨h1, -⟩ := isI_toInt (hP q hqp).1 (by omega) (by omega)
              exact Int32.lt_iff_toInt_lt.mpr (by
                have e : (0 : Int32).toInt = 0 := rfl
                omega)
            have ho : (∀ i, i < 12 → Sx.1 20 i = nI ((ordF (Sx.1 14)).getD i 0)) ∨ stdN (Sm.1 19) c = 0 := by
              rcases ord_std hN hA with h | h
              · exact Or.inl h
              · right; subst h; exact stdN_0 _
            refine loopR (f := fun n (a : Int32) s => f_X11_places_L49 n t y (stdN (Sm.1 19) c) a (nI s) Sx) (f' := fun n (a : Int32 × zS) s => f_X12_places_L47 n (nI q) t y a.1 (nI s) a.2) (fun _ a a' => a = a'.1 ∧ mKeep Sm a'.2) zSame (c := st) ?_ ?_ st 0 zN zN 0 (0, Sm) (by omega) (by show st < 10000; omega) (by show st < 10000; omega) ⟨rfl, mKeep_rfl _⟩
            · rintro n n' a ⟨a', T⟩ s hs ⟨ha, hk⟩
              dsimp only at ha hk ⊢
              subst ha
              have hst1 : nI s < nI st := nI_lt hs (by omega)
              have T0 : T.1 0 = Sm.1 0 := hk.2 0 (by decide)
              have T19 : T.1 19 = Sm.1 19 := hk.2 19 (by decide)
              have T11 : T.1 11 = Sm.1 11 := hk.2 11 (by decide)
              rw [f_X11_places_L49, p1, if_pos hst1, newX (by omega) hO.1 ho, zb_def, new_eq hst hc12 hN hB hs (Sm.1 11 q) (nI q) t y hlf]
              obtain ⟨U, eU, kU, aU⟩ := putM (S := zld T 0) (c := c) (p := q) hc12 ((zld_at T (by omega)).trans (by rw [T19]; exact hN.2.1)) (by omega) (nI s) t y (-1) (-1)
              have h20 : ∀ i, i < 99 → U.1 20 i = putA (Sm.1 19) c (Sm.1 11 q) (nI s) (nI q) t y (-1) (-1) i := fun i hi => by
                rw [aU, show (zld T 0).1 11 = Sm.1 11 from T11]
                have hz := zld_at T hi
                rw [T19] at hz
                unfold putA
                by_cases i96 : i = 96
                · subst i96; rw [upd_at, upd_at]
                · rw [upd_ne _ _ _ _ i96, upd_ne _ _ _ _ i96]
                  have hu : ∀ (f g : Nat → Int32) (k : Nat) (v : Int32), f i = g i → upd f k v i = upd g k v i := fun f g k v hfg => by
                    by_cases hik : i = k
                    · subst hik; rw [upd_at, upd_at]
                    · rw [upd_ne _ _ _ _ hik, upd_ne _ _ _ _ hik, hfg]
                  exact hu _ _ _ _ (hu _ _ _ _ (hu _ _ _ _ (hu _ _ _ _ (hu _ _ _ _ (hu _ _ _ _ (hu _ _ _ _ (hu _ _ _ _ hz)))))))
              have hU42 : U.1 0 42 = nI st := by
                rw [kU.2 0 (by decide), show (zld T 0).1 0 = T.1 0 from rfl, T0]; exact p2
              have hlaw : f_X12_lawOf t U = some (lwN (putA (Sm.1 19) c (Sm.1 11 q) (nI s) (nI q) t y (-1) (-1)) st (c + 1) (stdN (putA (Sm.1 19) c (Sm.1 11 q) (nI s) (nI q) t y (-1) (-1)) (c + 1)) t, U) := by
                rw [lawM hst hU42 (by omega) ((h20 96 (by omega)).trans putA_96), lwN_congr h20 (by omega), stdN_congr h20 (by omega)]
              rw [f_X12_places_L47, T0, p2, if_pos hst1, loadM, zu_def, eU, zu_def, hlaw, zb_def]
              have k : ∀ v : Bool, f_X12_places_B87 (f_X12_places_L47 n') (nI q) t y (nI s) (if v then 1 else 0) a U = f_X12_places_L47 n' (nI q) t y (if v then a ||| (1 <<< (nI s &&& 31)) else a) (nI (s + 1)) U := fun v => by
                unfold f_X12_places_B87
                rw [truthM, zb_def, zlet_def, zlet_def, nI_1, shl01 _ _ (by omega)]
              have hkk : mKeep Sm U := mKeep_trans (mKeep_trans hk (mKeep_zld T)) kU
              generalize lwN (putA (Sm.1 19) c (Sm.1 11 q) (nI s) (nI q) t y (-1) (-1)) st (c + 1) (stdN (putA (Sm.1 19) c (Sm.1 11 q) (nI s) (nI q) t y (-1) (-1)) (c + 1)) t = r
              by_cases hr : r = y
              · rw [if_pos hr, if_pos hr]
                exact ⟨_, (_, U), by rw [zlet_def, zlet_def, nI_1], k true, rfl, hkk⟩
              · rw [if_neg hr, if_neg hr]
                exact ⟨_, (_, U), by rw [zlet_def, nI_1], k false, rfl, hkk⟩
            · rintro n n' a ⟨a', T⟩ ⟨ha, hk⟩
              dsimp only at ha hk ⊢
              subst ha
              rw [f_X11_places_L49, p1, if_neg (nI_nlt (Nat.le_refl st) (by omega)), f_X12_places_L47, hk.2 0 (by decide), p2, if_neg (nI_nlt (Nat.le_refl st) (by omega))]
              exact zsame (zRel_m hk h)
    · rw [if_pos cp, if_pos cp, if_neg ct, if_neg ct, ite_self]; exact zsame h
  · rw [if_neg cp, if_neg cp, ite_self]; exact zsame h
