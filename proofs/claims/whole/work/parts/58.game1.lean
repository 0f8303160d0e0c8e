/-! ===== game: the pure picks; the class ===== -/
/-- a state in which only those of lv live -/
def stA (N : Nat → Int32) (lv : Nat → Bool) : Nat → Int32 := fun i => if i % 8 = 0 ∧ i < 96 ∧ lv (i / 8) = false then 0 else N i
theorem stA_8 (N : Nat → Int32) (lv : Nat → Bool) {b : Nat} (hb : b < 12) : stA N lv (8 * b) = if lv b = false then 0 else N (8 * b) := by
  unfold stA
  rw [show 8 * b / 8 = b by omega]
  by_cases h : lv b = false
  · rw [if_pos ⟨by omega, by omega, h⟩, if_pos h]
  · rw [if_neg (fun z => h z.2.2), if_neg h]
theorem stA_o (N : Nat → Int32) (lv : Nat → Bool) {i : Nat} (hi : i % 8 ≠ 0 ∨ 96 ≤ i) : stA N lv i = N i := if_neg (fun z => by omega)
theorem liv_stA (N : Nat → Int32) (lv : Nat → Bool) {b : Nat} (hb : b < 12) : liv (stA N lv) b = (liv N b && lv b) := by
  unfold liv
  rw [stA_8 N lv hb]
  cases h : lv b with
  | true => simp
  | false => simp
/-- take bill i - 1 away, none if i is 0 -/
def rm (lv : Nat → Bool) (i : Nat) : Nat → Bool := fun b => lv b && !decide (i = b + 1)
theorem rm_0 (lv : Nat → Bool) : rm lv 0 = lv := by
  funext b
  simp [rm]
def sel (ok : Nat → Bool) (g : Nat → Int32) (m : Nat) : Nat := foldN (fun k b => if ok b = true ∧ g k < g (b + 1) then b + 1 else k) 0 m 0
theorem sel_le (ok : Nat → Bool) (g : Nat → Int32) : ∀ m, sel ok g m ≤ m
  | 0 => Nat.le_refl _
  | m + 1 => by
    unfold sel
    rw [foldN_snoc, Nat.zero_add]
    have := sel_le ok g m
    unfold sel at this
    split <;> omega
theorem sel_s (ok : Nat → Bool) (g : Nat → Int32) (m : Nat) : sel ok g (m + 1) = if ok m = true ∧ g (sel ok g m) < g (m + 1) then m + 1 else sel ok g m := by
  unfold sel
  rw [foldN_snoc, Nat.zero_add]
theorem sel_more {ok : Nat → Bool} {g : Nat → Int32} {m : Nat} : ∀ k, (∀ b, m ≤ b → b < m + k → ok b = false) → sel ok g (m + k) = sel ok g m
  | 0, _ => rfl
  | k + 1, h => by
    rw [show m + (k + 1) = (m + k) + 1 by omega, sel_s, if_neg (fun z => by rw [h (m + k) (by omega) (by omega)] at z; exact absurd z.1 (by decide))]
    exact sel_more k (fun b h1 h2 => h b h1 (by omega))
theorem sel_ok {ok : Nat → Bool} {g : Nat → Int32} : ∀ m, sel ok g m = 0 ∨ ∃ b, b < m ∧ sel ok g m = b + 1 ∧ ok b = true
  | 0 => Or.inl rfl
  | m + 1 => by
    rw [sel_s]
    by_cases h : ok m = true ∧ g (sel ok g m) < g (m + 1)
    · rw [if_pos h]
      exact Or.inr ⟨m, by omega, rfl, h.1⟩
    · rw [if_neg h]
      rcases sel_ok (ok := ok) (g := g) m with h | ⟨b, h1, h2, h3⟩
      · exact Or.inl h
      · exact Or.inr ⟨b, by omega, h2, h3⟩
/-- what the game is played with: c bills in the state N, pa parties -/
def gJ (N : Nat → Int32) (st c tp : Nat) (by_ want : Nat → Int32) (p : Nat) (lv : Nat → Bool) : Int32 := joyN (stA N lv) st c tp by_ want p
def gT (J : Nat → (Nat → Bool) → Int32) (c pa : Nat) (lv : Nat → Bool) : Nat := if pa = 3 then sel lv (fun i => J 2 (rm lv i)) c else 0
def gE3 (J : Nat → (Nat → Bool) → Int32) (c pa : Nat) (lv : Nat → Bool) : Nat → Bool := rm lv (gT J c pa lv)
def gS2 (J : Nat → (Nat → Bool) → Int32) (c pa : Nat) (lv : Nat → Bool) : Nat := if 2 ≤ pa then sel lv (fun i => J 1 (gE3 J c pa (rm lv i))) c else 0
def gE2 (J : Nat → (Nat → Bool) → Int32) (c pa : Nat) (lv : Nat → Bool) : Nat → Bool := gE3 J c pa (rm lv (gS2 J c pa lv))
def gS1 (J : Nat → (Nat → Bool) → Int32) (c pa : Nat) (lv : Nat → Bool) : Nat := if 1 ≤ pa then sel lv (fun i => J 0 (gE2 J c pa (rm lv i))) c else 0
theorem gT_le (J : Nat → (Nat → Bool) → Int32) {c pa : Nat} (lv : Nat → Bool) : gT J c pa lv ≤ c := by
  unfold gT; split
  · exact sel_le _ _ _
  · omega
theorem gS2_le (J : Nat → (Nat → Bool) → Int32) {c pa : Nat} (lv : Nat → Bool) : gS2 J c pa lv ≤ c := by
  unfold gS2; split
  · exact sel_le _ _ _
  · omega
theorem gS1_le (J : Nat → (Nat → Bool) → Int32) {c pa : Nat} (lv : Nat → Bool) : gS1 J c pa lv ≤ c := by
  unfold gS1; split
  · exact sel_le _ _ _
  · omega
/-- three picks in one number -/
def pkI (a b d : Nat) : Int32 := nI (a + 16 * b + 256 * d)
theorem pk_or0 : ∀ d, d < 13 → ∀ b, b < 13 → ∀ a, a < 13 → pkI 0 b d ||| (nI a <<< ((nI 0 * 4) &&& 31)) = pkI a b d := by decide +kernel
theorem pk_or1 : ∀ d, d < 13 → ∀ a, a < 13 → pkI 0 0 d ||| (nI a <<< ((nI 1 * 4) &&& 31)) = pkI 0 a d := by decide +kernel
theorem pk_or2 : ∀ a, a < 13 → 0 ||| (nI a <<< ((nI 2 * 4) &&& 31)) = pkI 0 0 a := by decide +kernel
theorem pk_0 : ∀ d, d < 13 → ∀ b, b < 13 → ∀ a, a < 13 → ((pkI a b d >>> ((nI 0 * 4) &&& 31)) &&& 15) - 1 = nI a - 1 := by decide +kernel
theorem pk_1 : ∀ d, d < 13 → ∀ b, b < 13 → ∀ a, a < 13 → ((pkI a b d >>> ((nI 1 * 4) &&& 31)) &&& 15) - 1 = nI b - 1 := by decide +kernel
theorem pk_2 : ∀ d, d < 13 → ∀ b, b < 13 → ∀ a, a < 13 → ((pkI a b d >>> ((nI 2 * 4) &&& 31)) &&& 15) - 1 = nI d - 1 := by decide +kernel
def dg3 (a b d k : Nat) : Nat := if k = 0 then a else if k = 1 then b else d
theorem pickX {a b d k : Nat} (ha : a < 13) (hb : b < 13) (hd : d < 13) (hk : k < 3) (S : zS) : f_X10_pickOf_63 (pkI a b d) (nI k) S = some (sI (dg3 a b d k), S) := by
  unfold f_X10_pickOf_63
  have : k = 0 ∨ k = 1 ∨ k = 2 := by omega
  rcases this with rfl | rfl | rfl
  · rw [pk_0 d hd b hb a ha, sI_sub]; rfl
  · rw [pk_1 d hd b hb a ha, sI_sub]; rfl
  · rw [pk_2 d hd b hb a ha, sI_sub]; rfl
/-- a set of living ones, told by bits -/
def gB (N : Nat → Int32) (c : Nat) (lv : Nat → Bool) (L : Int32) : Prop := (∀ i, i < 32 → bt L i = (decide (i < c) && lv i)) ∧ ∀ b, lv b = true → liv N b = true
theorem gB_rm {N : Nat → Int32} {c b : Nat} {lv : Nat → Bool} {L : Int32} (h : gB N c lv L) (hb : b < 31) : gB N c (rm lv (b + 1)) (L &&& ((1 <<< (nI b &&& 31)) ^^^ (-1))) := by
  refine ⟨fun i hi => ?_, fun i hi => h.2 i ?_⟩
  · rw [b_and, b_xor, h.1 i hi, b_bit (by omega) hi, b_m1 i hi]
    unfold rm
    by_cases hib : i = b
    · subst hib; simp
    · have hbi : ¬ b = i := fun z => hib z.symm
      simp [hib, hbi]
  · unfold rm at hi
    simp only [Bool.and_eq_true] at hi
    exact hi.1
/-- what is needed of the hedge -/
def gC (st pl tp pa c : Nat) (Sx Sm : zS) : Prop := st ≤ 12 ∧ tp ≤ 4 ∧ pa ≤ 3 ∧ Sx.1 5 2 = nI tp ∧ Sx.1 5 3 = nI pa ∧ okN st pl tp c (Sm.1 19) ∧ rB c (Sm.1 19) (Sx.1 14) (Sx.1 15) (Sx.1 16) (Sx.1 17) (Sx.1 18) (Sx.1 19) ∧ (∀ b, b < 12 → ∃ s : Nat, s < 12 ∧ Sx.1 14 b = nI s) ∧ ((∀ i, i < 12 → Sx.1 20 i = nI ((ordF (Sx.1 14)).getD i 0)) ∨ c = 0) ∧
  ∀ p t, p < pa → t < tp → isI 0 9 (Sm.1 15 (4 * p + t)) ∧ Sx.1 8 (4 * p + t) = Sm.1 15 (4 * p + t) ∧ (Sm.1 15 (4 * p + t) ≠ 0 → isI (-9) 9 (Sm.1 14 (4 * p + t)) ∧ Sx.1 7 (4 * p + t) = Sm.1 14 (4 * p + t))
theorem stA_ok {st pl tp c : Nat} {N : Nat → Int32} {lv : Nat → Bool} (h : okN st pl tp c N) : okN st pl tp c (stA N lv) := by
  obtain ⟨h1, h2, h3, h4, h5⟩ := h
  refine ⟨h1, by rw [stA_o _ _ (by omega)]; exact h2, by rw [stA_o _ _ (by omega)]; exact h3, by rw [stA_o _ _ (by omega)]; exact h4, fun b hb => ?_⟩
  rw [stA_8 _ _ (by omega), stA_o _ _ (by omega), stA_o _ _ (by omega), stA_o _ _ (by omega), stA_o _ _ (by omega), stA_o _ _ (by omega), stA_o _ _ (by omega)]
  obtain ⟨g1, g2⟩ := h5 b hb
  refine ⟨?_, g2⟩
  split
  · exact ⟨0, by omega, by omega, rfl⟩
  · exact g1
theorem endX {st pl tp pa c p : Nat} {Sx Sm S : zS} {lv : Nat → Bool} {L : Int32} (hC : gC st pl tp pa c Sx Sm) (hp : p < pa) (hL : gB (Sm.1 19) c lv L) (hk : kp [64] Sx S) : ∃ S', (zb (f_X1_standing_13 L S) fun r4 T3 => zu (f_X1_readInto_13_64 r4 T3) fun T6 => zb (f_X4_joyOf_5_64 (nI p) T6) fun r9 T8 => some (r9, T8)) = some (gJ (Sm.1 19) st c tp (Sm.1 15) (Sm.1 14) p lv, S') ∧ kp [64] S S' := by
  obtain ⟨hst, htp, hpa, p5, p6, hN, hB, hO, ho, hH⟩ := hC
  have hc := hN.1
  have hok := stA_ok (lv := lv) hN
  have hB' : rB c (stA (Sm.1 19) lv) (S.1 14) (S.1 15) (S.1 16) (S.1 17) (S.1 18) (S.1 19) := by
    rw [hk.2 14 (by decide), hk.2 15 (by decide), hk.2 16 (by decide), hk.2 17 (by decide), hk.2 18 (by decide), hk.2 19 (by decide)]
    exact rB_congr hB fun b j hb h2 h8 => stA_o _ _ (by omega)
  have e1 : f_X1_standing_13 L S = some (stdN (stA (Sm.1 19) lv) c, S) := stdX (lv := liv (stA (Sm.1 19) lv)) hc (fun i hi => by
    rw [hL.1 i hi]
    by_cases hic : i < c
    · rw [liv_stA _ _ (by omega)]
      cases hl : lv i with
      | true => rw [hL.2 i hl]; rfl
      | false => simp
    · simp [hic]) (fun b hb => (hB' b hb).2.2.2.2.2) (fun b hb => (hB' b hb).2.2.2.2.1)
  have hO' : ∀ b, b < 12 → ∃ s : Nat, s < 12 ∧ S.1 14 b = nI s := by rw [hk.2 14 (by decide)]; exact hO
  have ho' : (∀ i, i < 12 → S.1 20 i = nI ((ordF (S.1 14)).getD i 0)) ∨ stdN (stA (Sm.1 19) lv) c = 0 := by
    rcases ho with ho | rfl
    · left; rw [hk.2 14 (by decide), hk.2 20 (by decide)]; exact ho
    · right; rfl
  obtain ⟨T, eT, wT⟩ := readX64 (S := S) (x := stdN (stA (Sm.1 19) lv) c) hO' ho'
  have kT : kp [64] S T := ⟨wT.1, fun k hk => wT.2.1 k (by simpa using hk)⟩
  have kSx : kp [64] Sx T := kp_trans hk kT
  have e3 : f_X4_joyOf_5_64 (nI p) T = some (gJ (Sm.1 19) st c tp (Sm.1 15) (Sm.1 14) p lv, T) := by
    refine joyX64 hst hc htp (by rw [kSx.2 5 (by decide)]; exact p5) hp hpa (fun b hb => (hok.2.2.2.2 b hb).2.2.2.2.1) (fun t ht => ?_) (fun p t hp ht => ?_)
    · rw [wT.2.2 t (by omega)]
      exact law_rd hst hok hB' (stdN_hi _ (by omega)) (nI t)
    · rw [kSx.2 7 (by decide), kSx.2 8 (by decide)]
      exact hH p t hp ht
  refine ⟨T, ?_, kT⟩
  rw [e1, zb_def, eT, zu_def, e3, zb_def]
theorem jAft {st pl tp pa c p a b d : Nat} {Sx Sm : zS} (hC : gC st pl tp pa c Sx Sm) (hp : p < pa) (ha : a < 13) (hb : b < 13) (hd : d < 13) : ∀ (m k q : Nat) (S : zS) (lv : Nat → Bool) (L : Int32), k + m = 3 → m < q → gB (Sm.1 19) c lv L → kp [64] Sx S → ∃ S', f_X10_joyAfter_63_5_L8 q (nI p) (pkI a b d) L (nI k) S = some (gJ (Sm.1 19) st c tp (Sm.1 15) (Sm.1 14) p (foldN (fun lv k => rm lv (dg3 a b d k)) k m lv), S') ∧ kp [64] S S' := by
  intro m
  induction m with
  | zero =>
    intro k q S lv L hk hq hL hkS
    obtain ⟨q, rfl⟩ : ∃ k, q = k + 1 := ⟨q - 1, by omega⟩
    have : k = 3 := by omega
    subst this
    obtain ⟨S', e, k'⟩ := endX hC hp hL hkS
    refine ⟨S', ?_, k'⟩
    rw [f_X10_joyAfter_63_5_L8, if_neg (by decide)]
    exact e
  | succ m ih =>
    intro k q S lv L hk hq hL hkS
    obtain ⟨q, rfl⟩ : ∃ k, q = k + 1 := ⟨q - 1, by omega⟩
    have hk3 : nI k < 3 := nI_lt (b := 3) (by omega) (by omega)
    rw [f_X10_joyAfter_63_5_L8, if_pos hk3, pickX ha hb hd (by omega), zb_def]
    have hdg : dg3 a b d k < 13 := by unfold dg3; split; exact ha; split; exact hb; exact hd
    show ∃ S', _ = some (gJ _ st c tp _ _ p (foldN _ (k + 1) m (rm lv (dg3 a b d k))), S') ∧ _
    generalize dg3 a b d k = x at hdg
    cases x with
    | zero =>
      rw [if_pos (show sI 0 = -1 from rfl), zlet_def, nI_1, rm_0]
      exact ih (k + 1) q S lv L (by omega) (by omega) hL hkS
    | succ x =>
      rw [if_neg (show ¬ sI (x + 1) = -1 from nI_neg1 (by omega)), zlet_def, zlet_def, nI_1]
      exact ih (k + 1) q S (rm lv (x + 1)) _ (by omega) (by omega) (gB_rm hL (by omega)) hkS
/-- one party's turn -/
theorem gStep {pa c p : Nat} {N : Nat → Int32} {Sx : zS} {F : Int32 → Int32 → zS → Option (Int32 × zS)} {J : (Nat → Bool) → Int32} {pkv : (Nat → Bool) → Int32} {Ef : (Nat → Bool) → (Nat → Bool)} (hc : c ≤ 12) (hp : p < 3)
    (hF : ∀ lv L S, gB N c lv L → kp [64] Sx S → ∃ S', F (nI (p + 1)) L S = some (pkv lv, S') ∧ kp [64] S S')
    (hJ : ∀ lv L S, gB N c lv L → kp [64] Sx S → ∃ S', f_X10_joyAfter_63_5 (nI p) L (pkv lv) S = some (J (Ef lv), S') ∧ kp [64] S S')
    {lv : Nat → Bool} {L : Int32} {S : zS} (hL : gB N c lv L) (hk : kp [64] Sx S) : ∃ S', f_X10_bestFrom_63_5_L28 F zN (nI p) L 0 0 (-1) S = some (pkv (rm lv (sel lv (fun i => J (Ef (rm lv i))) c)) ||| (nI (sel lv (fun i => J (Ef (rm lv i))) c) <<< ((nI p * 4) &&& 31)), S') ∧ kp [64] S S' := by
  obtain ⟨S1, e1, k1⟩ := hF lv L S hL hk
  obtain ⟨S2, e2, k2⟩ := hJ lv L S1 hL (kp_trans hk k1)
  obtain ⟨q0, hq0, hq1⟩ : ∃ q0, zN = q0 + 1 ∧ 12 < q0 := ⟨9999, rfl, by decide⟩
  have e0 : f_X10_bestFrom_63_5_L28 F zN (nI p) L 0 0 (-1) S = f_X10_bestFrom_63_5_L28 F q0 (nI p) L (pkv lv ||| (nI 0 <<< ((nI p * 4) &&& 31))) (J (Ef lv)) (nI 0) S2 := by
    rw [hq0, f_X10_bestFrom_63_5_L28, if_pos (by decide), if_pos rfl]
    unfold f_X10_bestFrom_63_5_B50
    rw [if_pos rfl]
    unfold f_X10_bestFrom_63_5_B68
    rw [nI_1, e1, zb_def, e2, zb_def, if_pos rfl]
    unfold f_X10_bestFrom_63_5_B107
    rw [zlet_def, zlet_def, show (-1 : Int32) + 1 = nI 0 from rfl]
  rw [e0]
  have hsel : ∀ m, m ≤ 12 → sel (fun b => decide (b < c) && lv b) (fun i => J (Ef (rm lv i))) m < 13 := fun m hm => by have := sel_le (fun b => decide (b < c) && lv b) (fun i => J (Ef (rm lv i))) m; omega
  have hfin : sel (fun b => decide (b < c) && lv b) (fun i => J (Ef (rm lv i))) 12 = sel lv (fun i => J (Ef (rm lv i))) c := by
    rw [show 12 = c + (12 - c) by omega, sel_more _ (fun b h1 _ => by simp [show ¬ b < c by omega])]
    unfold sel
    exact foldN_congr c 0 0 fun k b _ hb => by simp [show b < c by omega]
  rw [← hfin]
  refine loopI (f := fun q (a : Int32 × Int32 × zS) b => f_X10_bestFrom_63_5_L28 F q (nI p) L a.1 a.2.1 (nI b) a.2.2) (fun b a => a.1 = pkv (rm lv (sel (fun b => decide (b < c) && lv b) (fun i => J (Ef (rm lv i))) b)) ||| (nI (sel (fun b => decide (b < c) && lv b) (fun i => J (Ef (rm lv i))) b) <<< ((nI p * 4) &&& 31)) ∧ a.2.1 = J (Ef (rm lv (sel (fun b => decide (b < c) && lv b) (fun i => J (Ef (rm lv i))) b))) ∧ kp [64] S a.2.2)
    (fun o => ∃ S', o = some (pkv (rm lv (sel (fun b => decide (b < c) && lv b) (fun i => J (Ef (rm lv i))) 12)) ||| (nI (sel (fun b => decide (b < c) && lv b) (fun i => J (Ef (rm lv i))) 12) <<< ((nI p * 4) &&& 31)), S') ∧ kp [64] S S') (c := 12) ?_ ?_ 12 0 q0 (pkv lv ||| (nI 0 <<< ((nI p * 4) &&& 31)), J (Ef lv), S2) (by omega) (by omega) ⟨?_, ?_, kp_trans k1 k2⟩
  · rintro q ⟨x4, x5, V⟩ b hb ⟨h4, h5, kV⟩
    dsimp only at h4 h5 kV ⊢
    have h12 : nI b < 12 := nI_lt (b := 12) hb (by omega)
    have hbit : ((L >>> (nI b &&& 31)) &&& 1 = 0) = ((decide (b < c) && lv b) = false) := by rw [b_ask0 L (by omega), hL.1 b (by omega)]
    rw [sel_s]
    by_cases hok : (decide (b < c) && lv b) = true
    · obtain ⟨V1, g1, kV1⟩ := hF (rm lv (b + 1)) _ V (gB_rm hL (by omega)) (kp_trans hk kV)
      obtain ⟨V2, g2, kV2⟩ := hJ (rm lv (b + 1)) _ V1 (gB_rm hL (by omega)) (kp_trans (kp_trans hk kV) kV1)
      have ex : f_X10_bestFrom_63_5_L28 F (q + 1) (nI p) L x4 x5 (nI b) V = if x5 < J (Ef (rm lv (b + 1))) then f_X10_bestFrom_63_5_L28 F q (nI p) L (pkv (rm lv (b + 1)) ||| (nI (b + 1) <<< ((nI p * 4) &&& 31))) (J (Ef (rm lv (b + 1)))) (nI (b + 1)) V2 else f_X10_bestFrom_63_5_L28 F q (nI p) L x4 x5 (nI (b + 1)) V2 := by
        rw [f_X10_bestFrom_63_5_L28, if_pos h12, if_neg (nI_neg1 (by omega)), if_neg (by rw [hbit, hok]; decide)]
        unfold f_X10_bestFrom_63_5_B50
        rw [if_neg (nI_neg1 (by omega))]
        unfold f_X10_bestFrom_63_5_B68
        rw [nI_1 p, g1, zb_def, g2, zb_def, if_neg (nI_neg1 (by omega))]
        unfold f_X10_bestFrom_63_5_B107
        rw [zlet_def, zlet_def, zlet_def, nI_1]
      by_cases hlt : x5 < J (Ef (rm lv (b + 1)))
      · rw [if_pos hlt] at ex
        have hcond : (decide (b < c) && lv b) = true ∧ J (Ef (rm lv (sel (fun b => decide (b < c) && lv b) (fun i => J (Ef (rm lv i))) b))) < J (Ef (rm lv (b + 1))) := ⟨hok, by rw [← h5]; exact hlt⟩
        refine ⟨(_, _, V2), ex, ?_, ?_, kp_trans kV (kp_trans kV1 kV2)⟩
        · dsimp only; rw [if_pos hcond]
        · dsimp only; rw [if_pos hcond]
      · rw [if_neg hlt] at ex
        have hcond : ¬ ((decide (b < c) && lv b) = true ∧ J (Ef (rm lv (sel (fun b => decide (b < c) && lv b) (fun i => J (Ef (rm lv i))) b))) < J (Ef (rm lv (b + 1)))) := fun z => hlt (by rw [h5]; exact z.2)
        refine ⟨(x4, x5, V2), ex, ?_, ?_, kp_trans kV (kp_trans kV1 kV2)⟩
        · dsimp only; rw [if_neg hcond]; exact h4
        · dsimp only; rw [if_neg hcond]; exact h5
    · have hcond : ¬ ((decide (b < c) && lv b) = true ∧ J (Ef (rm lv (sel (fun b => decide (b < c) && lv b) (fun i => J (Ef (rm lv i))) b))) < J (Ef (rm lv (b + 1)))) := fun z => hok z.1
      refine ⟨(x4, x5, V), ?_, ?_, ?_, kV⟩
      · rw [f_X10_bestFrom_63_5_L28, if_pos h12, if_neg (nI_neg1 (by omega)), if_pos (by rw [hbit]; simpa using hok), zlet_def, nI_1]
      · dsimp only; rw [if_neg hcond]; exact h4
      · dsimp only; rw [if_neg hcond]; exact h5
  · rintro q ⟨x4, x5, V⟩ ⟨h4, h5, kV⟩
    dsimp only at h4 h5 kV ⊢
    refine ⟨V, ?_, kV⟩
    rw [f_X10_bestFrom_63_5_L28, if_neg (by decide), h4]
  · show _ = pkv (rm lv 0) ||| (nI 0 <<< _)
    rw [rm_0]
  · show _ = J (Ef (rm lv 0))
    rw [rm_0]
