/-! ===== will, lapse, dies, living ===== -/
theorem loopE {α α' β β' : Type} {f : Nat → α → Nat → Option β} {f' : Nat → α' → Nat → Option β'} (R : Nat → α → α' → Prop) (Q : Option β → Option β' → Prop) {c : Nat} (h1 : ∀ n n' a a' b, b < c → R b a a' → Q (f (n + 1) a b) (f' (n' + 1) a' b) ∨ ∃ a1 a1', f (n + 1) a b = f n a1 (b + 1) ∧ f' (n' + 1) a' b = f' n' a1' (b + 1) ∧ R (b + 1) a1 a1') (h2 : ∀ n n' a a', R c a a' → Q (f (n + 1) a c) (f' (n' + 1) a' c)) : ∀ (m b n n' : Nat) (a : α) (a' : α'), b + m = c → m < n → m < n' → R b a a' → Q (f n a b) (f' n' a' b) := by
  intro m
  induction m with
  | zero =>
    intro b n n' a a' hb hn hn' hR
    obtain ⟨k, rfl⟩ : ∃ k, n = k + 1 := ⟨n - 1, by omega⟩
    obtain ⟨k', rfl⟩ : ∃ k, n' = k + 1 := ⟨n' - 1, by omega⟩
    have : b = c := by omega
    subst this
    exact h2 k k' a a' hR
  | succ m ih =>
    intro b n n' a a' hb hn hn' hR
    obtain ⟨k, rfl⟩ : ∃ k, n = k + 1 := ⟨n - 1, by omega⟩
    obtain ⟨k', rfl⟩ : ∃ k, n' = k + 1 := ⟨n' - 1, by omega⟩
    rcases h1 k k' a a' b (by omega) hR with hq | ⟨a1, a1', e1, e2, hR'⟩
    · exact hq
    · rw [e1, e2]
      exact ih (b + 1) k k' a1 a1' (by omega) (by omega) (by omega) hR'
theorem law_rd' {X14 X15 X16 X17 X18 X19 N : Nat → Int32} {st pl tp c : Nat} (hst : st ≤ 12) (hN : bOk st pl tp c N) (hB : rB c N X14 X15 X16 X17 X18 X19) {x : Int32} (hx : ∀ i, i < 32 → c ≤ i → bt x i = false) (t : Int32) : rd X14 (lwF x X16 X18 X17 t) 0 = lwN N st c x t := by
  have hc := hN.1
  rw [rd_eq (N := N) hst hc (fun b hb => (hB b hb).1) (fun b hb => (hN.2.2 b hb).2.1) (fun acc b h1 h2 => by unfold lwF; rw [hx b (by omega) h1]; simp)]
  refine rdN_congr (fun b hb => rfl) (fun acc b hb => ?_) 0
  obtain ⟨b1, b2, b3, b4, b5, b6⟩ := hB b hb
  unfold lwF
  rw [b3, b4, b5]
/-- looking ahead: the class in row 40, the reference in its air -/
def aI (st pl tp c : Nat) (Sx Sm T U : zS) : Prop := kp [40, 41, 42, 11, 12] Sx T ∧ kp [8, 9, 20] Sm U ∧ gR c (U.1 20) (T.1 40) (T.1 41) (T.1 42) ∧ bOk st pl tp c (U.1 20) ∧ ∀ b j, b < c → 2 ≤ j → j < 8 → U.1 20 (8 * b + j) = Sm.1 19 (8 * b + j)
theorem kp_x {S T : zS} (h : kp [40, 41, 42, 11, 12] S T) : xKeep S T := ⟨h.1, fun k hk => h.2 k (fun z => hk (by simp only [List.mem_cons, List.not_mem_nil, or_false] at z ⊢; omega))⟩
theorem kp_m {S T : zS} (h : kp [8, 9, 20] S T) : mKeep S T := ⟨h.1, fun k hk => h.2 k (fun z => hk (by simp only [List.mem_cons, List.not_mem_nil, or_false] at z ⊢; omega))⟩
theorem aI_rel {st pl tp c : Nat} {Sx Sm T U : zS} (h : zRel Sx Sm) (ha : aI st pl tp c Sx Sm T U) : zRel T U := zRel_x (kp_x ha.1) (zRel_m (kp_m ha.2.1) h)
theorem aI_B {st pl tp c : Nat} {Sx Sm T U : zS} (hB : rB c (Sm.1 19) (Sx.1 14) (Sx.1 15) (Sx.1 16) (Sx.1 17) (Sx.1 18) (Sx.1 19)) (ha : aI st pl tp c Sx Sm T U) : rB c (U.1 20) (T.1 14) (T.1 15) (T.1 16) (T.1 17) (T.1 18) (T.1 19) := by
  obtain ⟨k1, -, -, -, hf⟩ := ha
  rw [k1.2 14 (by decide), k1.2 15 (by decide), k1.2 16 (by decide), k1.2 17 (by decide), k1.2 18 (by decide), k1.2 19 (by decide)]
  intro b hb
  rw [hf b 2 hb (by omega) (by omega), hf b 3 hb (by omega) (by omega), hf b 4 hb (by omega) (by omega), hf b 5 hb (by omega) (by omega), hf b 6 hb (by omega) (by omega), hf b 7 hb (by omega) (by omega)]
  exact hB b hb
theorem takeX (S : zS) : ∃ T, f_X3_takeFrom_40_37 S = some T ∧ kp [40, 41, 42, 11, 12] S T ∧ T.1 40 0 = S.1 37 0 ∧ T.1 40 1 = S.1 37 1 ∧ T.1 40 2 = S.1 37 2 ∧ ∀ b, b < 12 → T.1 41 b = S.1 38 b ∧ T.1 42 b = S.1 39 b := by
  unfold f_X3_takeFrom_40_37
  rw [zlet_def, zlet_def, zlet_def, if_pos (by decide), zlet_def, if_pos (by decide), zlet_def]
  refine ⟨_, rfl, ⟨rfl, fun k hk => ?_⟩, rfl, rfl, rfl, fun b hb => ⟨?_, ?_⟩⟩
  · simp only [List.mem_cons, List.not_mem_nil, or_false, not_or] at hk
    obtain ⟨h1, h2, h3, -, -⟩ := hk
    show (if k = 42 then _ else (if k = 41 then _ else (zput (zput (zput S 40 0 _) 40 1 _) 40 2 _).1 k)) = _
    rw [if_neg h3, if_neg h2, zput1_ne _ _ _ _ _ h1, zput1_ne _ _ _ _ _ h1, zput1_ne _ _ _ _ _ h1]
  · show va_cpy (S.1 38) (S.1 41) 0 0 12 b = S.1 38 b
    rw [pk_cpy_in (by omega) (by omega), show 0 + (b - 0) = b by omega]
  · show va_cpy (S.1 39) (S.1 42) 0 0 12 b = S.1 39 b
    rw [pk_cpy_in (by omega) (by omega), show 0 + (b - 0) = b by omega]
/-- what is needed of the hedge for a year -/
theorem rel_year {Sx Sm : zS} (h : zRel Sx Sm) : ∃ st pl tp c hb : Nat, st ≤ 12 ∧ pl ≤ 4 ∧ tp ≤ 4 ∧ Sx.1 5 0 = nI st ∧ Sm.1 0 42 = nI st ∧ Sx.1 5 2 = nI tp ∧ Sm.1 0 44 = nI tp ∧ okN st pl tp c (Sm.1 19) ∧ rB c (Sm.1 19) (Sx.1 14) (Sx.1 15) (Sx.1 16) (Sx.1 17) (Sx.1 18) (Sx.1 19) ∧ gR c (Sm.1 19) (Sx.1 37) (Sx.1 38) (Sx.1 39) ∧ rFm (Sx.1 9 0) (Sx.1 9 1) (Sm.1 0 21) (Sm.1 0 18) (Sm.1 0 52) (Sx.1 10) (Sm.1 5) (Sm.1 6) ∧ Sx.1 5 9 = Sm.1 0 46 ∧ Sx.1 5 10 = Sm.1 0 47 ∧ isI 1 99 (Sm.1 0 47) ∧ Sx.1 5 6 = nI hb ∧ (∀ p, p < pl → Sm.1 17 p = if hb.testBit p then 1 else 0) ∧ (∀ b, b < 12 → ∃ s : Nat, s < 12 ∧ Sx.1 14 b = nI s) ∧ ((∀ i, i < 12 → Sx.1 20 i = nI ((ordF (Sx.1 14)).getD i 0)) ∨ c = 0) := by
  obtain ⟨-, -, -, -, hF, -, hO, st, pl, tp, pa, hH, hA, hI⟩ := id h
  obtain ⟨c, hN, hB, e0, e1, e2, hl⟩ := ac_now hA
  obtain ⟨-, hst, hpl, htp, -, p1, p2, -, -, p5, p6, -, -, -, q1, q2, q3, ⟨hb, -, q4, q5⟩, -⟩ := hH
  exact ⟨st, pl, tp, c, hb, hst, hpl, htp, p1, p2, p5, p6, hN, hB, ⟨e0, e1, e2, hl⟩, hF, q1, q3, q2, q4, q5, hO.1, ord_std hN hA⟩
theorem aI_start {st pl tp c : Nat} {Sx Sm : zS} (hN : okN st pl tp c (Sm.1 19)) (hg : gR c (Sm.1 19) (Sx.1 37) (Sx.1 38) (Sx.1 39)) : ∃ T, f_X3_takeFrom_40_37 Sx = some T ∧ aI st pl tp c Sx Sm T (zld Sm 0) := by
  obtain ⟨T, eT, kT, t0, t1, t2, t3⟩ := takeX Sx
  have hc := hN.1
  refine ⟨T, eT, kT, ⟨rfl, fun k hk => if_neg (fun z => hk (by rw [z]; decide))⟩, ⟨t0.trans hg.1, ?_, ?_, fun b hb => ?_⟩, ?_, fun b j hb h2 h8 => zld_at Sm (by omega)⟩
  · rw [t1, hg.2.1, zld_at Sm (by omega)]
  · rw [t2, hg.2.2.1, zld_at Sm (by omega)]
  · obtain ⟨q1, q2⟩ := t3 b (by omega)
    rw [q1, q2, zld_at Sm (by omega), zld_at Sm (by omega)]
    exact hg.2.2.2 b hb
  · exact bOk_congr (ok_b hN) (fun i hi => zld_at Sm hi)
theorem aI_year {st pl tp c hb : Nat} {Sx Sm T U : zS} (hst : st ≤ 12) (hpl : pl ≤ 4) (hB : rB c (Sm.1 19) (Sx.1 14) (Sx.1 15) (Sx.1 16) (Sx.1 17) (Sx.1 18) (Sx.1 19)) (hF : rFm (Sx.1 9 0) (Sx.1 9 1) (Sm.1 0 21) (Sm.1 0 18) (Sm.1 0 52) (Sx.1 10) (Sm.1 5) (Sm.1 6)) (h9 : Sx.1 5 9 = Sm.1 0 46) (h10 : Sx.1 5 10 = Sm.1 0 47) (hfo : isI 1 99 (Sm.1 0 47)) (h6 : Sx.1 5 6 = nI hb) (h17 : ∀ p, p < pl → Sm.1 17 p = if hb.testBit p then 1 else 0) (ha : aI st pl tp c Sx Sm T U) : ∃ T' U' r, f_X3_passYear_40_5 T = some T' ∧ f_X12_goYear U = some (r, U') ∧ aI st pl tp c Sx Sm T' U' := by
  have hB' := aI_B hB ha
  obtain ⟨kT, kU, g, hok, hf⟩ := ha
  obtain ⟨T', U', e1, e2, kT', kU', g', hok', hf', -, -⟩ := year40 (S := T) (M := U) (hb := hb) (y := U.1 20 97) (s := U.1 20 98) hst hpl (by
    rw [kT.2 9 (by decide), kT.2 10 (by decide), kU.2 0 (by decide), kU.2 5 (by decide), kU.2 6 (by decide)]
    exact hF) (by rw [kT.2 5 (by decide), kU.2 0 (by decide)]; exact h9) (by rw [kT.2 5 (by decide), kU.2 0 (by decide)]; exact h10) (by rw [kU.2 0 (by decide)]; exact hfo) (by rw [kT.2 5 (by decide)]; exact h6) (by rw [kU.2 17 (by decide)]; exact h17) (fun o ho => (hB' o ho).1) (fun o ho => (hB' o ho).2.1) ⟨kp_rfl _ T, kp_rfl _ U, g, hok, fun _ _ _ _ _ => rfl, rfl, rfl⟩
  exact ⟨T', U', _, e1, e2, kp_trans kT kT', kp_trans kU kU', g', hok', fun b j hb h2 h8 => (hf' b j hb h2 h8).trans (hf b j hb h2 h8)⟩
theorem aI_liv {st pl tp c : Nat} {Sx Sm T U : zS} (ha : aI st pl tp c Sx Sm T U) : f_X3_livingBits_40 T = some (mkS (liv (U.1 20)) c, T) ∧ f_X12_livingSet U = some (mkS (liv (U.1 20)) c, U) := by
  obtain ⟨kT, kU, g, hok, hf⟩ := ha
  refine ⟨?_, livM hok.1 hok.2.1⟩
  rw [livX40 hok.1 g.1, mkS_congr (q := liv (U.1 20)) fun b hb => by unfold liv; rw [(g.2.2.2 b hb).1]]
theorem aI_law {st pl tp c : Nat} {Sx Sm T U : zS} (hst : st ≤ 12) (p2 : Sm.1 0 42 = nI st) (hB : rB c (Sm.1 19) (Sx.1 14) (Sx.1 15) (Sx.1 16) (Sx.1 17) (Sx.1 18) (Sx.1 19)) (hO : ∀ b, b < 12 → ∃ s : Nat, s < 12 ∧ Sx.1 14 b = nI s) (ho : (∀ i, i < 12 → Sx.1 20 i = nI ((ordF (Sx.1 14)).getD i 0)) ∨ c = 0) (ha : aI st pl tp c Sx Sm T U) (t : Int32) : f_X1_standing_13 (mkS (liv (U.1 20)) c) T = some (stdN (U.1 20) c, T) ∧ f_X1_lawOf_13 t (stdN (U.1 20) c) T = some (lwN (U.1 20) st c (stdN (U.1 20) c) t, T) ∧ f_X12_lawOf t U = some (lwN (U.1 20) st c (stdN (U.1 20) c) t, U) := by
  have hB' := aI_B hB ha
  obtain ⟨kT, kU, g, hok, hf⟩ := ha
  have hc := hok.1
  refine ⟨?_, ?_, lawM hst (by rw [kU.2 0 (by decide)]; exact p2) hc hok.2.1 t⟩
  · exact stdX (c := c) (lv := liv (U.1 20)) (am := fun b => U.1 20 (8 * b + 6)) (rp := fun b => U.1 20 (8 * b + 7)) hc (fun i hi => bt_mkS _ hi c (by omega)) (fun b hb => (hB' b hb).2.2.2.2.2) (fun b hb => (hB' b hb).2.2.2.2.1)
  · rw [lawX (S := T) (by rw [kT.2 14 (by decide)]; exact hO) (by
      rw [kT.2 14 (by decide), kT.2 20 (by decide)]
      rcases ho with ho | ho
      · exact Or.inl ho
      · right; subst ho; exact stdN_0 _), law_rd' hst hok hB' (stdN_hi _ (by omega))]
/-- n years ahead, on both sides -/
theorem lookR {st pl tp c hb n : Nat} {Sx Sm : zS} (hn : n ≤ 60) (hst : st ≤ 12) (hpl : pl ≤ 4) (hN : okN st pl tp c (Sm.1 19)) (hB : rB c (Sm.1 19) (Sx.1 14) (Sx.1 15) (Sx.1 16) (Sx.1 17) (Sx.1 18) (Sx.1 19)) (hg : gR c (Sm.1 19) (Sx.1 37) (Sx.1 38) (Sx.1 39)) (hF : rFm (Sx.1 9 0) (Sx.1 9 1) (Sm.1 0 21) (Sm.1 0 18) (Sm.1 0 52) (Sx.1 10) (Sm.1 5) (Sm.1 6)) (h9 : Sx.1 5 9 = Sm.1 0 46) (h10 : Sx.1 5 10 = Sm.1 0 47) (hfo : isI 1 99 (Sm.1 0 47)) (h6 : Sx.1 5 6 = nI hb) (h17 : ∀ p, p < pl → Sm.1 17 p = if hb.testBit p then 1 else 0) : ∃ T U, f_X11_lookAhead (nI n) Sx = some T ∧ f_X12_goFar (nI n) Sm = some U ∧ aI st pl tp c Sx Sm T U := by
  obtain ⟨T0, e0, a0⟩ := aI_start hN hg
  unfold f_X11_lookAhead f_X12_goFar
  rw [e0, zu_def, loadM, zu_def]
  refine loopR (f := fun q (T : zS) i => f_X11_lookAhead_L13 q (nI n) (nI i) T) (f' := fun q (U : zS) i => f_X12_goFar_L6 q (nI n) (nI i) U) (fun _ T U => aI st pl tp c Sx Sm T U) (fun o o' => ∃ T U, o = some T ∧ o' = some U ∧ aI st pl tp c Sx Sm T U) (c := n) ?_ ?_ n 0 zN zN T0 (zld Sm 0) (by omega) (by show n < 10000; omega) (by show n < 10000; omega) a0
  · intro q q' T U i hi ha
    obtain ⟨T', U', r, e1, e2, ha'⟩ := aI_year hst hpl hB hF h9 h10 hfo h6 h17 ha
    refine ⟨T', U', ?_, ?_, ha'⟩
    · show f_X11_lookAhead_L13 (q + 1) (nI n) (nI i) T = _
      rw [f_X11_lookAhead_L13, if_pos (nI_lt hi (by omega)), if_pos (show nI i < 60 from nI_lt (b := 60) (by omega) (by omega)), e1, zu_def, zlet_def, nI_1]
    · show f_X12_goFar_L6 (q' + 1) (nI n) (nI i) U = _
      rw [f_X12_goFar_L6, if_pos (nI_lt hi (by omega)), e2, zb_def, zlet_def, nI_1]
  · intro q q' T U ha
    refine ⟨T, U, ?_, ?_, ha⟩
    · show f_X11_lookAhead_L13 (q + 1) (nI n) (nI n) T = _
      rw [f_X11_lookAhead_L13, if_neg (nI_nlt (Nat.le_refl n) (by omega))]
    · show f_X12_goFar_L6 (q' + 1) (nI n) (nI n) U = _
      rw [f_X12_goFar_L6, if_neg (nI_nlt (Nat.le_refl n) (by omega))]
theorem aheadX (x : Int32) (S : zS) : f_X11_isAhead x S = some (if x < 0 then 0 else if 60 < x then 0 else 1, S) := by
  unfold f_X11_isAhead
  by_cases c1 : x < 0
  · rw [if_pos c1, if_pos c1]
  · rw [if_neg c1, if_neg c1]
    by_cases c2 : 60 < x
    · rw [if_pos c2, if_pos c2]
    · rw [if_neg c2, if_neg c2]
theorem upto {x : Int32} {n : Nat} (hn : n < 2 ^ 31) (c1 : ¬ x < 0) (c2 : ¬ nI n < x) : ∃ m : Nat, m ≤ n ∧ x = nI m := by
  obtain ⟨m, hm, rfl⟩ := nI_of c1
  rw [nI_ltI hn hm] at c2
  exact ⟨m, by omega, rfl⟩
theorem op_living : zSt1 zRel f_X11_living f_X12_living := by
  intro x Sx Sm h
  obtain ⟨st, pl, tp, c, hb, hst, hpl, htp, p1, p2, p5, p6, hN, hB, hg, hF, h9, h10, hfo, h6, h17, hO, ho⟩ := rel_year h
  show zSame _ _
  unfold f_X11_living f_X12_living
  rw [aheadX, isIn_spec, zb_def, zb_def]
  by_cases c1 : x < 0
  · rw [if_pos c1, if_pos rfl, if_pos rfl]; exact zsame h
  · rw [if_neg c1]
    by_cases c2 : 60 < x
    · rw [if_pos c2, if_pos rfl, if_pos rfl]; exact zsame h
    · rw [if_neg c2, if_neg (show ¬ (1 : Int32) = 0 by decide), if_neg (show ¬ (1 : Int32) = 0 by decide)]
      obtain ⟨n, hn, rfl⟩ := upto (n := 60) (by omega) c1 c2
      obtain ⟨T, U, e1, e2, ha⟩ := lookR hn hst hpl hN hB hg hF h9 h10 hfo h6 h17
      rw [e1, e2, zu_def, zu_def, (aI_liv ha).1, (aI_liv ha).2, zb_def, zb_def]
      exact zsame (aI_rel h ha)
theorem op_will : zSt2 zRel f_X11_will f_X12_will := by
  intro t x Sx Sm h
  obtain ⟨st, pl, tp, c, hb, hst, hpl, htp, p1, p2, p5, p6, hN, hB, hg, hF, h9, h10, hfo, h6, h17, hO, ho⟩ := rel_year h
  show zSame _ _
  unfold f_X11_will f_X12_will
  rw [isTopicX htp p5, isTopicM htp p6, zb_def, zb_def, z01, z01, aheadX, isIn_spec, zb_def, zb_def]
  by_cases ct : ¬ t < 0 ∧ t < nI tp
  · rw [if_pos ct, if_pos ct]
    by_cases c1 : x < 0
    · rw [if_pos c1, if_pos rfl, if_pos rfl]; exact zsame h
    · rw [if_neg c1]
      by_cases c2 : 60 < x
      · rw [if_pos c2, if_pos rfl, if_pos rfl]; exact zsame h
      · rw [if_neg c2, if_neg (show ¬ (1 : Int32) = 0 by decide), if_neg (show ¬ (1 : Int32) = 0 by decide)]
        obtain ⟨n, hn, rfl⟩ := upto (n := 60) (by omega) c1 c2
        obtain ⟨T, U, e1, e2, ha⟩ := lookR hn hst hpl hN hB hg hF h9 h10 hfo h6 h17
        obtain ⟨k1, k2, k3⟩ := aI_law hst p2 hB hO ho ha t
        rw [e1, e2, zu_def, zu_def, (aI_liv ha).1, zb_def, k1, zb_def, k2, zb_def, k3, zb_def]
        exact zsame (aI_rel h ha)
  · rw [if_neg ct, if_neg ct]; exact zsame h
theorem op_lapse : zSt1 zRel f_X11_lapse f_X12_lapse := by
  intro t Sx Sm h
  obtain ⟨st, pl, tp, c, hb, hst, hpl, htp, p1, p2, p5, p6, hN, hB, hg, hF, h9, h10, hfo, h6, h17, hO, ho⟩ := rel_year h
  have hc := hN.1
  show zSame _ _
  unfold f_X11_lapse f_X12_lapse
  rw [isTopicX htp p5, isTopicM htp p6, zb_def, zb_def, z01, z01]
  by_cases ct : ¬ t < 0 ∧ t < nI tp
  · have hlaw : f_X12_law t Sm = some (lwN (Sm.1 19) st c (stdN (Sm.1 19) c) t, zld Sm 0) := by
      unfold f_X12_law
      rw [loadM, zu_def, isTopicM (S := zld Sm 0) htp p6, zb_def, z01, if_pos ct, lawM (S := zld Sm 0) hst p2 hc ((zld_at Sm (by omega)).trans hN.2.1), zb_def, lwN_congr (N := (zld Sm 0).1 20) (N' := Sm.1 19) (fun i hi => zld_at Sm hi) hc, stdN_congr (fun i hi => zld_at Sm hi) hc]
    rw [if_pos ct, if_pos ct, (stdNowX hN hB hg.1 (fun b hb => (hg.2.2.2 b hb).1)).1, zb_def, lawX hO (by
      rcases ho with ho | ho
      · exact Or.inl ho
      · right; subst ho; exact stdN_0 _), zb_def, law_rd hst hN hB (stdN_hi _ (by omega)), hlaw, zb_def]
    generalize lwN (Sm.1 19) st c (stdN (Sm.1 19) c) t = l0
    obtain ⟨T0, e0, a0⟩ := aI_start hN hg
    rw [e0, zu_def]
    refine loopE (f := fun q (T : zS) i => f_X11_lapse_L42 q t l0 (nI i) T) (f' := fun q (U : zS) i => f_X12_lapse_L18 q t l0 (nI i) U) (fun _ T U => aI st pl tp c Sx Sm T U) zSame (c := 61) ?_ ?_ 60 1 zN zN T0 (zld Sm 0) (by omega) (by decide) (by decide) a0
    · intro q q' T U i hi ha
      obtain ⟨T', U', r, e1, e2, ha'⟩ := aI_year hst hpl hB hF h9 h10 hfo h6 h17 ha
      obtain ⟨k1, k2, k3⟩ := aI_law hst p2 hB hO ho ha' t
      have hi60 : ¬ (60 : Int32) < nI i := nI_nlt (a := 60) (by omega) (by omega)
      have x1 : f_X11_lapse_L42 (q + 1) t l0 (nI i) T = if lwN (U'.1 20) st c (stdN (U'.1 20) c) t = l0 then f_X11_lapse_L42 q t l0 (nI (i + 1)) T' else some (nI i, T') := by
        rw [f_X11_lapse_L42, if_neg hi60, e1, zu_def, (aI_liv ha').1, zb_def, k1, zb_def, k2, zb_def, zlet_def, nI_1]
      have x2 : f_X12_lapse_L18 (q' + 1) t l0 (nI i) U = if lwN (U'.1 20) st c (stdN (U'.1 20) c) t = l0 then f_X12_lapse_L18 q' t l0 (nI (i + 1)) U' else some (nI i, U') := by
        rw [f_X12_lapse_L18, if_neg hi60, e2, zb_def, k3, zb_def, zlet_def, nI_1]
      by_cases hl : lwN (U'.1 20) st c (stdN (U'.1 20) c) t = l0
      · rw [if_pos hl] at x1 x2
        exact Or.inr ⟨T', U', x1, x2, ha'⟩
      · rw [if_neg hl] at x1 x2
        left
        show zSame (f_X11_lapse_L42 (q + 1) t l0 (nI i) T) (f_X12_lapse_L18 (q' + 1) t l0 (nI i) U)
        rw [x1, x2]
        exact zsame (aI_rel h ha')
    · intro q q' T U ha
      show zSame (f_X11_lapse_L42 (q + 1) t l0 (nI 61) T) (f_X12_lapse_L18 (q' + 1) t l0 (nI 61) U)
      rw [f_X11_lapse_L42, if_pos (by decide), f_X12_lapse_L18, if_pos (by decide)]
      exact zsame (aI_rel h ha)
  · rw [if_neg ct, if_neg ct]; exact zsame h
theorem op_dies : zSt1 zRel f_X11_dies f_X12_dies := by
  intro x Sx Sm h
  obtain ⟨st, pl, tp, c, hb, hst, hpl, htp, p1, p2, p5, p6, hN, hB, hg, hF, h9, h10, hfo, h6, h17, hO, ho⟩ := rel_year h
  have hc := hN.1
  show zSame _ _
  unfold f_X11_dies f_X12_dies
  rw [isBillX hc hg.1, isBillM hc hN.2.1, zb_def, zb_def, z01, z01]
  by_cases ca : ¬ x < 0 ∧ x < nI c
  · obtain ⟨b, hb2, rfl⟩ := nI_of ca.1
    have hbc : b < c := (nI_ltI hb2 (by omega)).mp ca.2
    obtain ⟨T0, e0, a0⟩ := aI_start hN hg
    rw [if_pos ca, if_pos ca, loadM, zu_def, e0, zu_def]
    refine loopE (f := fun q (T : zS) i => f_X11_dies_L23 q (nI b) (nI i) T) (f' := fun q (U : zS) i => f_X12_dies_L16 q (nI b) (nI i) U) (fun _ T U => aI st pl tp c Sx Sm T U) zSame (c := 61) ?_ ?_ 61 0 zN zN T0 (zld Sm 0) (by omega) (by decide) (by decide) a0
    · intro q q' T U i hi ha
      obtain ⟨T', U', r, e1, e2, ha'⟩ := aI_year hst hpl hB hF h9 h10 hfo h6 h17 ha
      have hi60 : ¬ (60 : Int32) < nI i := nI_nlt (a := 60) (by omega) (by omega)
      have hz : zin (nI b) 12 := vp_in_nI (by omega) (by omega)
      have hgl := (ha.2.2.1.2.2.2 b hbc).1
      have x1 : f_X11_dies_L23 (q + 1) (nI b) (nI i) T = if 0 < U.1 20 (8 * b) then f_X11_dies_L23 q (nI b) (nI (i + 1)) T' else some (nI i, T) := by
        rw [f_X11_dies_L23, if_neg hi60, if_pos hz, nI_clamp (by omega), hgl, e1, zu_def, zlet_def, nI_1]
      have x2 : f_X12_dies_L16 (q' + 1) (nI b) (nI i) U = if 0 < U.1 20 (8 * b) then f_X12_dies_L16 q' (nI b) (nI (i + 1)) U' else some (nI i, U) := by
        rw [f_X12_dies_L16, if_neg hi60, livesM (by omega), zb_def, z01, e2, zb_def, zlet_def, nI_1]
        unfold liv
        simp only [decide_eq_true_eq]
      by_cases hl : 0 < U.1 20 (8 * b)
      · rw [if_pos hl] at x1 x2
        exact Or.inr ⟨T', U', x1, x2, ha'⟩
      · rw [if_neg hl] at x1 x2
        left
        show zSame (f_X11_dies_L23 (q + 1) (nI b) (nI i) T) (f_X12_dies_L16 (q' + 1) (nI b) (nI i) U)
        rw [x1, x2]
        exact zsame (aI_rel h ha)
    · intro q q' T U ha
      show zSame (f_X11_dies_L23 (q + 1) (nI b) (nI 61) T) (f_X12_dies_L16 (q' + 1) (nI b) (nI 61) U)
      rw [f_X11_dies_L23, if_pos (by decide), f_X12_dies_L16, if_pos (by decide)]
      exact zsame (aI_rel h ha)
  · rw [if_neg ca, if_neg ca]; exact zsame h
