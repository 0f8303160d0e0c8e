/-! ===== plan: a year behind a trimming, as a step of states ===== -/
def eqv (c : Nat) (N N' : Nat → Int32) : Prop := ∀ i, i < 8 * c ∨ 96 ≤ i ∧ i < 99 → N i = N' i
theorem eqv_rfl (c : Nat) (N : Nat → Int32) : eqv c N N := fun _ _ => rfl
theorem eqv_symm {c : Nat} {N N' : Nat → Int32} (h : eqv c N N') : eqv c N' N := fun i hi => (h i hi).symm
theorem eqv_trans {c : Nat} {N N' N'' : Nat → Int32} (h : eqv c N N') (h' : eqv c N' N'') : eqv c N N'' := fun i hi => (h i hi).trans (h' i hi)
def pS (st pl tp c : Nat) (F N : Nat → Int32) : Prop := bOk st pl tp c N ∧ ∀ b j, b < c → 2 ≤ j → j < 8 → N (8 * b + j) = F (8 * b + j)
/-- what is needed of the hedge -/
def pE (st pl c hb : Nat) (Sx Sm : zS) : Prop := st ≤ 12 ∧ pl ≤ 4 ∧ rFm (Sx.1 9 0) (Sx.1 9 1) (Sm.1 0 21) (Sm.1 0 18) (Sm.1 0 52) (Sx.1 10) (Sm.1 5) (Sm.1 6) ∧ Sx.1 5 9 = Sm.1 0 46 ∧ Sx.1 5 10 = Sm.1 0 47 ∧ isI 1 99 (Sm.1 0 47) ∧ Sx.1 5 6 = nI hb ∧ (∀ p, p < pl → Sm.1 17 p = if hb.testBit p then 1 else 0) ∧ Sx.1 5 0 = nI st ∧ Sm.1 0 42 = nI st ∧ rB c (Sm.1 19) (Sx.1 14) (Sx.1 15) (Sx.1 16) (Sx.1 17) (Sx.1 18) (Sx.1 19)
theorem step60 {st pl tp c hb : Nat} {Sx Sm T U : zS} {n : Int32} (hE : pE st pl c hb Sx Sm) (hn : isI 1 99 n) (hT : kp [11, 12, 56, 57, 58, 59, 60, 61, 62] Sx T) (hU : kp [8, 9, 20, 22, 23] Sm U) (g : gR c (U.1 20) (T.1 60) (T.1 61) (T.1 62)) (hS : pS st pl tp c (Sm.1 19) (U.1 20)) (s : Int32) : ∃ T1 T2 U1 U2 r, f_X3_cut_60_13 s n T = some T1 ∧ f_X3_passYear_60_5 T1 = some T2 ∧ f_X12_trimHere s n U = some U1 ∧ f_X12_goYear U1 = some (r, U2) ∧ kp [60, 61, 62, 11, 12] T T2 ∧ kp [8, 9, 20] U U2 ∧ gR c (U2.1 20) (T2.1 60) (T2.1 61) (T2.1 62) ∧ pS st pl tp c (Sm.1 19) (U2.1 20) ∧ kp [61] T T1 := by
  obtain ⟨hst, hpl, hF, h9, h10, hfo, h6, h17, p1, p2, hB⟩ := hE
  have hc := hS.1.1
  obtain ⟨T1, U1, eT1, eU1, kT1, kU1, g1, ok1, f1⟩ := cut60 (S := T) (M := U) (s := s) hn (fun o ho => by rw [hT.2 14 (by decide), hS.2 o 2 ho (by omega) (by omega)]; exact (hB o ho).1) g hS.1
  have kT : kp [11, 12, 56, 57, 58, 59, 60, 61, 62] Sx T1 := kp_trans hT (kp_in kT1 (by decide))
  have kU : kp [8, 9, 20, 22, 23] Sm U1 := kp_trans hU (kp_in kU1 (by decide))
  have fx1 : ∀ b j, b < c → 2 ≤ j → j < 8 → U1.1 20 (8 * b + j) = Sm.1 19 (8 * b + j) := fun b j hb h2 h8 => by rw [f1 _ (by omega)]; exact hS.2 b j hb h2 h8
  obtain ⟨T2, U2, eT2, eU2, kT2, kU2, g2, ok2, f2, -, -⟩ := year60 (S := T1) (M := U1) (hb := hb) (y := U1.1 20 97) (s := U1.1 20 98) hst hpl (by
    rw [kT.2 9 (by decide), kT.2 10 (by decide), kU.2 0 (by decide), kU.2 5 (by decide), kU.2 6 (by decide)]
    exact hF) (by rw [kT.2 5 (by decide), kU.2 0 (by decide)]; exact h9) (by rw [kT.2 5 (by decide), kU.2 0 (by decide)]; exact h10) (by rw [kU.2 0 (by decide)]; exact hfo) (by rw [kT.2 5 (by decide)]; exact h6) (by rw [kU.2 17 (by decide)]; exact h17) (fun o ho => by rw [kT.2 14 (by decide), fx1 o 2 ho (by omega) (by omega)]; exact (hB o ho).1) (fun o ho => by rw [kT.2 15 (by decide), fx1 o 3 ho (by omega) (by omega)]; exact (hB o ho).2.1) ⟨kp_rfl _ _, kp_rfl _ _, g1, ok1, fun _ _ _ _ _ => rfl, rfl, rfl⟩
  exact ⟨T1, T2, U1, U2, _, eT1, eT2, eU1, eU2, kp_trans (kp_in kT1 (by decide)) kT2, kp_trans (kp_in kU1 (by decide)) kU2, g2, ⟨ok2, fun b j hb h2 h8 => (f2 b j hb h2 h8).trans (fx1 b j hb h2 h8)⟩, kT1⟩
/-- the store with a state laid into the air -/
def cM (Sm : zS) (N : Nat → Int32) : zS := (fun k => if k = 20 then N else Sm.1 k, Sm.2)
def cX (Sx : zS) (c : Nat) (N : Nat → Int32) : zS := (fun k => if k = 60 then (fun i => if i = 0 then nI c else if i = 1 then N 97 else N 98) else if k = 61 then (fun b => N (8 * b)) else if k = 62 then (fun b => N (8 * b + 1)) else Sx.1 k, Sx.2)
theorem cM_kp (Sm : zS) (N : Nat → Int32) : kp [20] Sm (cM Sm N) := ⟨rfl, fun k hk => if_neg (fun z => hk (by rw [z]; decide))⟩
theorem cX_kp (Sx : zS) (c : Nat) (N : Nat → Int32) : kp [60, 61, 62] Sx (cX Sx c N) := ⟨rfl, fun k hk => by
  simp only [List.mem_cons, List.not_mem_nil, or_false, not_or] at hk
  show (if k = 60 then _ else if k = 61 then _ else if k = 62 then _ else Sx.1 k) = _
  rw [if_neg hk.1, if_neg hk.2.1, if_neg hk.2.2]⟩
theorem cX_gR (Sx : zS) (c : Nat) (N : Nat → Int32) : gR c N ((cX Sx c N).1 60) ((cX Sx c N).1 61) ((cX Sx c N).1 62) := ⟨rfl, rfl, rfl, fun _ _ => ⟨rfl, rfl⟩⟩
/-- the state behind a trimming and a year -/
def nxt (Sm : zS) (n s : Int32) (N : Nat → Int32) : Nat → Int32 := match f_X12_trimHere s n (cM Sm N) with
  | none => N
  | some U1 => match f_X12_goYear U1 with
    | none => N
    | some q => q.2.1 20
theorem nxt_eq {Sm : zS} {n s : Int32} {N : Nat → Int32} {U1 U2 : zS} {r : Int32} (h1 : f_X12_trimHere s n (cM Sm N) = some U1) (h2 : f_X12_goYear U1 = some (r, U2)) : nxt Sm n s N = U2.1 20 := by
  unfold nxt
  rw [h1]
  show (match f_X12_goYear U1 with | none => N | some q => q.2.1 20) = _
  rw [h2]
theorem nxtX {st pl tp c hb : Nat} {Sx Sm T : zS} {n : Int32} {N : Nat → Int32} (hE : pE st pl c hb Sx Sm) (hn : isI 1 99 n) (hT : kp [11, 12, 56, 57, 58, 59, 60, 61, 62] Sx T) (g : gR c N (T.1 60) (T.1 61) (T.1 62)) (hS : pS st pl tp c (Sm.1 19) N) (s : Int32) : ∃ T1 T2, f_X3_cut_60_13 s n T = some T1 ∧ f_X3_passYear_60_5 T1 = some T2 ∧ kp [60, 61, 62, 11, 12] T T2 ∧ gR c (nxt Sm n s N) (T2.1 60) (T2.1 61) (T2.1 62) ∧ pS st pl tp c (Sm.1 19) (nxt Sm n s N) := by
  obtain ⟨T1, T2, U1, U2, r, e1, e2, e3, e4, k1, -, g2, p2, -⟩ := step60 (U := cM Sm N) hE hn hT (kp_in (cM_kp Sm N) (by decide)) g hS s
  rw [← nxt_eq e3 e4] at g2 p2
  exact ⟨T1, T2, e1, e2, k1, g2, p2⟩
theorem pS_nxt {st pl tp c hb : Nat} {Sx Sm : zS} {n : Int32} {N : Nat → Int32} (hE : pE st pl c hb Sx Sm) (hn : isI 1 99 n) (hS : pS st pl tp c (Sm.1 19) N) (s : Int32) : pS st pl tp c (Sm.1 19) (nxt Sm n s N) := by
  obtain ⟨-, -, -, -, -, -, h⟩ := nxtX (T := cX Sx c N) hE hn (kp_in (cX_kp Sx c N) (by decide)) (cX_gR Sx c N) hS s
  exact h
theorem gR_eqv {st pl tp c : Nat} {F N N' G L A : Nat → Int32} (h1 : gR c N G L A) (h2 : gR c N' G L A) (p1 : pS st pl tp c F N) (p2 : pS st pl tp c F N') : eqv c N N' := by
  intro i hi
  have hc := p1.1.1
  by_cases h96 : i < 96
  · have hb : i / 8 < c := by omega
    have e : i = 8 * (i / 8) + i % 8 := by omega
    have hj : i % 8 < 8 := by omega
    generalize i / 8 = b at *
    generalize i % 8 = j at *
    subst e
    by_cases hj0 : j = 0
    · subst hj0
      exact (h1.2.2.2 b hb).1.symm.trans (h2.2.2.2 b hb).1
    · by_cases hj1 : j = 1
      · subst hj1
        exact (h1.2.2.2 b hb).2.symm.trans (h2.2.2.2 b hb).2
      · rw [p1.2 b j hb (by omega) hj, p2.2 b j hb (by omega) hj]
  · have : i = 96 ∨ i = 97 ∨ i = 98 := by omega
    rcases this with rfl | rfl | rfl
    · rw [p1.1.2.1, p2.1.2.1]
    · exact h1.2.1.symm.trans h2.2.1
    · exact h1.2.2.1.symm.trans h2.2.2.1
theorem pS_eqv {st pl tp c : Nat} {F N N' : Nat → Int32} (h : pS st pl tp c F N) (e : eqv c N' N) : pS st pl tp c F N' := by
  obtain ⟨⟨h1, h2, h3⟩, h4⟩ := h
  refine ⟨⟨h1, by rw [e 96 (by omega)]; exact h2, fun b hb => ?_⟩, fun b j hb h2 h8 => by rw [e _ (by omega)]; exact h4 b j hb h2 h8⟩
  rw [e (8 * b) (by omega), e (8 * b + 2) (by omega), e (8 * b + 3) (by omega), e (8 * b + 4) (by omega), e (8 * b + 5) (by omega), e (8 * b + 6) (by omega), e (8 * b + 7) (by omega)]
  exact h3 b hb
theorem gR_of_eqv {c : Nat} {N N' G L A : Nat → Int32} (hc : c ≤ 12) (h : gR c N G L A) (e : eqv c N' N) : gR c N' G L A := by
  obtain ⟨g0, g1, g2, g3⟩ := h
  refine ⟨g0, by rw [e 97 (by omega)]; exact g1, by rw [e 98 (by omega)]; exact g2, fun b hb => ?_⟩
  rw [e _ (by omega), e _ (by omega)]
  exact g3 b hb
theorem nxtM {st pl tp c hb : Nat} {Sx Sm U : zS} {n : Int32} {N : Nat → Int32} (hE : pE st pl c hb Sx Sm) (hn : isI 1 99 n) (hU : kp [8, 9, 20, 22, 23] Sm U) (e : eqv c (U.1 20) N) (hS : pS st pl tp c (Sm.1 19) N) (s : Int32) : ∃ U1 U2 r, f_X12_trimHere s n U = some U1 ∧ f_X12_goYear U1 = some (r, U2) ∧ kp [8, 9, 20] U U2 ∧ eqv c (U2.1 20) (nxt Sm n s N) := by
  have hc := hS.1.1
  have hkX := kp_in (l' := [11, 12, 56, 57, 58, 59, 60, 61, 62]) (cX_kp Sx c N) (by decide)
  obtain ⟨T1, T2, U1, U2, r, e1, e2, e3, e4, -, k2, g2, p2, -⟩ := step60 (T := cX Sx c N) (U := U) hE hn hkX hU (gR_of_eqv hc (cX_gR Sx c N) e) (pS_eqv hS e) s
  obtain ⟨T1', T2', e1', e2', -, g2', p2'⟩ := nxtX (T := cX Sx c N) hE hn hkX (cX_gR Sx c N) hS s
  rw [e1] at e1'
  cases e1'
  rw [e2] at e2'
  cases e2'
  exact ⟨U1, U2, r, e3, e4, k2, gR_eqv g2 g2' p2 p2'⟩
theorem nxt_eqv {st pl tp c hb : Nat} {Sx Sm : zS} {n : Int32} {N N' : Nat → Int32} (hE : pE st pl c hb Sx Sm) (hn : isI 1 99 n) (hS : pS st pl tp c (Sm.1 19) N) (e : eqv c N' N) (s : Int32) : eqv c (nxt Sm n s N') (nxt Sm n s N) := by
  obtain ⟨U1, U2, r, e1, e2, -, h⟩ := nxtM (U := cM Sm N') hE hn (kp_in (cM_kp Sm N') (by decide)) e hS s
  rw [nxt_eq e1 e2]
  exact h
/-- a stake at which nothing lives: to trim it is to trim none -/
theorem trim_idle {st pl tp c : Nat} {U : zS} {F : Nat → Int32} {n s : Int32} (hn : isI 1 99 n) (hS : pS st pl tp c F (U.1 20)) (hid : ∀ b, b < c → U.1 20 (8 * b + 2) = s → U.1 20 (8 * b) = 0) : ∃ U1, f_X12_trimHere s n U = some U1 ∧ kp [20] U U1 ∧ U1.1 20 = U.1 20 := by
  have hc := hS.1.1
  refine loopI (f := fun q (V : zS) i => f_X12_trimHere_L2 q s n (nI i) V) (fun _ V => kp [20] U V ∧ V.1 20 = U.1 20) (fun o => ∃ V, o = some V ∧ kp [20] U V ∧ V.1 20 = U.1 20) (c := c) ?_ ?_ c 0 zN U (by omega) (by show c < 10000; omega) ⟨kp_rfl _ _, rfl⟩
  · intro q V b hb ⟨kV, e⟩
    have e96 : V.1 20 96 = nI c := by rw [e]; exact hS.1.2.1
    have x2 : f_X12_trimHere_L2 (q + 1) s n (nI b) V = if U.1 20 (8 * b + 2) = s then f_X12_trimHere_L2 q s n (nI (b + 1)) (zput V 20 (8 * b) (leL (U.1 20 (8 * b)) n)) else f_X12_trimHere_L2 q s n (nI (b + 1)) V := by
      rw [f_X12_trimHere_L2, billsM e96, zb_def, if_pos (nI_lt hb (by omega)), of2 (by omega), zb_def, e, lessM (by omega), zu_def, zlet_def, zlet_def, nI_1, e]
    by_cases hs : U.1 20 (8 * b + 2) = s
    · rw [if_pos hs] at x2
      refine ⟨_, x2, kp_trans kV (kp_put (by decide)), ?_⟩
      rw [zput1_eq, e]
      funext i
      by_cases hi : i = 8 * b
      · subst hi
        rw [upd_at, hid b hb hs]
        unfold leL
        rw [if_neg ?_]
        obtain ⟨v, h1, h2, rfl⟩ := hn
        intro z
        rw [Int32.lt_iff_toInt_lt, Int32.toInt_ofInt_of_le (by omega) (by omega)] at z
        rw [i0] at z
        omega
      · rw [upd_ne _ _ _ _ hi]
    · rw [if_neg hs] at x2
      exact ⟨_, x2, kV, e⟩
  · intro q V ⟨kV, e⟩
    have e96 : V.1 20 96 = nI c := by rw [e]; exact hS.1.2.1
    refine ⟨V, ?_, kV, e⟩
    show f_X12_trimHere_L2 (q + 1) s n (nI c) V = _
    rw [f_X12_trimHere_L2, billsM e96, zb_def, if_neg (nI_nlt (Nat.le_refl c) (by omega))]
