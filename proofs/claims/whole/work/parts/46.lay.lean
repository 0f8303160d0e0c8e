/-! ===== the order of reading; lay, repeal, image, back ===== -/
def ordP (sk : Nat → Int32) (s b : Nat) : List Nat := (List.range s).flatMap (fun s => (List.range 12).filter (fun b => sk b = nI s)) ++ (List.range b).filter (fun b => sk b = nI s)
theorem ordP_b (sk : Nat → Int32) (s b : Nat) : ordP sk s (b + 1) = ordP sk s b ++ (if sk b = nI s then [b] else []) := by
  unfold ordP
  rw [show List.range (b + 1) = List.range b ++ [b] from List.range_succ, List.filter_append, ← List.append_assoc]
  congr 1
  by_cases h : sk b = nI s
  · simp [h]
  · simp [h]
theorem ordP_s (sk : Nat → Int32) (s : Nat) : ordP sk (s + 1) 0 = ordP sk s 12 := by
  unfold ordP
  rw [show List.range (s + 1) = List.range s ++ [s] from List.range_succ, List.flatMap_append]
  simp
theorem ordP_F (sk : Nat → Int32) : ordP sk 12 0 = ordF sk := by
  unfold ordP ordF
  simp
theorem ordP_mb (sk : Nat → Int32) (s : Nat) : ∀ k b, (ordP sk s b).length ≤ (ordP sk s (b + k)).length := by
  intro k
  induction k with
  | zero => intro b; exact Nat.le_refl _
  | succ k ih =>
    intro b
    refine Nat.le_trans (ih b) ?_
    rw [← Nat.add_assoc, ordP_b, List.length_append]
    omega
theorem ordP_ms (sk : Nat → Int32) : ∀ k s, (ordP sk s 0).length ≤ (ordP sk (s + k) 0).length := by
  intro k
  induction k with
  | zero => intro s; exact Nat.le_refl _
  | succ k ih =>
    intro s
    refine Nat.le_trans (ih s) ?_
    rw [← Nat.add_assoc, ordP_s]
    have := ordP_mb sk (s + k) 12 0
    simpa using this
theorem ordP_len {sk : Nat → Int32} (h : ∀ b, b < 12 → ∃ s : Nat, s < 12 ∧ sk b = nI s) {s b : Nat} (hs : s < 12) (hb : b ≤ 12) : (ordP sk s b).length ≤ 12 := by
  have h1 := ordP_mb sk s (12 - b) b
  rw [show b + (12 - b) = 12 by omega, ← ordP_s] at h1
  have h2 := ordP_ms sk (12 - (s + 1)) (s + 1)
  rw [show s + 1 + (12 - (s + 1)) = 12 by omega, ordP_F, ordF_len h] at h2
  omega
theorem getD_l (l l' : List Nat) {i : Nat} (h : i < l.length) : (l ++ l').getD i 0 = l.getD i 0 := by
  simp [List.getD_eq_getElem?_getD, List.getElem?_append_left h]
theorem getD_e (l : List Nat) (b : Nat) : (l ++ [b]).getD l.length 0 = b := by
  simp [List.getD_eq_getElem?_getD]
def srt13 (S T : zS) (s b : Nat) : Prop := kp [20] S T ∧ ∀ i, i < (ordP (S.1 14) s b).length → T.1 20 i = nI ((ordP (S.1 14) s b).getD i 0)
theorem sortI13 {S : zS} (hO : ∀ b, b < 12 → ∃ s : Nat, s < 12 ∧ S.1 14 b = nI s) {s : Nat} (hs : s < 12) (K : Int32 → Int32 → zS → Option zS) {T : zS} (hT : srt13 S T s 0) : ∃ T', f_X1_sortForReading_13_L12 K zN (nI (ordP (S.1 14) s 0).length) (nI s) 0 T = K (nI (ordP (S.1 14) s 12).length) (nI (s + 1)) T' ∧ srt13 S T' s 12 := by
  refine loopI (f := fun n (T : zS) b => f_X1_sortForReading_13_L12 K n (nI (ordP (S.1 14) s b).length) (nI s) (nI b) T) (fun b T => srt13 S T s b) (fun o => ∃ T', o = K (nI (ordP (S.1 14) s 12).length) (nI (s + 1)) T' ∧ srt13 S T' s 12) (c := 12) ?_ ?_ 12 0 zN T (by omega) (by decide) hT
  · intro n T b hb ⟨kT, hT⟩
    have h12 : nI b < 12 := nI_lt (b := 12) hb (by omega)
    have hz : zin (nI b) 12 := zinN hb (by omega)
    have e14 : T.1 14 = S.1 14 := kT.2 14 (by decide)
    by_cases hsk : S.1 14 b = nI s
    · have hl1 := ordP_len hO hs (b := b + 1) (by omega)
      have eP : ordP (S.1 14) s (b + 1) = ordP (S.1 14) s b ++ [b] := by rw [ordP_b, if_pos hsk]
      have eL : (ordP (S.1 14) s (b + 1)).length = (ordP (S.1 14) s b).length + 1 := by rw [eP, List.length_append]; rfl
      generalize hL : (ordP (S.1 14) s b).length = L at eL hT
      have hz2 : zin (nI L) 12 := zinN (by omega) (by omega)
      refine ⟨zput T 20 L (nI b), ?_, kp_trans kT (kp_put (by decide)), fun i hi => ?_⟩
      · show f_X1_sortForReading_13_L12 K (n + 1) (nI L) (nI s) (nI b) T = f_X1_sortForReading_13_L12 K n (nI (ordP (S.1 14) s (b + 1)).length) (nI s) (nI (b + 1)) _
        rw [eL, f_X1_sortForReading_13_L12, if_pos h12, if_pos hz, nI_clamp (show b < 2 ^ 31 by omega), e14, if_pos hsk, if_pos (show nI L < 12 from nI_lt (b := 12) (by omega) (by omega)), if_pos hz2, zlet_def, zlet_def, zlet_def, nI_1, nI_1, nI_clamp (show L < 2 ^ 31 by omega)]
      · rw [eL] at hi
        rw [zput1_eq, eP]
        by_cases hiL : i = L
        · subst hiL
          rw [upd_at, ← hL, getD_e]
        · rw [upd_ne _ _ _ _ hiL, getD_l _ _ (by omega)]
          exact hT i (by omega)
    · have eP : ordP (S.1 14) s (b + 1) = ordP (S.1 14) s b := by rw [ordP_b, if_neg hsk, List.append_nil]
      refine ⟨T, ?_, kT, by rw [eP]; exact hT⟩
      show f_X1_sortForReading_13_L12 K (n + 1) (nI (ordP (S.1 14) s b).length) (nI s) (nI b) T = f_X1_sortForReading_13_L12 K n (nI (ordP (S.1 14) s (b + 1)).length) (nI s) (nI (b + 1)) _
      rw [eP, f_X1_sortForReading_13_L12, if_pos h12, if_pos hz, nI_clamp (show b < 2 ^ 31 by omega), e14, if_neg hsk, zlet_def, nI_1]
  · intro n T hT
    refine ⟨T, ?_, hT⟩
    show f_X1_sortForReading_13_L12 K (n + 1) (nI (ordP (S.1 14) s 12).length) (nI s) (nI 12) T = _
    rw [f_X1_sortForReading_13_L12, if_neg (by decide), zlet_def, nI_1]
theorem sortX13 {S : zS} (hO : ∀ b, b < 12 → ∃ s : Nat, s < 12 ∧ S.1 14 b = nI s) : ∃ T, f_X1_sortForReading_13 S = some T ∧ kp [20] S T ∧ ∀ i, i < 12 → T.1 20 i = nI ((ordF (S.1 14)).getD i 0) := by
  refine loopI (f := fun n (T : zS) s => f_X1_sortForReading_13_L4 n (nI (ordP (S.1 14) s 0).length) (nI s) T) (fun s T => srt13 S T s 0) (fun o => ∃ T, o = some T ∧ kp [20] S T ∧ ∀ i, i < 12 → T.1 20 i = nI ((ordF (S.1 14)).getD i 0)) (c := 12) ?_ ?_ 12 0 zN S (by omega) (by decide) ⟨kp_rfl _ _, fun i hi => absurd hi (by simp [ordP])⟩
  · intro n T s hs hT
    obtain ⟨T', e, hT'⟩ := sortI13 hO hs (f_X1_sortForReading_13_L4 n) hT
    refine ⟨T', ?_, ?_⟩
    · show f_X1_sortForReading_13_L4 (n + 1) (nI (ordP (S.1 14) s 0).length) (nI s) T = f_X1_sortForReading_13_L4 n (nI (ordP (S.1 14) (s + 1) 0).length) (nI (s + 1)) T'
      rw [f_X1_sortForReading_13_L4, if_pos (show nI s < 12 from nI_lt (b := 12) hs (by omega)), e, ordP_s]
    · unfold srt13 at hT' ⊢
      rw [ordP_s]
      exact hT'
  · intro n T ⟨kT, hT⟩
    refine ⟨T, ?_, kT, fun i hi => ?_⟩
    · show f_X1_sortForReading_13_L4 (n + 1) (nI (ordP (S.1 14) 12 0).length) (nI 12) T = _
      rw [f_X1_sortForReading_13_L4, if_neg (by decide)]
    · rw [ordP_F, ordF_len hO] at hT
      exact hT i hi
def srt29 (S T : zS) (s b : Nat) : Prop := kp [36] S T ∧ ∀ i, i < (ordP (S.1 30) s b).length → T.1 36 i = nI ((ordP (S.1 30) s b).getD i 0)
theorem sortI29 {S : zS} (hO : ∀ b, b < 12 → ∃ s : Nat, s < 12 ∧ S.1 30 b = nI s) {s : Nat} (hs : s < 12) (K : Int32 → Int32 → zS → Option zS) {T : zS} (hT : srt29 S T s 0) : ∃ T', f_X1_sortForReading_29_L12 K zN (nI (ordP (S.1 30) s 0).length) (nI s) 0 T = K (nI (ordP (S.1 30) s 12).length) (nI (s + 1)) T' ∧ srt29 S T' s 12 := by
  refine loopI (f := fun n (T : zS) b => f_X1_sortForReading_29_L12 K n (nI (ordP (S.1 30) s b).length) (nI s) (nI b) T) (fun b T => srt29 S T s b) (fun o => ∃ T', o = K (nI (ordP (S.1 30) s 12).length) (nI (s + 1)) T' ∧ srt29 S T' s 12) (c := 12) ?_ ?_ 12 0 zN T (by omega) (by decide) hT
  · intro n T b hb ⟨kT, hT⟩
    have h12 : nI b < 12 := nI_lt (b := 12) hb (by omega)
    have hz : zin (nI b) 12 := zinN hb (by omega)
    have e30 : T.1 30 = S.1 30 := kT.2 30 (by decide)
    by_cases hsk : S.1 30 b = nI s
    · have hl1 := ordP_len hO hs (b := b + 1) (by omega)
      have eP : ordP (S.1 30) s (b + 1) = ordP (S.1 30) s b ++ [b] := by rw [ordP_b, if_pos hsk]
      have eL : (ordP (S.1 30) s (b + 1)).length = (ordP (S.1 30) s b).length + 1 := by rw [eP, List.length_append]; rfl
      generalize hL : (ordP (S.1 30) s b).length = L at eL hT
      have hz2 : zin (nI L) 12 := zinN (by omega) (by omega)
      refine ⟨zput T 36 L (nI b), ?_, kp_trans kT (kp_put (by decide)), fun i hi => ?_⟩
      · show f_X1_sortForReading_29_L12 K (n + 1) (nI L) (nI s) (nI b) T = f_X1_sortForReading_29_L12 K n (nI (ordP (S.1 30) s (b + 1)).length) (nI s) (nI (b + 1)) _
        rw [eL, f_X1_sortForReading_29_L12, if_pos h12, if_pos hz, nI_clamp (show b < 2 ^ 31 by omega), e30, if_pos hsk, if_pos (show nI L < 12 from nI_lt (b := 12) (by omega) (by omega)), if_pos hz2, zlet_def, zlet_def, zlet_def, nI_1, nI_1, nI_clamp (show L < 2 ^ 31 by omega)]
      · rw [eL] at hi
        rw [zput1_eq, eP]
        by_cases hiL : i = L
        · subst hiL
          rw [upd_at, ← hL, getD_e]
        · rw [upd_ne _ _ _ _ hiL, getD_l _ _ (by omega)]
          exact hT i (by omega)
    · have eP : ordP (S.1 30) s (b + 1) = ordP (S.1 30) s b := by rw [ordP_b, if_neg hsk, List.append_nil]
      refine ⟨T, ?_, kT, by rw [eP]; exact hT⟩
      show f_X1_sortForReading_29_L12 K (n + 1) (nI (ordP (S.1 30) s b).length) (nI s) (nI b) T = f_X1_sortForReading_29_L12 K n (nI (ordP (S.1 30) s (b + 1)).length) (nI s) (nI (b + 1)) _
      rw [eP, f_X1_sortForReading_29_L12, if_pos h12, if_pos hz, nI_clamp (show b < 2 ^ 31 by omega), e30, if_neg hsk, zlet_def, nI_1]
  · intro n T hT
    refine ⟨T, ?_, hT⟩
    show f_X1_sortForReading_29_L12 K (n + 1) (nI (ordP (S.1 30) s 12).length) (nI s) (nI 12) T = _
    rw [f_X1_sortForReading_29_L12, if_neg (by decide), zlet_def, nI_1]
theorem sortX29 {S : zS} (hO : ∀ b, b < 12 → ∃ s : Nat, s < 12 ∧ S.1 30 b = nI s) : ∃ T, f_X1_sortForReading_29 S = some T ∧ kp [36] S T ∧ ∀ i, i < 12 → T.1 36 i = nI ((ordF (S.1 30)).getD i 0) := by
  refine loopI (f := fun n (T : zS) s => f_X1_sortForReading_29_L4 n (nI (ordP (S.1 30) s 0).length) (nI s) T) (fun s T => srt29 S T s 0) (fun o => ∃ T, o = some T ∧ kp [36] S T ∧ ∀ i, i < 12 → T.1 36 i = nI ((ordF (S.1 30)).getD i 0)) (c := 12) ?_ ?_ 12 0 zN S (by omega) (by decide) ⟨kp_rfl _ _, fun i hi => absurd hi (by simp [ordP])⟩
  · intro n T s hs hT
    obtain ⟨T', e, hT'⟩ := sortI29 hO hs (f_X1_sortForReading_29_L4 n) hT
    refine ⟨T', ?_, ?_⟩
    · show f_X1_sortForReading_29_L4 (n + 1) (nI (ordP (S.1 30) s 0).length) (nI s) T = f_X1_sortForReading_29_L4 n (nI (ordP (S.1 30) (s + 1) 0).length) (nI (s + 1)) T'
      rw [f_X1_sortForReading_29_L4, if_pos (show nI s < 12 from nI_lt (b := 12) hs (by omega)), e, ordP_s]
    · unfold srt29 at hT' ⊢
      rw [ordP_s]
      exact hT'
  · intro n T ⟨kT, hT⟩
    refine ⟨T, ?_, kT, fun i hi => ?_⟩
    · show f_X1_sortForReading_29_L4 (n + 1) (nI (ordP (S.1 30) 12 0).length) (nI 12) T = _
      rw [f_X1_sortForReading_29_L4, if_neg (by decide)]
    · rw [ordP_F, ordF_len hO] at hT
      exact hT i hi
theorem put13 {S : zS} {c : Nat} (hc : c < 12) (a1 a2 a3 a4 a5 a6 : Int32) : f_X1_put_13 (nI c) a1 a2 a3 a4 a5 a6 S = some (zput (zput (zput (zput (zput (zput S 14 c a1) 15 c a2) 16 c a3) 17 c a4) 18 c a5) 19 c a6) := by
  have hz : zin (nI c) 12 := zinN hc (by omega)
  unfold f_X1_put_13
  rw [if_neg (nI_not_neg (by omega)), if_pos (show nI c < 12 from nI_lt (b := 12) hc (by omega))]
  simp only [eq_true hz, ↓reduceIte, zlet_def, nI_clamp (show c < 2 ^ 31 by omega)]
theorem addX {S : zS} {c : Nat} (hc : c < 12) (e : S.1 37 0 = nI c) (l : Int32) : f_X3_addBill_37 l S = some (zput (zput (zput S 38 c l) 39 c 0) 37 0 (nI (c + 1))) := by
  have hz : zin (nI c) 12 := zinN hc (by omega)
  unfold f_X3_addBill_37
  rw [e, if_neg (nI_not_neg (by omega)), if_pos (show nI c < 12 from nI_lt (b := 12) hc (by omega)), if_pos hz, zlet_def, show (zput S 38 (nI c).toNatClampNeg l).1 37 0 = S.1 37 0 from rfl, e, if_pos hz, zlet_def, zlet_def, nI_clamp (show c < 2 ^ 31 by omega), show (zput (zput S 38 c l) 39 c 0).1 37 0 = S.1 37 0 from rfl, e, nI_1]
theorem ok_put {st pl tp c s p : Nat} {N : Nat → Int32} {lf t y am rp : Int32} (hc : c < 12) (hN : okN st pl tp c N) (hlf : isI 0 99 lf) (hs : s < st) (hp : p < pl) (ht : isI (-1) (tp - 1) t) (hy : isI (-9) 9 y) (ham : isI (-1) (c - 1) am) (hrp : isI (-1) (c - 1) rp) : okN st pl tp (c + 1) (putA N c lf (nI s) (nI p) t y am rp) := by
  refine ⟨by omega, putA_96, ?_, ?_, fun b hb => ?_⟩
  · rw [putA_gt hc (by omega)]; exact hN.2.2.1
  · rw [putA_gt hc (by omega)]; exact hN.2.2.2.1
  · by_cases hbc : b = c
    · subst hbc
      obtain ⟨q0, q1, q2, q3, q4, q5, q6, q7⟩ := putA_at (N := N) (lf := lf) (s := nI s) (p := nI p) (t := t) (y := y) (am := am) (rp := rp) hc
      rw [q0, q2, q3, q4, q5, q6, q7]
      exact ⟨hlf, ⟨s, hs, rfl⟩, ⟨p, hp, rfl⟩, ht, hy, ham, hrp⟩
    · rw [putA_lt (by omega) (by omega), putA_lt (by omega) (by omega), putA_lt (by omega) (by omega), putA_lt (by omega) (by omega), putA_lt (by omega) (by omega), putA_lt (by omega) (by omega), putA_lt (by omega) (by omega)]
      exact hN.2.2.2.2 b (by omega)
/-- a bill is laid, on both sides -/
theorem lay_both {Sx Sm : zS} {st pl tp pa c s p : Nat} {t y am rp : Int32} (h : zRel Sx Sm) (hH : rH st pl tp pa (Sx.1 5) (Sx.1 6) (Sx.1 7) (Sx.1 8) (Sm.1 0 42) (Sm.1 0 43) (Sm.1 0 44) (Sm.1 0 45) (Sm.1 0 46) (Sm.1 0 47) (Sm.1 11) (Sm.1 14) (Sm.1 15) (Sm.1 17)) (hA : rA st pl tp (Sx.1 37) (Sx.1 38) (Sx.1 39) (Sx.1 14) (Sx.1 15) (Sx.1 16) (Sx.1 17) (Sx.1 18) (Sx.1 19) (Sx.1 20) (Sx.1 43) (Sx.1 44) (Sm.1 19) (Sm.1 21) (Sm.1 0 56) (Sm.1 0 57)) (hI : rI st pl tp (Sx.1 45 0) (Sx.1 46) (Sm.1 36) (Sm.1 37)) (hN : okN st pl tp c (Sm.1 19)) (hB : rB c (Sm.1 19) (Sx.1 14) (Sx.1 15) (Sx.1 16) (Sx.1 17) (Sx.1 18) (Sx.1 19)) (hg : gR c (Sm.1 19) (Sx.1 37) (Sx.1 38) (Sx.1 39)) (hO : ∀ b, b < 12 → ∃ s : Nat, s < 12 ∧ Sx.1 14 b = nI s) (hc : c < 12) (hs : s < st) (hp : p < pl) (ht : isI (-1) (tp - 1) t) (hy : isI (-9) 9 y) (ham : isI (-1) (c - 1) am) (hrp : isI (-1) (c - 1) rp) : zSame (f_X11_layBill (nI s) (nI p) t y am rp Sx) (zu (f_X12_act Sm) fun T2 => zu (f_X12_load T2) fun T4 => zu (f_X12_put (nI s) (nI p) t y am rp T4) fun T6 => zu (f_X12_keep T6) fun T8 => some ((T8.1 19 (Int32.toNatClampNeg 96)) - 1, T8)) := by
  obtain ⟨-, hst, hpl, htp, -, p1, p2, p3, p4, p5, p6, -, -, -, -, -, -, -, hpl2, -⟩ := id hH
  obtain ⟨U1, eU, kU, u0⟩ := rel_act h
  have hU19 : U1.1 19 = Sm.1 19 := kU.2 19 (by decide)
  have l19 : ∀ i, i < 99 → (zld U1 0).1 20 i = Sm.1 19 i := fun i hi => by rw [zld_at U1 hi, hU19]
  obtain ⟨U2, eU2, kU2, h20⟩ := putM (S := zld U1 0) (c := c) (p := p) hc ((l19 96 (by omega)).trans hN.2.1) (by omega) (nI s) t y am rp
  obtain ⟨V, eV, kV, hV⟩ := keepM U2
  have e11 : (zld U1 0).1 11 p = Sm.1 11 p := by
    show U1.1 11 p = _
    rw [kU.2 11 (by decide)]
  have hVp : ∀ i, i < 99 → V.1 19 i = putA (Sm.1 19) c (Sm.1 11 p) (nI s) (nI p) t y am rp i := fun i hi => by
    rw [hV i hi, h20, e11]
    unfold putA
    by_cases h96 : i = 96
    · subst h96; rw [upd_at, upd_at]
    · rw [upd_ne _ _ _ _ h96, upd_ne _ _ _ _ h96]
      by_cases h7 : i = 8 * c + 7
      · rw [h7, upd_at, upd_at]
      · rw [upd_ne _ _ _ _ h7, upd_ne _ _ _ _ h7]
        by_cases h6 : i = 8 * c + 6
        · rw [h6, upd_at, upd_at]
        · rw [upd_ne _ _ _ _ h6, upd_ne _ _ _ _ h6]
          by_cases h5 : i = 8 * c + 5
          · rw [h5, upd_at, upd_at]
          · rw [upd_ne _ _ _ _ h5, upd_ne _ _ _ _ h5]
            by_cases h4 : i = 8 * c + 4
            · rw [h4, upd_at, upd_at]
            · rw [upd_ne _ _ _ _ h4, upd_ne _ _ _ _ h4]
              by_cases h3 : i = 8 * c + 3
              · rw [h3, upd_at, upd_at]
              · rw [upd_ne _ _ _ _ h3, upd_ne _ _ _ _ h3]
                by_cases h2 : i = 8 * c + 2
                · rw [h2, upd_at, upd_at]
                · rw [upd_ne _ _ _ _ h2, upd_ne _ _ _ _ h2]
                  by_cases h1 : i = 8 * c + 1
                  · rw [h1, upd_at, upd_at]
                  · rw [upd_ne _ _ _ _ h1, upd_ne _ _ _ _ h1]
                    by_cases h0 : i = 8 * c
                    · rw [h0, upd_at, upd_at]
                    · rw [upd_ne _ _ _ _ h0, upd_ne _ _ _ _ h0]
                      exact l19 i hi
  obtain ⟨hl1, hl2⟩ := hpl2 p hp
  have hlf : isI 0 99 (Sm.1 11 p) := by
    obtain ⟨v, h1, h2, h3⟩ := hl1
    exact ⟨v, by omega, h2, h3⟩
  have hNp : okN st pl tp (c + 1) (putA (Sm.1 19) c (Sm.1 11 p) (nI s) (nI p) t y am rp) := ok_put hc hN hlf hs hp ht hy ham hrp
  have hN' : okN st pl tp (c + 1) (V.1 19) := by
    refine ok_of (bOk_congr (ok_b hNp) hVp) ?_ ?_
    · rw [hVp 97 (by omega)]; exact hNp.2.2.1
    · rw [hVp 98 (by omega)]; exact hNp.2.2.2.1
  -- the class
  have hs12 : s < 12 := by omega
  generalize hT1 : zput (zput (zput (zput (zput (zput Sx 14 c (nI s)) 15 c (nI p)) 16 c t) 17 c y) 18 c am) 19 c rp = T1
  have kT1 : kp [14, 15, 16, 17, 18, 19] Sx T1 := by
    rw [← hT1]
    exact kp_trans (kp_trans (kp_trans (kp_trans (kp_trans (kp_put (by decide)) (kp_put (by decide))) (kp_put (by decide))) (kp_put (by decide))) (kp_put (by decide))) (kp_put (by decide))
  have t14 : T1.1 14 = upd (Sx.1 14) c (nI s) := by rw [← hT1]; rfl
  have t15 : T1.1 15 = upd (Sx.1 15) c (nI p) := by rw [← hT1]; rfl
  have t16 : T1.1 16 = upd (Sx.1 16) c t := by rw [← hT1]; rfl
  have t17 : T1.1 17 = upd (Sx.1 17) c y := by rw [← hT1]; rfl
  have t18 : T1.1 18 = upd (Sx.1 18) c am := by rw [← hT1]; rfl
  have t19 : T1.1 19 = upd (Sx.1 19) c rp := by rw [← hT1]; rfl
  have hO1 : ∀ b, b < 12 → ∃ s : Nat, s < 12 ∧ T1.1 14 b = nI s := fun b hb => by
    rw [t14]
    by_cases hbc : b = c
    · subst hbc; exact ⟨s, hs12, upd_at _ _ _⟩
    · rw [upd_ne _ _ _ _ hbc]; exact hO b hb
  obtain ⟨T2, eT2, kT2, h20'⟩ := sortX13 hO1
  have t37 : T2.1 37 0 = nI c := by rw [kT2.2 37 (by decide), kT1.2 37 (by decide)]; exact hg.1
  have t6 : T2.1 6 p = Sm.1 11 p := by rw [kT2.2 6 (by decide), kT1.2 6 (by decide)]; exact hl2
  generalize hT3 : zput (zput (zput T2 38 c (Sm.1 11 p)) 39 c 0) 37 0 (nI (c + 1)) = T3
  have kT3 : kp [37, 38, 39] T2 T3 := by
    rw [← hT3]
    exact kp_trans (kp_trans (kp_put (by decide)) (kp_put (by decide))) (kp_put (by decide))
  have g37 : T3.1 37 = upd (Sx.1 37) 0 (nI (c + 1)) := by
    rw [← hT3]
    show upd (T2.1 37) 0 _ = _
    rw [kT2.2 37 (by decide), kT1.2 37 (by decide)]
  have g38 : T3.1 38 = upd (Sx.1 38) c (Sm.1 11 p) := by
    rw [← hT3]
    show upd (T2.1 38) c _ = _
    rw [kT2.2 38 (by decide), kT1.2 38 (by decide)]
  have g39 : T3.1 39 = upd (Sx.1 39) c 0 := by
    rw [← hT3]
    show upd (T2.1 39) c _ = _
    rw [kT2.2 39 (by decide), kT1.2 39 (by decide)]
  have b14 : T3.1 14 = upd (Sx.1 14) c (nI s) := by rw [kT3.2 14 (by decide), kT2.2 14 (by decide), t14]
  have b15 : T3.1 15 = upd (Sx.1 15) c (nI p) := by rw [kT3.2 15 (by decide), kT2.2 15 (by decide), t15]
  have b16 : T3.1 16 = upd (Sx.1 16) c t := by rw [kT3.2 16 (by decide), kT2.2 16 (by decide), t16]
  have b17 : T3.1 17 = upd (Sx.1 17) c y := by rw [kT3.2 17 (by decide), kT2.2 17 (by decide), t17]
  have b18 : T3.1 18 = upd (Sx.1 18) c am := by rw [kT3.2 18 (by decide), kT2.2 18 (by decide), t18]
  have b19 : T3.1 19 = upd (Sx.1 19) c rp := by rw [kT3.2 19 (by decide), kT2.2 19 (by decide), t19]
  have hB3 : rB (c + 1) (V.1 19) (T3.1 14) (T3.1 15) (T3.1 16) (T3.1 17) (T3.1 18) (T3.1 19) := by
    intro b hb
    rw [b14, b15, b16, b17, b18, b19, hVp _ (by omega), hVp _ (by omega), hVp _ (by omega), hVp _ (by omega), hVp _ (by omega), hVp _ (by omega)]
    by_cases hbc : b = c
    · subst hbc
      obtain ⟨q0, q1, q2, q3, q4, q5, q6, q7⟩ := putA_at (N := Sm.1 19) (lf := Sm.1 11 p) (s := nI s) (p := nI p) (t := t) (y := y) (am := am) (rp := rp) hc
      rw [q2, q3, q4, q5, q6, q7]
      exact ⟨upd_at _ _ _, upd_at _ _ _, upd_at _ _ _, upd_at _ _ _, upd_at _ _ _, upd_at _ _ _⟩
    · rw [putA_lt (by omega) (by omega), putA_lt (by omega) (by omega), putA_lt (by omega) (by omega), putA_lt (by omega) (by omega), putA_lt (by omega) (by omega), putA_lt (by omega) (by omega), upd_ne _ _ _ _ hbc, upd_ne _ _ _ _ hbc, upd_ne _ _ _ _ hbc, upd_ne _ _ _ _ hbc, upd_ne _ _ _ _ hbc, upd_ne _ _ _ _ hbc]
      exact hB b (by omega)
  have hg3 : gR (c + 1) (V.1 19) (T3.1 37) (T3.1 38) (T3.1 39) := by
    rw [g37, g38, g39]
    refine ⟨upd_at _ _ _, ?_, ?_, fun b hb => ?_⟩
    · rw [upd_ne _ _ _ _ (by omega), hVp _ (by omega), putA_gt hc (by omega)]; exact hg.2.1
    · rw [upd_ne _ _ _ _ (by omega), hVp _ (by omega), putA_gt hc (by omega)]; exact hg.2.2.1
    · rw [hVp _ (by omega), hVp _ (by omega)]
      by_cases hbc : b = c
      · subst hbc
        obtain ⟨q0, q1, -⟩ := putA_at (N := Sm.1 19) (lf := Sm.1 11 p) (s := nI s) (p := nI p) (t := t) (y := y) (am := am) (rp := rp) hc
        rw [q0, q1]
        exact ⟨upd_at _ _ _, upd_at _ _ _⟩
      · rw [putA_lt (by omega) (by omega), putA_lt (by omega) (by omega), upd_ne _ _ _ _ hbc, upd_ne _ _ _ _ hbc]
        exact hg.2.2.2 b (by omega)
  have v0 : V.1 0 = U1.1 0 := by rw [kV.2 0 (by decide), kU2.2 0 (by decide)]; rfl
  have v21 : V.1 21 = U1.1 21 := by rw [kV.2 21 (by decide), kU2.2 21 (by decide)]; rfl
  obtain ⟨T', eT', kT', hA'⟩ := rA_new (T := T3) (U := V) (U1 := U1) (c := c) (c' := c + 1) hA hN.2.1 (by omega) (by omega) hN' hB3 (fun b hb => by
    rw [b14, b15, b16, b17, b18, b19, upd_ne _ _ _ _ (by omega), upd_ne _ _ _ _ (by omega), upd_ne _ _ _ _ (by omega), upd_ne _ _ _ _ (by omega), upd_ne _ _ _ _ (by omega), upd_ne _ _ _ _ (by omega)]
    exact ⟨rfl, rfl, rfl, rfl, rfl, rfl⟩) (by rw [kT3.2 43 (by decide), kT2.2 43 (by decide), kT1.2 43 (by decide)]) (by rw [kT3.2 44 (by decide), kT2.2 44 (by decide), kT1.2 44 (by decide)]) (rG_of_gR hN'.2.1 hg3 (by omega)) (Or.inl (by
    rw [kT3.2 14 (by decide), kT3.2 20 (by decide), kT2.2 14 (by decide)]
    exact h20')) eU v21 v0
  have x1 : f_X11_layBill (nI s) (nI p) t y am rp Sx = some (nI c, T') := by
    unfold f_X11_layBill
    rw [zlet_def, hg.1, if_pos (show nI c < 12 from nI_lt (b := 12) hc (by omega)), isStakeX p1, zb_def, z01, if_pos ⟨nI_not_neg (by omega), nI_lt hs (by omega)⟩, isPlantX hpl p3, zb_def, z01, if_pos ⟨nI_not_neg (by omega), nI_lt hp (by omega)⟩, put13 hc, zu_def, hT1, eT2, zu_def, if_pos (zinN (by omega) (by omega)), nI_clamp (show p < 2 ^ 31 by omega), t6, addX hc t37, zu_def, hT3, eT', zu_def]
  have e96 : V.1 19 96 = nI (c + 1) := hN'.2.1
  rw [x1, eU, zu_def, loadM, zu_def, eU2, zu_def, eV, zu_def, show Int32.toNatClampNeg 96 = 96 from rfl, e96, nI_pred]
  refine zsame (zRel_act h (kp_trans (kp_trans (kp_in kT1 (by decide)) (kp_in kT2 (by decide))) (kp_trans (kp_in kT3 (by decide)) (kp_in kT' (by decide)))) (kp_trans (kp_trans (kp_in kU (by decide)) (kp_in (kp_zld U1) (by decide))) (kp_trans (kp_in (l := [8, 9, 20, 22, 24, 25, 26, 27, 33, 34, 35]) kU2 (by decide)) (kp_in kV (by decide)))) (fun i h1 h2 => by rw [v0]; exact u0 i h1 h2) ?_ hH hI hA')
  rw [kT'.2 14 (by decide), kT3.2 14 (by decide), kT2.2 14 (by decide)]
  exact hO1
theorem canPutM {S : zS} {st pl c : Nat} (hst : st ≤ 12) (p2 : S.1 0 42 = nI st) (hpl : pl ≤ 4) (p4 : S.1 0 43 = nI pl) (hc : c ≤ 12) (e : S.1 19 96 = nI c) (s p : Int32) : f_X12_canPut s p S = some (if (¬ s < 0 ∧ s < nI st) ∧ (¬ p < 0 ∧ p < nI pl) ∧ c < 12 then 1 else 0, S) := by
  unfold f_X12_canPut
  rw [isStakeM hst p2, zb_def, z01]
  by_cases h1 : ¬ s < 0 ∧ s < nI st
  · rw [if_pos h1, isPlantM hpl p4, zb_def, z01]
    by_cases h2 : ¬ p < 0 ∧ p < nI pl
    · rw [if_pos h2, show Int32.toNatClampNeg 96 = 96 from rfl, e]
      by_cases h3 : c < 12
      · rw [if_pos (show nI c < 12 from nI_lt (b := 12) h3 (by omega)), if_pos ⟨h1, h2, h3⟩]
      · rw [if_neg (show ¬ nI c < 12 from nI_nlt (b := 12) (by omega) (by omega)), if_neg (fun z => h3 z.2.2)]
    · rw [if_neg h2, if_neg (fun z => h2 z.2.1)]
  · rw [if_neg h1, if_neg (fun z => h1 z.1)]
theorem layNo {S : zS} {st pl c : Nat} (p1 : S.1 5 0 = nI st) (hpl : pl ≤ 4) (p3 : S.1 5 1 = nI pl) (hc : c ≤ 12) (e : S.1 37 0 = nI c) {s p t y am rp : Int32} (h : ¬ ((¬ s < 0 ∧ s < nI st) ∧ (¬ p < 0 ∧ p < nI pl) ∧ c < 12)) : f_X11_layBill s p t y am rp S = some (-1, S) := by
  unfold f_X11_layBill
  rw [zlet_def, e]
  by_cases h3 : c < 12
  · rw [if_pos (show nI c < 12 from nI_lt (b := 12) h3 (by omega)), isStakeX p1, zb_def, z01]
    by_cases h1 : ¬ s < 0 ∧ s < nI st
    · rw [if_pos h1, isPlantX hpl p3, zb_def, z01, if_neg (fun z => h ⟨h1, z, h3⟩)]
    · rw [if_neg h1]
  · rw [if_neg (show ¬ nI c < 12 from nI_nlt (b := 12) (by omega) (by omega))]
theorem isI_lt {x : Int32} {n : Nat} (hn : n < 2 ^ 31) (h : ¬ x < 0 ∧ x < nI n) : isI (-1) (n - 1) x := by
  obtain ⟨j, hj, rfl⟩ := nI_of h.1
  have := (nI_ltI hj hn).mp h.2
  exact isI_of (by rw [nI_toInt hj]; omega) (by rw [nI_toInt hj]; omega)
theorem isI_m1 (n : Nat) : isI (-1) ((n : Int) - 1) (-1) := ⟨-1, by omega, by omega, rfl⟩
theorem op_lay : zSt5 zRel f_X11_lay f_X12_lay := by
  intro s p t y am Sx Sm h
  obtain ⟨st, pl, tp, pa, c, hH, hA, hI, hN, hB, hg, hO, ho⟩ := rel_all h
  have hc := hN.1
  obtain ⟨-, hst, hpl, htp, -, p1, p2, p3, p4, p5, p6, -⟩ := id hH
  show zSame _ _
  unfold f_X11_lay f_X12_lay f_X11_lay_B33 f_X12_lay_B46
  rw [canPutM hst p2 hpl p4 hc hN.2.1, zb_def, z01, isTopicX htp p5, zb_def, z01]
  by_cases ct : ¬ t < 0 ∧ t < nI tp
  · rw [if_pos ct, sayX, zb_def, isTopicM htp p6, zb_def, z01, if_pos ct, isIn_spec, zb_def]
    by_cases hy1 : y < -9
    · rw [if_pos hy1, if_pos rfl, if_pos rfl, ite_self]; exact zsame h
    · rw [if_neg hy1]
      by_cases hy2 : 9 < y
      · rw [if_pos hy2, if_pos rfl, if_pos rfl, ite_self]; exact zsame h
      · rw [if_neg hy2, if_neg (show ¬ (1 : Int32) = 0 by decide), if_neg (show ¬ (1 : Int32) = 0 by decide), isBillX hc hg.1, zb_def, z01, isBillM hc hN.2.1, zb_def, z01]
        have hy : isI (-9) 9 y := by
          rw [Int32.lt_iff_toInt_lt] at hy1 hy2
          rw [show (-9 : Int32).toInt = -9 from rfl] at hy1
          rw [show (9 : Int32).toInt = 9 from rfl] at hy2
          exact isI_of (by omega) (by omega)
        have key : isI (-1) (c - 1) am → zSame (zb (f_X11_layBill s p t y am (-1) Sx) fun r3 T2 => some (r3, T2)) (if (¬ s < 0 ∧ s < nI st) ∧ (¬ p < 0 ∧ p < nI pl) ∧ c < 12 then (zu (f_X12_act Sm) fun T2 => zu (f_X12_load T2) fun T4 => zu (f_X12_put s p t y am (-1) T4) fun T6 => zu (f_X12_keep T6) fun T8 => some ((T8.1 19 (Int32.toNatClampNeg 96)) - 1, T8)) else some (-1, Sm)) := by
          intro ham
          by_cases hcan : (¬ s < 0 ∧ s < nI st) ∧ (¬ p < 0 ∧ p < nI pl) ∧ c < 12
          · rw [if_pos hcan]
            obtain ⟨⟨s1, s2⟩, ⟨p7, p8⟩, hc12⟩ := hcan
            obtain ⟨s', hs', rfl⟩ := nI_of s1
            obtain ⟨p', hp', rfl⟩ := nI_of p7
            obtain ⟨r, Sx', Sm', e1, e2, hr⟩ := lay_both h hH hA hI hN hB hg hO hc12 ((nI_ltI hs' (by omega)).mp s2) ((nI_ltI hp' (by omega)).mp p8) (isI_lt (by omega) ct) hy ham (isI_m1 c)
            exact ⟨r, Sx', Sm', by rw [e1, zb_def], e2, hr⟩
          · rw [if_neg hcan, layNo p1 hpl p3 hc hg.1 hcan, zb_def]
            exact zsame h
        by_cases ha : am = -1
        · rw [if_pos ha, if_pos ha]
          exact key (ha ▸ isI_m1 c)
        · rw [if_neg ha, if_neg ha]
          by_cases hab : ¬ am < 0 ∧ am < nI c
          · rw [if_pos hab, if_pos hab]
            exact key (isI_lt (by omega) hab)
          · rw [if_neg hab, if_neg hab, ite_self]; exact zsame h
  · rw [if_neg ct, isTopicM htp p6, zb_def, z01, if_neg ct, ite_self]; exact zsame h
theorem op_repeal : zSt3 zRel f_X11_repeal f_X12_repeal := by
  intro s p x Sx Sm h
  obtain ⟨st, pl, tp, pa, c, hH, hA, hI, hN, hB, hg, hO, ho⟩ := rel_all h
  have hc := hN.1
  obtain ⟨-, hst, hpl, htp, -, p1, p2, p3, p4, p5, p6, -⟩ := id hH
  show zSame _ _
  unfold f_X11_repeal f_X12_repeal
  rw [canPutM hst p2 hpl p4 hc hN.2.1, zb_def, z01, isBillX hc hg.1, zb_def, z01, isBillM hc hN.2.1, zb_def, z01]
  by_cases hab : ¬ x < 0 ∧ x < nI c
  · rw [if_pos hab, if_pos hab]
    by_cases hcan : (¬ s < 0 ∧ s < nI st) ∧ (¬ p < 0 ∧ p < nI pl) ∧ c < 12
    · rw [if_pos hcan]
      obtain ⟨⟨s1, s2⟩, ⟨p7, p8⟩, hc12⟩ := hcan
      obtain ⟨s', hs', rfl⟩ := nI_of s1
      obtain ⟨p', hp', rfl⟩ := nI_of p7
      obtain ⟨r, Sx', Sm', e1, e2, hr⟩ := lay_both (y := 0) h hH hA hI hN hB hg hO hc12 ((nI_ltI hs' (by omega)).mp s2) ((nI_ltI hp' (by omega)).mp p8) (isI_m1 tp) ⟨0, by omega, by omega, rfl⟩ (isI_m1 c) (isI_lt (by omega) hab)
      exact ⟨r, Sx', Sm', by rw [e1, zb_def], e2, hr⟩
    · rw [if_neg hcan, layNo p1 hpl p3 hc hg.1 hcan, zb_def]
      exact zsame h
  · rw [if_neg hab, if_neg hab, ite_self]; exact zsame h
