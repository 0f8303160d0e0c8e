/-! ===== hedge: the class's side ===== -/
theorem firstX {S : zS} {b p : Nat} (hb : b < 12) (hp : p < 4) (e : S.1 15 b = nI p) : f_X4_firstLifeOf_5 (nI b) S = some (S.1 6 p, S) := by
  unfold f_X4_firstLifeOf_5
  rw [if_neg (nI_not_neg (by omega)), if_pos (show nI b < 12 from nI_lt (b := 12) hb (by omega)), if_pos (zinN (N := 12) hb (by omega)), zlet_def, nI_clamp (show b < 2 ^ 31 by omega), e, if_neg (nI_not_neg (by omega)), if_pos (show nI p < 4 from nI_lt (b := 4) hp (by omega)), if_pos (zinN (N := 4) hp (by omega)), nI_clamp (show p < 2 ^ 31 by omega)]
theorem beginX {S : zS} {c : Nat} (hc : c ≤ 12) (e : S.1 5 4 = nI c) (hp : ∀ b, b < c → ∃ p : Nat, p < 4 ∧ S.1 15 b = nI p) : ∃ T, f_X3_begin_37_5 S = some T ∧ kp [37, 38, 39] S T ∧ T.1 37 0 = nI c ∧ T.1 37 1 = 0 ∧ T.1 37 2 = S.1 5 11 ∧ ∀ b, b < c → (∃ p : Nat, p < 4 ∧ S.1 15 b = nI p ∧ T.1 38 b = S.1 6 p) ∧ T.1 39 b = 0 := by
  unfold f_X3_begin_37_5
  rw [zlet_def, zlet_def, zlet_def, e]
  have k0 : kp [37] S (zput (zput (zput S 37 0 (nI c)) 37 1 0) 37 2 ((zput (zput S 37 0 (nI c)) 37 1 0).1 5 11)) := kp_trans (kp_trans (kp_put (by decide)) (kp_put (by decide))) (kp_put (by decide))
  have a0 : (zput (zput (zput S 37 0 (nI c)) 37 1 0) 37 2 ((zput (zput S 37 0 (nI c)) 37 1 0).1 5 11)).1 37 0 = nI c := rfl
  have a1 : (zput (zput (zput S 37 0 (nI c)) 37 1 0) 37 2 ((zput (zput S 37 0 (nI c)) 37 1 0).1 5 11)).1 37 1 = 0 := rfl
  have a2 : (zput (zput (zput S 37 0 (nI c)) 37 1 0) 37 2 ((zput (zput S 37 0 (nI c)) 37 1 0).1 5 11)).1 37 2 = S.1 5 11 := rfl
  generalize zput (zput (zput S 37 0 (nI c)) 37 1 0) 37 2 ((zput (zput S 37 0 (nI c)) 37 1 0).1 5 11) = S1 at k0 a0 a1 a2
  refine loopI (f := fun n (V : zS) i => f_X3_begin_37_5_L23 n (nI i) V) (fun i V => kp [38, 39] S1 V ∧ ∀ b, b < i → b < c → (∃ p : Nat, p < 4 ∧ S.1 15 b = nI p ∧ V.1 38 b = S.1 6 p) ∧ V.1 39 b = 0) (fun o => ∃ T, o = some T ∧ kp [37, 38, 39] S T ∧ T.1 37 0 = nI c ∧ T.1 37 1 = 0 ∧ T.1 37 2 = S.1 5 11 ∧ ∀ b, b < c → (∃ p : Nat, p < 4 ∧ S.1 15 b = nI p ∧ T.1 38 b = S.1 6 p) ∧ T.1 39 b = 0) (c := 12) ?_ ?_ 12 0 zN S1 (by omega) (by decide) ⟨kp_rfl _ _, fun i hi => absurd hi (by omega)⟩
  · rintro n V i hi ⟨kV, hV⟩
    have e0 : V.1 37 0 = nI c := by rw [kV.2 37 (by decide)]; exact a0
    have e15 : V.1 15 = S.1 15 := by rw [kV.2 15 (by decide), k0.2 15 (by decide)]
    have e6 : V.1 6 = S.1 6 := by rw [kV.2 6 (by decide), k0.2 6 (by decide)]
    have key : ∀ x : Int32, (∀ p : Nat, i < c → p < 4 → S.1 15 i = nI p → x = S.1 6 p) → ∃ a1, f_X3_begin_37_5_B51 (f_X3_begin_37_5_L23 n) (nI i) x (nI i) V = f_X3_begin_37_5_L23 n (nI (i + 1)) a1 ∧ kp [38, 39] S1 a1 ∧ ∀ b, b < i + 1 → b < c → (∃ p : Nat, p < 4 ∧ S.1 15 b = nI p ∧ a1.1 38 b = S.1 6 p) ∧ a1.1 39 b = 0 := fun x hx => by
      refine ⟨zput (zput V 38 i x) 39 i 0, ?_, kp_trans kV (kp_trans (kp_put (by decide)) (kp_put (by decide))), fun b hb hbc => ?_⟩
      · unfold f_X3_begin_37_5_B51
        rw [if_pos (zinN (N := 12) hi (by omega)), zlet_def, if_pos (zinN (N := 12) hi (by omega)), zlet_def, zlet_def, nI_1, nI_clamp (by omega)]
      · rw [zput1_ne _ 39 _ 38 _ (by decide), zput1_eq, zput1_eq, zput1_ne V 38 i 39 _ (by decide)]
        by_cases hbi : b = i
        · rw [hbi, upd_at, upd_at]
          obtain ⟨p, p1, p2⟩ := hp i (by omega)
          exact ⟨⟨p, p1, p2, hx p (by omega) p1 p2⟩, rfl⟩
        · rw [upd_ne _ _ _ _ hbi, upd_ne _ _ _ _ hbi]
          exact hV b (by omega) hbc
    by_cases hic : i < c
    · obtain ⟨p, p1, p2⟩ := hp i hic
      obtain ⟨a1, h1, h2⟩ := key (S.1 6 p) (fun p' _ q1 q2 => by
        have := (nI_eq (by omega) (by omega)).mp (p2.symm.trans q2)
        rw [this])
      refine ⟨a1, ?_, h2⟩
      show f_X3_begin_37_5_L23 (n + 1) (nI i) V = _
      rw [f_X3_begin_37_5_L23, if_pos (show nI i < 12 from nI_lt (b := 12) hi (by omega)), e0, if_pos (nI_lt (b := c) hic (by omega)), firstX hi p1 (by rw [e15]; exact p2), zb_def, e6, h1]
    · obtain ⟨a1, h1, h2⟩ := key 0 (fun p' q0 => absurd q0 hic)
      refine ⟨a1, ?_, h2⟩
      show f_X3_begin_37_5_L23 (n + 1) (nI i) V = _
      rw [f_X3_begin_37_5_L23, if_pos (show nI i < 12 from nI_lt (b := 12) hi (by omega)), e0, if_neg (nI_nlt (b := c) (a := i) (by omega) (by omega)), h1]
  · rintro n V ⟨kV, hV⟩
    refine ⟨V, ?_, kp_trans (kp_in k0 (by decide)) (kp_in kV (by decide)), ?_, ?_, ?_, fun b hb => hV b (by omega) hb⟩
    · show f_X3_begin_37_5_L23 (n + 1) (nI 12) V = _
      rw [f_X3_begin_37_5_L23, if_neg (by decide)]
    · rw [kV.2 37 (by decide)]; exact a0
    · rw [kV.2 37 (by decide)]; exact a1
    · rw [kV.2 37 (by decide)]; exact a2
theorem hedX {S : zS} {c : Nat} (hc : c ≤ 12) (e : S.1 5 4 = nI c) (hp : ∀ b, b < c → ∃ p : Nat, p < 4 ∧ S.1 15 b = nI p) : ∃ T, f_X11_hedge_B45 S = some (nI c, T) ∧ T.2 = S.2 ∧ (∀ k, k ∉ [0, 37, 38, 39, 43, 44, 45, 47] → T.1 k = S.1 k) ∧ (∀ i, i ≠ 15 → T.1 0 i = S.1 0 i) ∧ T.1 0 15 = 0 ∧ T.1 37 0 = nI c ∧ T.1 37 1 = 0 ∧ T.1 37 2 = S.1 5 11 ∧ (∀ b, b < c → (∃ p : Nat, p < 4 ∧ S.1 15 b = nI p ∧ T.1 38 b = S.1 6 p) ∧ T.1 39 b = 0) ∧ T.1 43 0 = 0 ∧ T.1 43 1 = 0 ∧ T.1 43 2 = 0 ∧ (∀ i, i < 27 → T.1 44 i = rowG T 37 i) ∧ T.1 45 0 = 0 ∧ T.1 47 0 = 0 ∧ T.1 47 1 = S.1 47 1 := by
  obtain ⟨T2, q2, k2, b0, b1, b2', b3⟩ := beginX hc e hp
  obtain ⟨T4, q4, k4, r0, r1, r2, r3⟩ := restartX T2
  unfold f_X11_hedge_B45 f_X5_clear_45 f_X8_clear_47
  have ek : ∀ k, k ≠ 0 → k ≠ 45 → k ≠ 47 → (zput (zput (zput T4 45 0 0) 47 0 0) 0 15 0).1 k = T4.1 k := fun k h1 h2 h3 => by rw [zput1_ne _ _ _ _ _ h1, zput1_ne _ _ _ _ _ h3, zput1_ne _ _ _ _ _ h2]
  have e37 : (zput (zput (zput T4 45 0 0) 47 0 0) 0 15 0).1 37 = T2.1 37 := by rw [ek 37 (by decide) (by decide) (by decide), k4.2 37 (by decide)]
  have e38 : (zput (zput (zput T4 45 0 0) 47 0 0) 0 15 0).1 38 = T2.1 38 := by rw [ek 38 (by decide) (by decide) (by decide), k4.2 38 (by decide)]
  have e39 : (zput (zput (zput T4 45 0 0) 47 0 0) 0 15 0).1 39 = T2.1 39 := by rw [ek 39 (by decide) (by decide) (by decide), k4.2 39 (by decide)]
  refine ⟨zput (zput (zput T4 45 0 0) 47 0 0) 0 15 0, ?_, ?_, fun k hk => ?_, fun i hi => ?_, rfl, by rw [e37]; exact b0, by rw [e37]; exact b1, by rw [e37]; exact b2', by rw [e38, e39]; exact b3, ?_, ?_, ?_, fun i hi => ?_, rfl, rfl, ?_⟩
  · rw [q2, zu_def, q4, zu_def, zlet_def, zu_def, zlet_def, zu_def, zlet_def, e37, b0]
  · show T4.2 = S.2
    rw [k4.1, k2.1]
  · simp only [List.mem_cons, List.not_mem_nil, or_false, not_or] at hk
    obtain ⟨h0, h37, h38, h39, h43, h44, h45, h47⟩ := hk
    rw [ek k h0 h45 h47, k4.2 k (by simp [h43, h44]), k2.2 k (by simp [h37, h38, h39])]
  · rw [zput1_eq, upd_ne _ _ _ _ hi, zput1_ne _ _ _ _ _ (by decide), zput1_ne _ _ _ _ _ (by decide), k4.2 0 (by decide), k2.2 0 (by decide)]
  · rw [ek 43 (by decide) (by decide) (by decide)]; exact r0
  · rw [ek 43 (by decide) (by decide) (by decide)]; exact r1
  · rw [ek 43 (by decide) (by decide) (by decide)]; exact r2
  · rw [ek 44 (by decide) (by decide) (by decide), r3 i hi]
    unfold rowG
    rw [e37, show (37 + 1 : Nat) = 38 from rfl, show (37 + 2 : Nat) = 39 from rfl, e38, e39]
  · show T4.1 47 1 = _
    rw [k4.2 47 (by decide), k2.2 47 (by decide)]
