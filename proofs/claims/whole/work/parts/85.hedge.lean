/-! ===== hedge ===== -/
theorem hL98 {S : zS} {c : Nat} (hc : c ≤ 320) (e : S.1 0 18 = nI c) : ∃ U, f_X12_hedge_L98 zN 0 S = f_X12_hedge_L138 zN 0 U ∧ kp [5, 6] S U ∧ ∀ i, i < c → U.1 5 i = S.1 3 i ∧ U.1 6 i = S.1 4 i := by
  refine loopI (f := fun n (V : zS) i => f_X12_hedge_L98 n (nI i) V) (fun b V => kp [5, 6] S V ∧ ∀ i, i < b → V.1 5 i = S.1 3 i ∧ V.1 6 i = S.1 4 i) (fun o => ∃ U, o = f_X12_hedge_L138 zN 0 U ∧ kp [5, 6] S U ∧ ∀ i, i < c → U.1 5 i = S.1 3 i ∧ U.1 6 i = S.1 4 i) (c := c) ?_ ?_ c 0 zN S (by omega) (Nat.lt_of_le_of_lt hc (by decide)) ⟨kp_rfl _ _, fun i hi => absurd hi (by omega)⟩
  · rintro n V i hi ⟨kV, hV⟩
    refine ⟨zput (zput V 5 i (S.1 3 i)) 6 i (S.1 4 i), ?_, kp_trans (kp_trans kV (kp_put (by decide))) (kp_put (by decide)), fun j hj => ?_⟩
    · have e0 : V.1 0 18 = nI c := by rw [kV.2 0 (by decide)]; exact e
      show f_X12_hedge_L98 (n + 1) (nI i) V = _
      rw [f_X12_hedge_L98, e0, if_pos (nI_lt (b := c) hi (by omega)), if_pos (zinN (N := 320) (by omega) (by omega)), if_pos (zinN (N := 320) (by omega) (by omega)), zlet_def, if_pos (zinN (N := 320) (by omega) (by omega)), if_pos (zinN (N := 320) (by omega) (by omega)), zlet_def, zlet_def, nI_1, nI_clamp (by omega), zput1_ne V 5 i 4 _ (by decide), kV.2 3 (by decide), kV.2 4 (by decide)]
    · rw [zput1_ne _ 6 _ 5 _ (by decide), zput1_eq, zput1_eq, zput1_ne V 5 i 6 _ (by decide)]
      by_cases hji : j = i
      · rw [hji, upd_at, upd_at]; exact ⟨rfl, rfl⟩
      · rw [upd_ne _ _ _ _ hji, upd_ne _ _ _ _ hji]; exact hV j (by omega)
  · rintro n V ⟨kV, hV⟩
    refine ⟨V, ?_, kV, hV⟩
    have e0 : V.1 0 18 = nI c := by rw [kV.2 0 (by decide)]; exact e
    show f_X12_hedge_L98 (n + 1) (nI c) V = _
    rw [f_X12_hedge_L98, e0, if_neg (nI_nlt (b := c) (a := c) (by omega) (by omega))]
theorem hL138 (S : zS) : ∃ U, f_X12_hedge_L138 zN 0 S = f_X12_hedge_L175 zN 0 U ∧ kp [11, 17] S U ∧ ∀ i, i < 4 → U.1 11 i = S.1 10 i ∧ U.1 17 i = vp_nar .boolean (S.1 16 i) := by
  refine loopI (f := fun n (V : zS) i => f_X12_hedge_L138 n (nI i) V) (fun b V => kp [11, 17] S V ∧ ∀ i, i < b → V.1 11 i = S.1 10 i ∧ V.1 17 i = vp_nar .boolean (S.1 16 i)) (fun o => ∃ U, o = f_X12_hedge_L175 zN 0 U ∧ kp [11, 17] S U ∧ ∀ i, i < 4 → U.1 11 i = S.1 10 i ∧ U.1 17 i = vp_nar .boolean (S.1 16 i)) (c := 4) ?_ ?_ 4 0 zN S (by omega) (by decide) ⟨kp_rfl _ _, fun i hi => absurd hi (by omega)⟩
  · rintro n V i hi ⟨kV, hV⟩
    refine ⟨zput (zput V 11 i (S.1 10 i)) 17 i (vp_nar .boolean (S.1 16 i)), ?_, kp_trans (kp_trans kV (kp_put (by decide))) (kp_put (by decide)), fun j hj => ?_⟩
    · show f_X12_hedge_L138 (n + 1) (nI i) V = _
      rw [f_X12_hedge_L138, if_pos (show nI i < 4 from nI_lt (b := 4) hi (by omega)), if_pos (zinN (N := 4) (by omega) (by omega)), if_pos (zinN (N := 4) (by omega) (by omega)), zlet_def, if_pos (zinN (N := 4) (by omega) (by omega)), if_pos (zinN (N := 4) (by omega) (by omega)), zlet_def, zlet_def, nI_1, nI_clamp (by omega), zput1_ne V 11 i 16 _ (by decide), kV.2 10 (by decide), kV.2 16 (by decide)]
    · rw [zput1_ne _ 17 _ 11 _ (by decide), zput1_eq, zput1_eq, zput1_ne V 11 i 17 _ (by decide)]
      by_cases hji : j = i
      · rw [hji, upd_at, upd_at]; exact ⟨rfl, rfl⟩
      · rw [upd_ne _ _ _ _ hji, upd_ne _ _ _ _ hji]; exact hV j (by omega)
  · rintro n V ⟨kV, hV⟩
    refine ⟨V, ?_, kV, hV⟩
    show f_X12_hedge_L138 (n + 1) (nI 4) V = _
    rw [f_X12_hedge_L138, if_neg (by decide)]
theorem hL175 (S : zS) : ∃ U, f_X12_hedge_L175 zN 0 S = f_X12_hedge_L213 zN 0 U ∧ kp [14, 15] S U ∧ ∀ i, i < 12 → U.1 14 i = S.1 12 i ∧ U.1 15 i = S.1 13 i := by
  refine loopI (f := fun n (V : zS) i => f_X12_hedge_L175 n (nI i) V) (fun b V => kp [14, 15] S V ∧ ∀ i, i < b → V.1 14 i = S.1 12 i ∧ V.1 15 i = S.1 13 i) (fun o => ∃ U, o = f_X12_hedge_L213 zN 0 U ∧ kp [14, 15] S U ∧ ∀ i, i < 12 → U.1 14 i = S.1 12 i ∧ U.1 15 i = S.1 13 i) (c := 12) ?_ ?_ 12 0 zN S (by omega) (by decide) ⟨kp_rfl _ _, fun i hi => absurd hi (by omega)⟩
  · rintro n V i hi ⟨kV, hV⟩
    refine ⟨zput (zput V 14 i (S.1 12 i)) 15 i (S.1 13 i), ?_, kp_trans (kp_trans kV (kp_put (by decide))) (kp_put (by decide)), fun j hj => ?_⟩
    · show f_X12_hedge_L175 (n + 1) (nI i) V = _
      rw [f_X12_hedge_L175, if_pos (show nI i < 12 from nI_lt (b := 12) hi (by omega)), if_pos (zinN (N := 12) (by omega) (by omega)), if_pos (zinN (N := 12) (by omega) (by omega)), zlet_def, if_pos (zinN (N := 12) (by omega) (by omega)), if_pos (zinN (N := 12) (by omega) (by omega)), zlet_def, zlet_def, nI_1, nI_clamp (by omega), zput1_ne V 14 i 13 _ (by decide), kV.2 12 (by decide), kV.2 13 (by decide)]
    · rw [zput1_ne _ 15 _ 14 _ (by decide), zput1_eq, zput1_eq, zput1_ne V 14 i 15 _ (by decide)]
      by_cases hji : j = i
      · rw [hji, upd_at, upd_at]; exact ⟨rfl, rfl⟩
      · rw [upd_ne _ _ _ _ hji, upd_ne _ _ _ _ hji]; exact hV j (by omega)
  · rintro n V ⟨kV, hV⟩
    refine ⟨V, ?_, kV, hV⟩
    show f_X12_hedge_L175 (n + 1) (nI 12) V = _
    rw [f_X12_hedge_L175, if_neg (by decide)]
theorem hL296 (S : zS) : ∃ U, f_X12_hedge_L296 zN 0 S = some (S.1 0 37, U) ∧ kp [36] S U ∧ ∀ i, i < 3 → U.1 36 i = 0 := by
  refine loopI (f := fun n (V : zS) i => f_X12_hedge_L296 n (nI i) V) (fun b V => kp [36] S V ∧ ∀ i, i < b → V.1 36 i = 0) (fun o => ∃ U, o = some (S.1 0 37, U) ∧ kp [36] S U ∧ ∀ i, i < 3 → U.1 36 i = 0) (c := 3) ?_ ?_ 3 0 zN S (by omega) (by decide) ⟨kp_rfl _ _, fun i hi => absurd hi (by omega)⟩
  · rintro n V i hi ⟨kV, hV⟩
    refine ⟨zput V 36 i 0, ?_, kp_trans kV (kp_put (by decide)), fun j hj => ?_⟩
    · show f_X12_hedge_L296 (n + 1) (nI i) V = _
      rw [f_X12_hedge_L296, if_pos (show nI i < 3 from nI_lt (b := 3) hi (by omega)), if_pos (zinN (N := 3) (by omega) (by omega)), zlet_def, zlet_def, nI_1, nI_clamp (by omega)]
      rfl
    · rw [zput1_eq]
      by_cases hji : j = i
      · rw [hji, upd_at]
      · rw [upd_ne _ _ _ _ hji]; exact hV j (by omega)
  · rintro n V ⟨kV, hV⟩
    refine ⟨V, ?_, kV, hV⟩
    show f_X12_hedge_L296 (n + 1) (nI 3) V = _
    rw [f_X12_hedge_L296, if_neg (by decide), kV.2 0 (by decide)]
theorem hL213 {S : zS} {c : Nat} (hc : c ≤ 8) (e : S.1 0 37 = nI c) : ∃ V, f_X12_hedge_L213 zN 0 S = f_X12_hedge_L296 zN 0 (zput (zput (zput (zput (zput (zput V 19 96 (nI c)) 19 98 (S.1 0 41)) 0 56 0) 0 57 0) 0 72 0) 0 60 0) ∧ kp [19] S V ∧ ∀ i, i < 99 → V.1 19 i = if i < 8 * c then S.1 18 i else 0 := by
  have e8 : (8 : Int32) * nI c = nI (8 * c) := by rw [show (8 : Int32) = nI 8 from rfl, pk_mul]
  refine loopI (f := fun n (V : zS) i => f_X12_hedge_L213 n (nI i) V) (fun b V => kp [19] S V ∧ ∀ i, i < b → V.1 19 i = if i < 8 * c then S.1 18 i else 0) (fun o => ∃ V, o = f_X12_hedge_L296 zN 0 (zput (zput (zput (zput (zput (zput V 19 96 (nI c)) 19 98 (S.1 0 41)) 0 56 0) 0 57 0) 0 72 0) 0 60 0) ∧ kp [19] S V ∧ ∀ i, i < 99 → V.1 19 i = if i < 8 * c then S.1 18 i else 0) (c := 99) ?_ ?_ 99 0 zN S (by omega) (by decide) ⟨kp_rfl _ _, fun i hi => absurd hi (by omega)⟩
  · rintro n V i hi ⟨kV, hV⟩
    have e0 : V.1 0 37 = nI c := by rw [kV.2 0 (by decide)]; exact e
    refine ⟨zput V 19 i (if i < 8 * c then S.1 18 i else 0), ?_, kp_trans kV (kp_put (by decide)), fun j hj => ?_⟩
    · show f_X12_hedge_L213 (n + 1) (nI i) V = _
      rw [f_X12_hedge_L213, if_pos (show nI i < 99 from nI_lt (b := 99) hi (by omega)), e0, e8]
      unfold f_X12_hedge_B245
      by_cases h8 : i < 8 * c
      · rw [if_pos (nI_lt (b := 8 * c) h8 (by omega)), if_pos (zinN (N := 96) (by omega) (by omega)), if_pos (zinN (N := 99) (by omega) (by omega)), zlet_def, zlet_def, nI_1, nI_clamp (by omega), kV.2 18 (by decide), if_pos h8]
      · rw [if_neg (nI_nlt (b := 8 * c) (a := i) (by omega) (by omega)), if_pos (zinN (N := 99) (by omega) (by omega)), zlet_def, zlet_def, nI_1, nI_clamp (by omega), if_neg h8]
    · rw [zput1_eq]
      by_cases hji : j = i
      · rw [hji, upd_at]
      · rw [upd_ne _ _ _ _ hji]; exact hV j (by omega)
  · rintro n V ⟨kV, hV⟩
    refine ⟨V, ?_, kV, hV⟩
    have e0 : V.1 0 37 = nI c := by rw [kV.2 0 (by decide)]; exact e
    have e1 : V.1 0 41 = S.1 0 41 := by rw [kV.2 0 (by decide)]
    show f_X12_hedge_L213 (n + 1) (nI 99) V = _
    rw [f_X12_hedge_L213, if_neg (by decide), zlet_def, zlet_def, zlet_def, zlet_def, zlet_def, zlet_def, e0, zput1_ne V 19 _ 0 _ (by decide), e1]
    rfl
/-- what the reference keeps of what it has read -/
theorem hedM {S : zS} {c bl : Nat} {g : Bool} (hc : c ≤ 320) (hb : bl ≤ 8) (e2 : S.1 0 2 = 0) (e37 : S.1 0 37 = nI bl) (e49 : S.1 0 49 = b2 g) (e17 : (if g then S.1 0 17 else 0) = nI c) : ∃ U, (if (0 : Int32) < (S.1 0 2) then some ((-1), S) else
    zlet (zput S 0 42 (S.1 0 34)) fun T4 =>
    zlet (zput T4 0 43 (T4.1 0 35)) fun T5 =>
    zlet (zput T5 0 44 (T5.1 0 36)) fun T6 =>
    zlet (zput T6 0 45 (T6.1 0 38)) fun T7 =>
    zlet (zput T7 0 46 (T7.1 0 39)) fun T8 =>
    zlet (zput T8 0 47 (T8.1 0 40)) fun T9 =>
    zlet (zput T9 0 21 (T9.1 0 20)) fun T10 =>
    if znb (T10.1 0 49) then
    zlet (zput T10 0 52 (T10.1 0 49)) fun T11 =>
    if (T11.1 0 49) = 0 then
      f_X12_hedge_B93 0 T11
    else
      f_X12_hedge_B93 (T11.1 0 17) T11 else none) = some (nI bl, U) ∧ (∀ k, k ∉ [0, 5, 6, 11, 17, 14, 15, 19, 36] → U.1 k = S.1 k) ∧ (U.1 0 1 = S.1 0 1 ∧ U.1 0 2 = S.1 0 2 ∧ U.1 0 3 = S.1 0 3 ∧ U.1 0 42 = S.1 0 34 ∧ U.1 0 43 = S.1 0 35 ∧ U.1 0 44 = S.1 0 36 ∧ U.1 0 45 = S.1 0 38 ∧ U.1 0 46 = S.1 0 39 ∧ U.1 0 47 = S.1 0 40 ∧ U.1 0 21 = S.1 0 20 ∧ U.1 0 52 = S.1 0 49 ∧ U.1 0 18 = nI c ∧ U.1 0 56 = 0 ∧ U.1 0 57 = 0 ∧ U.1 0 72 = 0 ∧ U.1 0 60 = 0 ∧ U.1 0 73 = S.1 0 73) ∧
    (∀ i, i < c → U.1 5 i = S.1 3 i ∧ U.1 6 i = S.1 4 i) ∧ (∀ i, i < 4 → U.1 11 i = S.1 10 i ∧ U.1 17 i = vp_nar .boolean (S.1 16 i)) ∧ (∀ i, i < 12 → U.1 14 i = S.1 12 i ∧ U.1 15 i = S.1 13 i) ∧ (∀ i, i < 99 → U.1 19 i = if i = 98 then S.1 0 41 else if i = 96 then nI bl else if i < 8 * bl then S.1 18 i else 0) ∧ ∀ i, i < 3 → U.1 36 i = 0 := by
  rw [if_neg (by rw [e2]; decide), zlet_def, zlet_def, zlet_def, zlet_def, zlet_def, zlet_def, zlet_def]
  generalize hT : zput (zput (zput (zput (zput (zput (zput S 0 42 (S.1 0 34)) 0 43 ((zput S 0 42 (S.1 0 34)).1 0 35)) 0 44 ((zput (zput S 0 42 (S.1 0 34)) 0 43 ((zput S 0 42 (S.1 0 34)).1 0 35)).1 0 36)) 0 45 _) 0 46 _) 0 47 _) 0 21 _ = T
  have t49 : T.1 0 49 = b2 g := by rw [← hT]; exact e49
  have hnb : znb (T.1 0 49) := by rw [t49]; cases g; exact znb0; exact znb1
  have hs : (if ((zput T 0 52 (T.1 0 49)).1 0 49) = 0 then f_X12_hedge_B93 0 (zput T 0 52 (T.1 0 49)) else f_X12_hedge_B93 ((zput T 0 52 (T.1 0 49)).1 0 17) (zput T 0 52 (T.1 0 49))) = f_X12_hedge_L98 zN 0 (zput (zput T 0 52 (T.1 0 49)) 0 18 (nI c)) := by
    have a49 : (zput T 0 52 (T.1 0 49)).1 0 49 = b2 g := t49
    have a17 : (zput T 0 52 (T.1 0 49)).1 0 17 = S.1 0 17 := by show T.1 0 17 = _; rw [← hT]; rfl
    unfold f_X12_hedge_B93
    rw [a49, a17, zlet_def, zlet_def]
    cases g with
    | false => rw [if_pos (show b2 false = 0 from rfl), ← e17]; rfl
    | true => rw [if_neg (by decide), ← e17]; rfl
  rw [if_pos hnb, zlet_def, hs]
  generalize hW : zput (zput T 0 52 (T.1 0 49)) 0 18 (nI c) = W
  have kW : kp [0] S W := by
    rw [← hW, ← hT]
    exact kp_trans (kp_trans (kp_trans (kp_trans (kp_trans (kp_trans (kp_trans (kp_trans (kp_put (by decide)) (kp_put (by decide))) (kp_put (by decide))) (kp_put (by decide))) (kp_put (by decide))) (kp_put (by decide))) (kp_put (by decide))) (kp_put (by decide))) (kp_put (by decide))
  have hw : W.1 0 1 = S.1 0 1 ∧ W.1 0 2 = S.1 0 2 ∧ W.1 0 3 = S.1 0 3 ∧ W.1 0 42 = S.1 0 34 ∧ W.1 0 43 = S.1 0 35 ∧ W.1 0 44 = S.1 0 36 ∧ W.1 0 45 = S.1 0 38 ∧ W.1 0 46 = S.1 0 39 ∧ W.1 0 47 = S.1 0 40 ∧ W.1 0 21 = S.1 0 20 ∧ W.1 0 52 = S.1 0 49 ∧ W.1 0 18 = nI c ∧ W.1 0 73 = S.1 0 73 ∧ W.1 0 37 = S.1 0 37 ∧ W.1 0 41 = S.1 0 41 := by
    rw [← hW, ← hT]
    exact ⟨rfl, rfl, rfl, rfl, rfl, rfl, rfl, rfl, rfl, rfl, rfl, rfl, rfl, rfl, rfl⟩
  obtain ⟨w1, w2, w3, w42, w43, w44, w45, w46, w47, w21, w52, w18, w73, w37, w41⟩ := hw
  obtain ⟨U1, q1, k1, u1⟩ := hL98 hc w18
  obtain ⟨U2, q2, k2, u2⟩ := hL138 U1
  obtain ⟨U3, q3, k3, u3⟩ := hL175 U2
  have e0 : U3.1 0 = W.1 0 := by rw [k3.2 0 (by decide), k2.2 0 (by decide), k1.2 0 (by decide)]
  obtain ⟨U4, q4, k4, u4⟩ := hL213 (S := U3) hb (by rw [e0, w37]; exact e37)
  generalize hZ : zput (zput (zput (zput (zput (zput U4 19 96 (nI bl)) 19 98 (U3.1 0 41)) 0 56 0) 0 57 0) 0 72 0) 0 60 0 = Z at q4
  obtain ⟨U5, q5, k5, u5⟩ := hL296 Z
  have kZ : kp [0, 19] U4 Z := by
    rw [← hZ]
    exact kp_trans (kp_trans (kp_trans (kp_trans (kp_trans (kp_put (by decide)) (kp_put (by decide))) (kp_put (by decide))) (kp_put (by decide))) (kp_put (by decide))) (kp_put (by decide))
  have z0 : ∀ i, i ≠ 56 → i ≠ 57 → i ≠ 72 → i ≠ 60 → Z.1 0 i = W.1 0 i := fun i h1 h2 h3 h4 => by
    rw [← hZ, zput1_eq, upd_ne _ _ _ _ h4, zput1_eq, upd_ne _ _ _ _ h3, zput1_eq, upd_ne _ _ _ _ h2, zput1_eq, upd_ne _ _ _ _ h1, zput1_ne _ _ _ _ _ (by decide), zput1_ne _ _ _ _ _ (by decide), k4.2 0 (by decide), e0]
  have z19 : ∀ i, Z.1 19 i = if i = 98 then U3.1 0 41 else if i = 96 then nI bl else U4.1 19 i := fun i => by
    rw [← hZ]
    show upd (upd (U4.1 19) 96 (nI bl)) 98 (U3.1 0 41) i = _
    by_cases h1 : i = 98
    · rw [h1, upd_at, if_pos rfl]
    · rw [upd_ne _ _ _ _ h1, if_neg h1]
      by_cases h2 : i = 96
      · rw [h2, upd_at, if_pos rfl]
      · rw [upd_ne _ _ _ _ h2, if_neg h2]
  have e5 : ∀ i, U5.1 0 i = Z.1 0 i := fun i => by rw [k5.2 0 (by decide)]
  have e37z : Z.1 0 37 = nI bl := by rw [z0 37 (by decide) (by decide) (by decide) (by decide), w37]; exact e37
  refine ⟨U5, ?_, fun k hk => ?_, ⟨?_, ?_, ?_, ?_, ?_, ?_, ?_, ?_, ?_, ?_, ?_, ?_, ?_, ?_, ?_, ?_, ?_⟩, fun i hi => ?_, fun i hi => ?_, fun i hi => ?_, fun i hi => ?_, u5⟩
  · rw [q1, q2, q3, q4, q5, e37z]
  · simp only [List.mem_cons, List.not_mem_nil, or_false, not_or] at hk
    obtain ⟨h0, h5, h6, h11, h17, h14, h15, h19, h36⟩ := hk
    rw [k5.2 k (by simp [h36]), kZ.2 k (by simp [h0, h19]), k4.2 k (by simp [h19]), k3.2 k (by simp [h14, h15]), k2.2 k (by simp [h11, h17]), k1.2 k (by simp [h5, h6]), kW.2 k (by simp [h0])]
  · rw [e5, z0 1 (by decide) (by decide) (by decide) (by decide), w1]
  · rw [e5, z0 2 (by decide) (by decide) (by decide) (by decide), w2]
  · rw [e5, z0 3 (by decide) (by decide) (by decide) (by decide), w3]
  · rw [e5, z0 42 (by decide) (by decide) (by decide) (by decide), w42]
  · rw [e5, z0 43 (by decide) (by decide) (by decide) (by decide), w43]
  · rw [e5, z0 44 (by decide) (by decide) (by decide) (by decide), w44]
  · rw [e5, z0 45 (by decide) (by decide) (by decide) (by decide), w45]
  · rw [e5, z0 46 (by decide) (by decide) (by decide) (by decide), w46]
  · rw [e5, z0 47 (by decide) (by decide) (by decide) (by decide), w47]
  · rw [e5, z0 21 (by decide) (by decide) (by decide) (by decide), w21]
  · rw [e5, z0 52 (by decide) (by decide) (by decide) (by decide), w52]
  · rw [e5, z0 18 (by decide) (by decide) (by decide) (by decide), w18]
  · rw [e5, ← hZ]; rfl
  · rw [e5, ← hZ]; rfl
  · rw [e5, ← hZ]; rfl
  · rw [e5, ← hZ]; rfl
  · rw [e5, z0 73 (by decide) (by decide) (by decide) (by decide), w73]
  · rw [k5.2 5 (by decide), kZ.2 5 (by decide), k4.2 5 (by decide), k3.2 5 (by decide), k2.2 5 (by decide), k5.2 6 (by decide), kZ.2 6 (by decide), k4.2 6 (by decide), k3.2 6 (by decide), k2.2 6 (by decide), ← kW.2 3 (by decide), ← kW.2 4 (by decide)]
    exact u1 i hi
  · rw [k5.2 11 (by decide), kZ.2 11 (by decide), k4.2 11 (by decide), k3.2 11 (by decide), k5.2 17 (by decide), kZ.2 17 (by decide), k4.2 17 (by decide), k3.2 17 (by decide), ← kW.2 10 (by decide), ← kW.2 16 (by decide), ← k1.2 10 (by decide), ← k1.2 16 (by decide)]
    exact u2 i hi
  · rw [k5.2 14 (by decide), kZ.2 14 (by decide), k4.2 14 (by decide), k5.2 15 (by decide), kZ.2 15 (by decide), k4.2 15 (by decide), ← kW.2 12 (by decide), ← kW.2 13 (by decide), ← k1.2 12 (by decide), ← k1.2 13 (by decide), ← k2.2 12 (by decide), ← k2.2 13 (by decide)]
    exact u3 i hi
  · rw [k5.2 19 (by decide), z19, u4 i hi, e0, w41, k3.2 18 (by decide), k2.2 18 (by decide), k1.2 18 (by decide), kW.2 18 (by decide)]
