/-! ===== hedge: both sides ===== -/
theorem rT_cb {xt mt : Int32} {X M : Nat → Int32} (h : rT xt mt X M) : ∃ (n : Nat) (cb : Nat → Nat), n ≤ 1600 ∧ xt = nI n ∧ mt = nI n ∧ ∀ i, i < 1600 → cb i < 256 ∧ M i = nI (cb i) ∧ X i = bI (cb i) := by
  obtain ⟨⟨n, h1, h2, h3⟩, hb⟩ := h
  refine ⟨n, fun i => if hi : i < 1600 then (hb i hi).choose else 0, h1, h2, h3, fun i hi => ?_⟩
  have hs := (hb i hi).choose_spec
  simp only [dif_pos hi]
  exact hs
theorem rFm_congr {xu xl mu ml mg : Int32} {X M5 M6 M5' M6' : Nat → Int32} (h : rFm xu xl mu ml mg X M5 M6) (e : ∀ i c : Nat, ml = nI c → c ≤ 272 → i < c → M5' i = M5 i ∧ M6' i = M6 i) : rFm xu xl mu ml mg X M5' M6' := by
  obtain ⟨len, un, h1, h2, h3, h4, h5, h6, h7, h8, h9⟩ := h
  refine ⟨len, un, h1, h2, h3, h4, h5, h6, h7, h8, fun i hi => ?_⟩
  rw [(e i len h6 h1 hi).1, (e i len h6 h1 hi).2]
  exact h9 i hi
/-- reading that ended in a fault: nothing else has changed -/
theorem hed_bad {Sx Sm X M : zS} (h : zRel Sx Sm) (hf : flt X M) (gx : gX Sx X) (gm : gMs Sm M) : zRel (zput X 0 1 0) M := by
  obtain ⟨⟨-, a1⟩, -, a3, a4, a5, a6, ⟨a7, a8⟩, st, pl, tp, pa, b1, b2, b3⟩ := h
  have x : ∀ k, k ≠ 0 → k ≠ 2 → (k < 21 ∨ 36 < k) → (zput X 0 1 0).1 k = Sx.1 k := fun k h0 h2 hk => by rw [zput1_ne _ _ _ _ _ h0]; exact gx.1 k h2 hk
  have x15 : (zput X 0 1 0).1 0 15 = Sx.1 0 15 := by
    show X.1 0 15 = _
    rw [gx.1 0 (by decide) (Or.inl (by decide))]
  have m : ∀ k, k ∉ gFr → M.1 k = Sm.1 k := gm.1
  have m0 : ∀ i, i ∈ gPs → M.1 0 i = Sm.1 0 i := gm.2.2
  obtain ⟨e, p, -, -, -, f1, f2, f3, f4⟩ := hf
  refine ⟨⟨⟨0, by omega, rfl, gm.2.1⟩, ?_⟩, ⟨f1.trans f2.symm, f3.trans f4.symm⟩, ?_, ?_, ?_, fun i hi => ?_, ⟨?_, gx.2.2 a8⟩, st, pl, tp, pa, ?_, ?_, ?_⟩
  · rw [x 1 (by decide) (by decide) (by decide), m 1 (by decide)]; exact a1
  · rw [x15, m0 60 (by decide), x 66 (by decide) (by decide) (by decide), m 23 (by decide)]; exact a3
  · rw [x 47 (by decide) (by decide) (by decide), x 48 (by decide) (by decide) (by decide), x 49 (by decide) (by decide) (by decide), x 50 (by decide) (by decide) (by decide), x 51 (by decide) (by decide) (by decide), m0 72 (by decide), m0 73 (by decide), m 28 (by decide), m 29 (by decide), m 30 (by decide), m 31 (by decide), m 32 (by decide)]; exact a4
  · rw [x 9 (by decide) (by decide) (by decide), x 10 (by decide) (by decide) (by decide), m0 21 (by decide), m0 18 (by decide), m0 52 (by decide), m 5 (by decide), m 6 (by decide)]; exact a5
  · show X.2 4 i = _
    rw [gx.2.1 i]; exact a6 i hi
  · rw [x 14 (by decide) (by decide) (by decide)]; exact a7
  · rw [x 5 (by decide) (by decide) (by decide), x 6 (by decide) (by decide) (by decide), x 7 (by decide) (by decide) (by decide), x 8 (by decide) (by decide) (by decide), m0 42 (by decide), m0 43 (by decide), m0 44 (by decide), m0 45 (by decide), m0 46 (by decide), m0 47 (by decide), m 11 (by decide), m 14 (by decide), m 15 (by decide), m 17 (by decide)]; exact b1
  · rw [x 37 (by decide) (by decide) (by decide), x 38 (by decide) (by decide) (by decide), x 39 (by decide) (by decide) (by decide), x 14 (by decide) (by decide) (by decide), x 15 (by decide) (by decide) (by decide), x 16 (by decide) (by decide) (by decide), x 17 (by decide) (by decide) (by decide), x 18 (by decide) (by decide) (by decide), x 19 (by decide) (by decide) (by decide), x 20 (by decide) (by decide) (by decide), x 43 (by decide) (by decide) (by decide), x 44 (by decide) (by decide) (by decide), m 19 (by decide), m 21 (by decide), m0 56 (by decide), m0 57 (by decide)]; exact b2
  · rw [x 45 (by decide) (by decide) (by decide), x 46 (by decide) (by decide) (by decide), m 36 (by decide), m 37 (by decide)]; exact b3
theorem nar01 (b : Bool) : vp_nar .boolean (if b = true then (1 : Int32) else 0) = if b = true then 1 else 0 := by cases b <;> rfl
theorem op_hedge : zStH zRel := by
  intro Sx Sm h
  obtain ⟨hT, -, -, hR, -, hz, ⟨hO1, hO2⟩, -⟩ := id h
  obtain ⟨n, cb, hn, ex, em, hcb⟩ := rT_cb hT
  rcases allC hn em hcb hz hO2 with ⟨X', M', q', st, pl, tp, bl, pa, ln, hb, g, f, d, y1, y2, hI, hc, gx, gm⟩ | ⟨X', M', y1, y2, hf, gx, gm⟩
  · right
    obtain ⟨⟨⟨l1, l2, l3, l4, l5, l6⟩, p1, p2, p3, p4, p5, p6, p7, p8, p9, p10⟩, ⟨fr1, fr2, fr3, fr4, fr5, fr6⟩, ⟨hd1, hd2, hd3, hd4⟩, ⟨-, -, -, -, lg, -, -⟩, -, ⟨hW, -⟩, ⟨hBl, hO30⟩, hFm0, hFm1⟩ := hI
    obtain ⟨-, -, c20, c21, c02, c03⟩ := hc
    -- the class
    obtain ⟨Ts, q1, kT, hord⟩ := sortX29 (S := X') hO30
    have ts : ∀ k, k ≠ 36 → Ts.1 k = X'.1 k := fun k hk => kT.2 k (by simp [hk])
    have sw : ∀ k, zpi k ≠ 0 → zpi k ≠ 36 → (zswap (zput Ts 0 1 0)).1 k = X'.1 (zpi k) := fun k h0 h1 => by
      show (zput Ts 0 1 0).1 (zpi k) = _
      rw [zput1_ne _ _ _ _ _ h0, ts _ h1]
    have s5 : (zswap (zput Ts 0 1 0)).1 5 = X'.1 21 := sw 5 (by decide) (by decide)
    have s6 : (zswap (zput Ts 0 1 0)).1 6 = X'.1 22 := sw 6 (by decide) (by decide)
    have s7 : (zswap (zput Ts 0 1 0)).1 7 = X'.1 23 := sw 7 (by decide) (by decide)
    have s8 : (zswap (zput Ts 0 1 0)).1 8 = X'.1 24 := sw 8 (by decide) (by decide)
    have s9 : (zswap (zput Ts 0 1 0)).1 9 = X'.1 25 := sw 9 (by decide) (by decide)
    have s10 : (zswap (zput Ts 0 1 0)).1 10 = X'.1 26 := sw 10 (by decide) (by decide)
    have s14 : (zswap (zput Ts 0 1 0)).1 14 = X'.1 30 := sw 14 (by decide) (by decide)
    have s15 : (zswap (zput Ts 0 1 0)).1 15 = X'.1 31 := sw 15 (by decide) (by decide)
    have s16 : (zswap (zput Ts 0 1 0)).1 16 = X'.1 32 := sw 16 (by decide) (by decide)
    have s17 : (zswap (zput Ts 0 1 0)).1 17 = X'.1 33 := sw 17 (by decide) (by decide)
    have s18 : (zswap (zput Ts 0 1 0)).1 18 = X'.1 34 := sw 18 (by decide) (by decide)
    have s19 : (zswap (zput Ts 0 1 0)).1 19 = X'.1 35 := sw 19 (by decide) (by decide)
    have s30 : (zswap (zput Ts 0 1 0)).1 30 = X'.1 14 := sw 30 (by decide) (by decide)
    have s1 : (zswap (zput Ts 0 1 0)).1 1 = X'.1 1 := sw 1 (by decide) (by decide)
    have s2 : (zswap (zput Ts 0 1 0)).1 2 = X'.1 2 := sw 2 (by decide) (by decide)
    have s47 : (zswap (zput Ts 0 1 0)).1 47 = X'.1 47 := sw 47 (by decide) (by decide)
    have s20 : (zswap (zput Ts 0 1 0)).1 20 = Ts.1 36 := zput1_ne Ts 0 1 36 0 (by decide)
    have s01 : (zswap (zput Ts 0 1 0)).1 0 1 = 0 := rfl
    have s24 : ∀ i, (zswap (zput Ts 0 1 0)).2 4 i = X'.2 4 i := fun i => by
      show Ts.2 4 i = _
      rw [kT.1]
    generalize hZ : zswap (zput Ts 0 1 0) = Z at *
    obtain ⟨T, t1, t2, tk', t0, t015, t370, t371, t372, t38, t430, t431, t432, t44, t45, t470, t471⟩ := hedX (S := Z) (c := bl) (by omega) (by rw [s5]; exact p9) (fun b hb => by
      obtain ⟨-, -, -, ⟨p, w1, w2, -⟩, -, -, -, -, -, w3, -⟩ := hBl b hb
      exact ⟨p, by omega, by rw [s15, w3]; exact w2⟩)
    -- the reference
    obtain ⟨c, hc3, e17⟩ : ∃ c : Nat, c ≤ 320 ∧ (if g then M'.1 0 17 else 0) = nI c := by
      cases g with
      | false => exact ⟨0, by omega, rfl⟩
      | true =>
        obtain ⟨-, -, -, len, un, w1, -, -, -, -, w2, -⟩ := hFm1 rfl
        exact ⟨len, by omega, w2⟩
    obtain ⟨U, u1, uk, ⟨u01, u02, u03, u42, u43, u44, u45, u46, u47, u21, u52, u18, u56, u57, u72, u60, u73⟩, u5, u11, u14, u19, u36⟩ := hedM (S := M') (bl := bl) hc3 l5 c02 p10 lg e17
    have u19b : ∀ b j, b < bl → j < 8 → U.1 19 (8 * b + j) = M'.1 18 (8 * b + j) := fun b j hb hj => by
      rw [u19 _ (by omega), if_neg (by omega), if_neg (by omega), if_pos (by omega)]
    have u19c : ∀ b, b < bl → U.1 19 (8 * b) = M'.1 18 (8 * b) := fun b hb => u19b b 0 hb (by omega)
    have u96 : U.1 19 96 = nI bl := by rw [u19 96 (by omega), if_neg (by omega), if_pos rfl]
    have u97 : U.1 19 97 = 0 := by rw [u19 97 (by omega), if_neg (by omega), if_neg (by omega), if_neg (by omega)]
    have u98 : U.1 19 98 = M'.1 0 41 := by rw [u19 98 (by omega), if_pos rfl]
    have hN : okN st pl tp bl (U.1 19) := by
      refine ⟨by omega, u96, ?_, by rw [u98]; exact fr6, fun b hb => ?_⟩
      · rw [u97]; exact ⟨0, by omega, by omega, rfl⟩
      · obtain ⟨w0, -, w2, ⟨p, w3, w3', -⟩, w4, w5, w6, w7, -⟩ := hBl b hb
        rw [u19c b hb, u19b b 2 hb (by omega), u19b b 3 hb (by omega), u19b b 4 hb (by omega), u19b b 5 hb (by omega), u19b b 6 hb (by omega), u19b b 7 hb (by omega)]
        exact ⟨w0, w2, ⟨p, w3, w3'⟩, w4, w5, w6, w7⟩
    have k14 : T.1 14 = X'.1 30 := by rw [tk' 14 (by decide), s14]
    have hB : rB bl (U.1 19) (T.1 14) (T.1 15) (T.1 16) (T.1 17) (T.1 18) (T.1 19) := by
      rw [k14, tk' 15 (by decide), tk' 16 (by decide), tk' 17 (by decide), tk' 18 (by decide), tk' 19 (by decide), s15, s16, s17, s18, s19]
      intro b hb
      obtain ⟨-, -, -, -, -, -, -, -, w⟩ := hBl b hb
      rw [u19b b 2 hb (by omega), u19b b 3 hb (by omega), u19b b 4 hb (by omega), u19b b 5 hb (by omega), u19b b 6 hb (by omega), u19b b 7 hb (by omega)]
      exact w
    have hG : gR bl (U.1 19) (T.1 37) (T.1 38) (T.1 39) := by
      refine ⟨t370, by rw [t371, u97], ?_, fun b hb => ?_⟩
      · rw [t372, u98, s5]; exact fr5
      · obtain ⟨⟨p, v1, v2, v3⟩, v4⟩ := t38 b hb
        obtain ⟨-, w1, -, ⟨p', w3, w3', w3''⟩, -, -, -, -, -, w4, -⟩ := hBl b hb
        have hpp : p = p' := (nI_eq (by omega) (by omega)).mp (by rw [← v2, s15, w4]; exact w3')
        subst hpp
        rw [u19c b hb, u19b b 1 hb (by omega), v3, v4, w1, s6, w3'']
        exact ⟨(hd4 p w3).2, rfl⟩
    refine ⟨1, Ts, nI bl, T, U, ?_, by decide, by rw [hZ]; exact t1, ?_, ?_⟩
    · rw [ex, y1]
      unfold f_X7_readAll_2_21_B95
      rw [q1, zu_def]
    · unfold f_X12_hedge
      rw [y2, zu_def]
      exact u1
    · refine ⟨⟨⟨0, by omega, ?_, ?_⟩, ?_⟩, ⟨?_, ?_⟩, ⟨0, by omega, t015, u60, fun i hi => absurd hi (by omega)⟩, ?_, ?_, fun i hi => ?_, ⟨?_, ?_⟩, st, pl, tp, pa, ?_, ?_, ?_⟩
      · rw [t0 1 (by decide)]; exact s01
      · rw [u01]; exact gm.2.1
      · rw [tk' 1 (by decide), s1, gx.1 1 (by decide) (by decide), uk 1 (by decide), gm.1 1 (by decide)]
        exact hT.2
      · rw [tk' 2 (by decide), s2, u02, c20, c02]
      · rw [tk' 2 (by decide), s2, u03, c21, c03]
      · obtain ⟨⟨t, r1, r2, r3⟩, -⟩ := hR
        refine ⟨⟨t, r1, ?_, ?_⟩, 0, by omega, t470, u72, fun i hi => absurd hi (by omega)⟩
        · rw [t471, s47, gx.1 47 (by decide) (by decide)]; exact r2
        · rw [u73, gm.2.2 73 (by decide)]; exact r3
      · rw [tk' 9 (by decide), tk' 10 (by decide), s9, s10, u21, u18, u52, lg]
        cases g with
        | false =>
          obtain ⟨w1, w2, w3⟩ := hFm0 rfl
          rw [w1, w2, w3, ← e17]
          exact ⟨0, 0, by omega, by omega, rfl, rfl, rfl, rfl, rfl, fun z => absurd rfl z, fun i hi => absurd hi (by omega)⟩
        | true =>
          obtain ⟨len, -, -, w⟩ := hFm1 rfl
          rw [← e17]
          refine rFm_congr w fun i c' hc' hc2 hi => ?_
          have hcc : c = c' := (nI_eq (by omega) (by omega)).mp (e17.symm.trans hc')
          exact u5 i (by omega)
      · rw [t2, s24, gx.2.1 i]; exact hz i hi
      · rw [k14]; exact hO30
      · rw [tk' 30 (by decide), s30, gx.1 14 (by decide) (by decide)]; exact hO1
      · rw [tk' 5 (by decide), tk' 6 (by decide), tk' 7 (by decide), tk' 8 (by decide), s5, s6, s7, s8, u42, u43, u44, u45, u46, u47]
        have h16 : hb < 16 := Nat.lt_of_lt_of_le hd1 (show 2 ^ pl ≤ 2 ^ 4 from Nat.pow_le_pow_right (by omega) l3)
        refine ⟨l1, l2, l3, l4, l6, p1, p2, p3, p4, p5, p6, p7, p8, fr2, fr1, fr4, fr3, ⟨hb, h16, hd2, fun p hp => ?_⟩, fun p hp => ?_, fun p t hp ht => ?_⟩
        · rw [(u11 p (by omega)).2, hd3 p hp, nar01]
        · rw [(u11 p (by omega)).1]; exact hd4 p hp
        · rw [(u14 (4 * p + t) (by omega)).1, (u14 (4 * p + t) (by omega)).2]
          exact hW p t hp (by omega)
      · rw [u56, u57]
        refine rA_0 hN hB hG t430 t431 t432 t44 (Or.inl fun i hi => ?_)
        rw [k14, tk' 20 (by decide), s20]
        exact hord i hi
      · refine ⟨0, by omega, t45, fun k hk => ⟨?_, fun z => absurd z (by simp)⟩⟩
        rw [u36 k hk]; simp
  · left
    refine ⟨-1, zput X' 0 1 0, M', ?_, ?_, hed_bad h hf gx gm⟩
    · unfold f_X11_hedge
      rw [ex, y1, zb_def, zlet_def, if_pos rfl]
    · unfold f_X12_hedge
      rw [y2, zu_def, if_pos (flt_pos hf).1]
