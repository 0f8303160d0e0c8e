def f_X10_bestFrom_63_5_B107 (F : Int32 → Int32 → zS → Option (Int32 × zS)) (K28 : Int32 → Int32 → Int32 → Int32 → Int32 → zS → Option (Int32 × zS)) (x2 : Int32) (x3 : Int32) (x6 : Int32) (x8 : Int32) (x9 : Int32) (S : zS) : Option (Int32 × zS) :=
  zlet (x8 ||| ((x6 + 1) <<< ((x2 * 4) &&& 31))) fun v1 =>
  zlet (x6 + 1) fun v2 =>
  K28 x2 x3 v1 x9 v2 S
def f_X10_bestFrom_63_5_B68 (F : Int32 → Int32 → zS → Option (Int32 × zS)) (K28 : Int32 → Int32 → Int32 → Int32 → Int32 → zS → Option (Int32 × zS)) (x2 : Int32) (x3 : Int32) (x4 : Int32) (x5 : Int32) (x6 : Int32) (s0 : Int32) (S : zS) : Option (Int32 × zS) :=
  zb (F (x2 + 1) s0 S) fun r3 T2 =>
  zb (f_X10_joyAfter_63_5 x2 s0 r3 T2) fun r6 T5 =>
  if x6 = (-1) then
    f_X10_bestFrom_63_5_B107 F K28 x2 x3 x6 r3 r6 T5
  else
    if x5 < r6 then
      f_X10_bestFrom_63_5_B107 F K28 x2 x3 x6 r3 r6 T5
    else
      zlet (x6 + 1) fun v9 =>
      K28 x2 x3 x4 x5 v9 T5
def f_X10_bestFrom_63_5_B50 (F : Int32 → Int32 → zS → Option (Int32 × zS)) (K28 : Int32 → Int32 → Int32 → Int32 → Int32 → zS → Option (Int32 × zS)) (x2 : Int32) (x3 : Int32) (x4 : Int32) (x5 : Int32) (x6 : Int32) (S : zS) : Option (Int32 × zS) :=
  if x6 = (-1) then
    f_X10_bestFrom_63_5_B68 F K28 x2 x3 x4 x5 x6 x3 S
  else
    f_X10_bestFrom_63_5_B68 F K28 x2 x3 x4 x5 x6 (x3 &&& ((1 <<< (x6 &&& 31)) ^^^ (-1))) S
def f_X10_bestFrom_63_5_L28 (F : Int32 → Int32 → zS → Option (Int32 × zS)) : Nat → Int32 → Int32 → Int32 → Int32 → Int32 → zS → Option (Int32 × zS)
  | 0, _, _, _, _, _, _ => none
  | n + 1, x2, x3, x4, x5, x6, S =>
    if x6 < 12 then
      if x6 = (-1) then
        f_X10_bestFrom_63_5_B50 F (f_X10_bestFrom_63_5_L28 F n) x2 x3 x4 x5 x6 S
      else
        if ((x3 >>> (x6 &&& 31)) &&& 1) = 0 then
          zlet (x6 + 1) fun v4 =>
          (f_X10_bestFrom_63_5_L28 F n) x2 x3 x4 x5 v4 S
        else
          f_X10_bestFrom_63_5_B50 F (f_X10_bestFrom_63_5_L28 F n) x2 x3 x4 x5 x6 S
    else
      some (x4, S)
def fb_X10_bestFrom_63_5 (F : Int32 → Int32 → zS → Option (Int32 × zS)) (x2 : Int32) (x3 : Int32) (S : zS) : Option (Int32 × zS) :=
  if x2 < 0 then
    some (0, S)
  else
    if x2 < (S.1 5 3) then
      if x2 < 3 then
        f_X10_bestFrom_63_5_L28 F zN x2 x3 0 0 (-1) S
      else
        some (0, S)
    else
      some (0, S)
set_option maxRecDepth 100000 in
theorem w_X10_bestFrom_63_5_B107 (l : Launch) {kF : Nat} (hkF : 4 ≤ kF) {F : Int32 → Int32 → zS → Option (Int32 × zS)} (hF : ∀ (x2 : Int32) (x3 : Int32) (S : zS) (r : Int32) (S1 : zS), F x2 x3 S = some (r, S1) → zMet zLX l yX10_bestFrom cX10_bestFrom 10 (some .int) kF [.ref 63, .ref 5, .int x2, .int x3] S (some (.int r)) S1) {r : Int32} {S1 : zS} (K28 : Int32 → Int32 → Int32 → Int32 → Int32 → zS → Option (Int32 × zS)) (hK28 : ∀ (x2 : Int32) (x3 : Int32) (x4 : Int32) (x5 : Int32) (x6 : Int32) (S : zS), K28 x2 x3 x4 x5 x6 S = some (r, S1) → WA zLX l RX10 cX10_bestFrom 10 (some .int) (kF + 1) (some (.int r)) S1 28 [(0, .ref 63), (1, .ref 5), (2, .int x2), (3, .int x3), (4, .int x4), (5, .int x5), (6, .int x6)] [] S) (x2 : Int32) (x3 : Int32) (x6 : Int32) (x8 : Int32) (x9 : Int32) (S : zS) (h : f_X10_bestFrom_63_5_B107 F K28 x2 x3 x6 x8 x9 S = some (r, S1)) : WA zLX l RX10 cX10_bestFrom 10 (some .int) (kF + 1) (some (.int r)) S1 107 [(0, .ref 63), (1, .ref 5), (2, .int x2), (3, .int x3), (6, .int x6), (8, .int x8), (9, .int x9)] [] S := by
  unfold f_X10_bestFrom_63_5_B107 at h
  refine z_iload (pc := 107) (q := 5) dX10_bestFrom_107 rfl ?_
  refine z_iload (pc := 109) (q := 4) dX10_bestFrom_109 rfl ?_
  refine z_iconst (pc := 111) (v := 1) dX10_bestFrom_111 zci_1 ?_
  refine z_iadd (pc := 112) dX10_bestFrom_112 ?_
  refine z_iload_n (pc := 113) (q := 2) dX10_bestFrom_113 rfl rfl ?_
  refine z_iconst (pc := 114) (v := 4) dX10_bestFrom_114 zci_4 ?_
  refine z_imul (pc := 115) dX10_bestFrom_115 ?_
  refine z_ishl (pc := 116) dX10_bestFrom_116 ?_
  refine z_ior (pc := 117) dX10_bestFrom_117 ?_
  obtain ⟨v1, ev1, h⟩ := zl_some h
  refine z_top ev1 ?_
  refine z_istore (pc := 118) (lo' := [(4, .int v1), (0, .ref 63), (1, .ref 5), (2, .int x2), (3, .int x3), (6, .int x6), (8, .int x8), (9, .int x9)]) dX10_bestFrom_118 (by decide) rfl ?_
  refine z_iload (pc := 120) (q := 7) dX10_bestFrom_120 rfl ?_
  refine z_istore (pc := 122) (lo' := [(5, .int x9), (4, .int v1), (0, .ref 63), (1, .ref 5), (2, .int x2), (3, .int x3), (6, .int x6), (8, .int x8), (9, .int x9)]) dX10_bestFrom_122 (by decide) rfl ?_
  obtain ⟨v2, ev2, h⟩ := zl_some h
  refine z_iinc (pc := 124) (q := 6) (v := v2) (lo' := [(6, .int v2), (5, .int x9), (4, .int v1), (0, .ref 63), (1, .ref 5), (2, .int x2), (3, .int x3), (8, .int x8), (9, .int x9)]) dX10_bestFrom_124 rfl (by rw [ev2, zci_1]) (by decide) rfl ?_
  refine z_goto (pc := 127) (tgt := 28) dX10_bestFrom_127 (by decide) ?_
  exact z_sub [3, 4, 5, 6, 2, 1, 0] rfl (hK28 x2 x3 v1 x9 v2 S h)
set_option maxRecDepth 100000 in
theorem w_X10_bestFrom_63_5_B68 (l : Launch) {kF : Nat} (hkF : 4 ≤ kF) {F : Int32 → Int32 → zS → Option (Int32 × zS)} (hF : ∀ (x2 : Int32) (x3 : Int32) (S : zS) (r : Int32) (S1 : zS), F x2 x3 S = some (r, S1) → zMet zLX l yX10_bestFrom cX10_bestFrom 10 (some .int) kF [.ref 63, .ref 5, .int x2, .int x3] S (some (.int r)) S1) {r : Int32} {S1 : zS} (K28 : Int32 → Int32 → Int32 → Int32 → Int32 → zS → Option (Int32 × zS)) (hK28 : ∀ (x2 : Int32) (x3 : Int32) (x4 : Int32) (x5 : Int32) (x6 : Int32) (S : zS), K28 x2 x3 x4 x5 x6 S = some (r, S1) → WA zLX l RX10 cX10_bestFrom 10 (some .int) (kF + 1) (some (.int r)) S1 28 [(0, .ref 63), (1, .ref 5), (2, .int x2), (3, .int x3), (4, .int x4), (5, .int x5), (6, .int x6)] [] S) (x2 : Int32) (x3 : Int32) (x4 : Int32) (x5 : Int32) (x6 : Int32) (s0 : Int32) (S : zS) (h : f_X10_bestFrom_63_5_B68 F K28 x2 x3 x4 x5 x6 s0 S = some (r, S1)) : WA zLX l RX10 cX10_bestFrom 10 (some .int) (kF + 1) (some (.int r)) S1 68 [(0, .ref 63), (1, .ref 5), (2, .int x2), (3, .int x3), (4, .int x4), (5, .int x5), (6, .int x6)] [.int s0] S := by
  unfold f_X10_bestFrom_63_5_B68 at h
  refine z_istore (pc := 68) (lo' := [(7, .int s0), (0, .ref 63), (1, .ref 5), (2, .int x2), (3, .int x3), (4, .int x4), (5, .int x5), (6, .int x6)]) dX10_bestFrom_68 (by decide) rfl ?_
  refine z_aload_n (pc := 70) (q := 1) dX10_bestFrom_70 rfl rfl ?_
  refine z_aload_n (pc := 71) (q := 2) dX10_bestFrom_71 rfl rfl ?_
  refine z_iload_n (pc := 72) (q := 3) dX10_bestFrom_72 rfl rfl ?_
  refine z_iconst (pc := 73) (v := 1) dX10_bestFrom_73 zci_1 ?_
  refine z_iadd (pc := 74) dX10_bestFrom_74 ?_
  refine z_iload (pc := 75) (q := 0) dX10_bestFrom_75 rfl ?_
  obtain ⟨r3, T2, q1, h⟩ := zb_some h
  refine z_callVi (pc := 77) (st := []) [.ref 5, .int (x2 + 1), .int s0] dX10_bestFrom_77 zm_X10_15 zM_X10_bestFrom (by omega) oX_63 rfl (hF (x2 + 1) s0 _ _ _ q1) rfl rfl (Nat.le_of_ble_eq_true rfl) ?_
  refine z_istore (pc := 80) (lo' := [(8, .int r3), (7, .int s0), (0, .ref 63), (1, .ref 5), (2, .int x2), (3, .int x3), (4, .int x4), (5, .int x5), (6, .int x6)]) dX10_bestFrom_80 (by decide) rfl ?_
  refine z_aload_n (pc := 82) (q := 2) dX10_bestFrom_82 rfl rfl ?_
  refine z_aload_n (pc := 83) (q := 3) dX10_bestFrom_83 rfl rfl ?_
  refine z_iload_n (pc := 84) (q := 4) dX10_bestFrom_84 rfl rfl ?_
  refine z_iload (pc := 85) (q := 1) dX10_bestFrom_85 rfl ?_
  refine z_iload (pc := 87) (q := 0) dX10_bestFrom_87 rfl ?_
  obtain ⟨r6, T5, q4, h⟩ := zb_some h
  refine z_callVi (pc := 89) (st := []) [.ref 5, .int x2, .int s0, .int r3] dX10_bestFrom_89 zm_X10_25 zM_X10_joyAfter (by omega) oX_63 rfl (w_X10_joyAfter_63_5 l q4) rfl rfl (Nat.le_of_ble_eq_true rfl) ?_
  refine z_istore (pc := 92) (lo' := [(9, .int r6), (8, .int r3), (7, .int s0), (0, .ref 63), (1, .ref 5), (2, .int x2), (3, .int x3), (4, .int x4), (5, .int x5), (6, .int x6)]) dX10_bestFrom_92 (by decide) rfl ?_
  refine z_iload (pc := 94) (q := 9) dX10_bestFrom_94 rfl ?_
  refine z_iconst (pc := 96) (v := (-1)) dX10_bestFrom_96 zci_m1 ?_
  refine z_icmp_eq (pc := 97) (tgt := 107) dX10_bestFrom_97 (by decide) (fun c7 => ?_) (fun c7 => ?_)
  · have h := zt_some c7 h
    exact z_sub [3, 4, 5, 6, 9, 1, 0] rfl (w_X10_bestFrom_63_5_B107 l hkF hF K28 hK28 x2 x3 x6 r3 r6 T5 h)
  · have h := ze_some c7 h
    refine z_iload (pc := 100) (q := 0) dX10_bestFrom_100 rfl ?_
    refine z_iload (pc := 102) (q := 8) dX10_bestFrom_102 rfl ?_
    refine z_icmp_le (pc := 104) (tgt := 124) dX10_bestFrom_104 (by decide) (fun c8 => ?_) (fun c8 => ?_)
    · have h := ze_some c8 h
      obtain ⟨v9, ev9, h⟩ := zl_some h
      refine z_iinc (pc := 124) (q := 9) (v := v9) (lo' := [(6, .int v9), (9, .int r6), (8, .int r3), (7, .int s0), (0, .ref 63), (1, .ref 5), (2, .int x2), (3, .int x3), (4, .int x4), (5, .int x5)]) dX10_bestFrom_124 rfl (by rw [ev9, zci_1]) (by decide) rfl ?_
      refine z_goto (pc := 127) (tgt := 28) dX10_bestFrom_127 (by decide) ?_
      exact z_sub [4, 5, 6, 7, 8, 9, 0] rfl (hK28 x2 x3 x4 x5 v9 T5 h)
    · have h := zt_some c8 h
      exact z_sub [3, 4, 5, 6, 9, 1, 0] rfl (w_X10_bestFrom_63_5_B107 l hkF hF K28 hK28 x2 x3 x6 r3 r6 T5 h)
set_option maxRecDepth 100000 in
theorem w_X10_bestFrom_63_5_B50 (l : Launch) {kF : Nat} (hkF : 4 ≤ kF) {F : Int32 → Int32 → zS → Option (Int32 × zS)} (hF : ∀ (x2 : Int32) (x3 : Int32) (S : zS) (r : Int32) (S1 : zS), F x2 x3 S = some (r, S1) → zMet zLX l yX10_bestFrom cX10_bestFrom 10 (some .int) kF [.ref 63, .ref 5, .int x2, .int x3] S (some (.int r)) S1) {r : Int32} {S1 : zS} (K28 : Int32 → Int32 → Int32 → Int32 → Int32 → zS → Option (Int32 × zS)) (hK28 : ∀ (x2 : Int32) (x3 : Int32) (x4 : Int32) (x5 : Int32) (x6 : Int32) (S : zS), K28 x2 x3 x4 x5 x6 S = some (r, S1) → WA zLX l RX10 cX10_bestFrom 10 (some .int) (kF + 1) (some (.int r)) S1 28 [(0, .ref 63), (1, .ref 5), (2, .int x2), (3, .int x3), (4, .int x4), (5, .int x5), (6, .int x6)] [] S) (x2 : Int32) (x3 : Int32) (x4 : Int32) (x5 : Int32) (x6 : Int32) (S : zS) (h : f_X10_bestFrom_63_5_B50 F K28 x2 x3 x4 x5 x6 S = some (r, S1)) : WA zLX l RX10 cX10_bestFrom 10 (some .int) (kF + 1) (some (.int r)) S1 50 [(0, .ref 63), (1, .ref 5), (2, .int x2), (3, .int x3), (4, .int x4), (5, .int x5), (6, .int x6)] [] S := by
  unfold f_X10_bestFrom_63_5_B50 at h
  refine z_iload (pc := 50) (q := 6) dX10_bestFrom_50 rfl ?_
  refine z_iconst (pc := 52) (v := (-1)) dX10_bestFrom_52 zci_m1 ?_
  refine z_icmp_ne (pc := 53) (tgt := 60) dX10_bestFrom_53 (by decide) (fun c1 => ?_) (fun c1 => ?_)
  · have h := ze_some c1 h
    refine z_iload_n (pc := 60) (q := 3) dX10_bestFrom_60 rfl rfl ?_
    refine z_iconst (pc := 61) (v := 1) dX10_bestFrom_61 zci_1 ?_
    refine z_iload (pc := 62) (q := 6) dX10_bestFrom_62 rfl ?_
    refine z_ishl (pc := 64) dX10_bestFrom_64 ?_
    refine z_iconst (pc := 65) (v := (-1)) dX10_bestFrom_65 zci_m1 ?_
    refine z_ixor (pc := 66) dX10_bestFrom_66 ?_
    refine z_iand (pc := 67) dX10_bestFrom_67 ?_
    exact w_X10_bestFrom_63_5_B68 l hkF hF K28 hK28 x2 x3 x4 x5 x6 (x3 &&& ((1 <<< (x6 &&& 31)) ^^^ (-1))) S h
  · have h := zt_some c1 h
    refine z_iload_n (pc := 56) (q := 3) dX10_bestFrom_56 rfl rfl ?_
    refine z_goto (pc := 57) (tgt := 68) dX10_bestFrom_57 (by decide) ?_
    exact w_X10_bestFrom_63_5_B68 l hkF hF K28 hK28 x2 x3 x4 x5 x6 x3 S h
set_option maxRecDepth 100000 in
theorem w_X10_bestFrom_63_5_L28 (l : Launch) {kF : Nat} (hkF : 4 ≤ kF) {F : Int32 → Int32 → zS → Option (Int32 × zS)} (hF : ∀ (x2 : Int32) (x3 : Int32) (S : zS) (r : Int32) (S1 : zS), F x2 x3 S = some (r, S1) → zMet zLX l yX10_bestFrom cX10_bestFrom 10 (some .int) kF [.ref 63, .ref 5, .int x2, .int x3] S (some (.int r)) S1) {r : Int32} {S1 : zS} : ∀ (n : Nat) (x2 : Int32) (x3 : Int32) (x4 : Int32) (x5 : Int32) (x6 : Int32) (S : zS), f_X10_bestFrom_63_5_L28 F n x2 x3 x4 x5 x6 S = some (r, S1) → WA zLX l RX10 cX10_bestFrom 10 (some .int) (kF + 1) (some (.int r)) S1 28 [(0, .ref 63), (1, .ref 5), (2, .int x2), (3, .int x3), (4, .int x4), (5, .int x5), (6, .int x6)] [] S := by
  intro n
  induction n with
  | zero =>
    intro x2 x3 x4 x5 x6 S h
    exact nomatch h
  | succ n ih =>
    intro x2 x3 x4 x5 x6 S h
    rw [f_X10_bestFrom_63_5_L28] at h
    refine z_iload (pc := 28) (q := 6) dX10_bestFrom_28 rfl ?_
    refine z_bipush (pc := 30) (v := 12) dX10_bestFrom_30 zcb_12 ?_
    refine z_icmp_ge (pc := 32) (tgt := 130) dX10_bestFrom_32 (by decide) (fun c1 => ?_) (fun c1 => ?_)
    · have h := ze_some c1 h
      refine z_iload (pc := 130) (q := 4) dX10_bestFrom_130 rfl ?_
      obtain ⟨rfl, rfl⟩ := zr_some h
      exact z_iret dX10_bestFrom_132
    · have h := zt_some c1 h
      refine z_iload (pc := 35) (q := 6) dX10_bestFrom_35 rfl ?_
      refine z_iconst (pc := 37) (v := (-1)) dX10_bestFrom_37 zci_m1 ?_
      refine z_icmp_eq (pc := 38) (tgt := 50) dX10_bestFrom_38 (by decide) (fun c2 => ?_) (fun c2 => ?_)
      · have h := zt_some c2 h
        exact w_X10_bestFrom_63_5_B50 l hkF hF (f_X10_bestFrom_63_5_L28 F n) ih x2 x3 x4 x5 x6 S h
      · have h := ze_some c2 h
        refine z_iload_n (pc := 41) (q := 3) dX10_bestFrom_41 rfl rfl ?_
        refine z_iload (pc := 42) (q := 6) dX10_bestFrom_42 rfl ?_
        refine z_ishr (pc := 44) dX10_bestFrom_44 ?_
        refine z_iconst (pc := 45) (v := 1) dX10_bestFrom_45 zci_1 ?_
        refine z_iand (pc := 46) dX10_bestFrom_46 ?_
        refine z_if_eq (pc := 47) (tgt := 124) dX10_bestFrom_47 (by decide) (fun c3 => ?_) (fun c3 => ?_)
        · have h := zt_some c3 h
          obtain ⟨v4, ev4, h⟩ := zl_some h
          refine z_iinc (pc := 124) (q := 6) (v := v4) (lo' := [(6, .int v4), (0, .ref 63), (1, .ref 5), (2, .int x2), (3, .int x3), (4, .int x4), (5, .int x5)]) dX10_bestFrom_124 rfl (by rw [ev4, zci_1]) (by decide) rfl ?_
          refine z_goto (pc := 127) (tgt := 28) dX10_bestFrom_127 (by decide) ?_
          exact z_sub [1, 2, 3, 4, 5, 6, 0] rfl (ih x2 x3 x4 x5 v4 S h)
        · have h := ze_some c3 h
          exact w_X10_bestFrom_63_5_B50 l hkF hF (f_X10_bestFrom_63_5_L28 F n) ih x2 x3 x4 x5 x6 S h
set_option maxRecDepth 100000 in
theorem wb_X10_bestFrom_63_5 (l : Launch) {kF : Nat} (hkF : 4 ≤ kF) {F : Int32 → Int32 → zS → Option (Int32 × zS)} (hF : ∀ (x2 : Int32) (x3 : Int32) (S : zS) (r : Int32) (S1 : zS), F x2 x3 S = some (r, S1) → zMet zLX l yX10_bestFrom cX10_bestFrom 10 (some .int) kF [.ref 63, .ref 5, .int x2, .int x3] S (some (.int r)) S1) {x2 : Int32} {x3 : Int32} {S : zS} {r : Int32} {S1 : zS} (h : fb_X10_bestFrom_63_5 F x2 x3 S = some (r, S1)) : zMet zLX l yX10_bestFrom cX10_bestFrom 10 (some .int) (kF + 1) [.ref 63, .ref 5, .int x2, .int x3] S (some (.int r)) S1 := by
  unfold fb_X10_bestFrom_63_5 at h
  refine zMet.of (by decide +kernel) (Nat.le_of_ble_eq_true rfl) ?_
  show WA zLX l RX10 cX10_bestFrom 10 (some .int) (kF + 1) (some (.int r)) S1 0 [(0, .ref 63), (1, .ref 5), (2, .int x2), (3, .int x3)] [] S
  refine z_iload_n (pc := 0) (q := 2) dX10_bestFrom_0 rfl rfl ?_
  refine z_if_lt (pc := 1) (tgt := 17) dX10_bestFrom_1 (by decide) (fun c1 => ?_) (fun c1 => ?_)
  · have h := zt_some c1 h
    refine z_iconst (pc := 17) (v := 0) dX10_bestFrom_17 zci_0 ?_
    obtain ⟨rfl, rfl⟩ := zr_some h
    exact z_iret dX10_bestFrom_18
  · have h := ze_some c1 h
    refine z_iload_n (pc := 4) (q := 2) dX10_bestFrom_4 rfl rfl ?_
    refine z_aload_n (pc := 5) (q := 1) dX10_bestFrom_5 rfl rfl ?_
    refine z_getI (pc := 6) dX10_bestFrom_6 zf_X10_19 gX_5_3 ?_
    refine z_icmp_ge (pc := 9) (tgt := 17) dX10_bestFrom_9 (by decide) (fun c2 => ?_) (fun c2 => ?_)
    · have h := ze_some c2 h
      refine z_iconst (pc := 17) (v := 0) dX10_bestFrom_17 zci_0 ?_
      obtain ⟨rfl, rfl⟩ := zr_some h
      exact z_iret dX10_bestFrom_18
    · have h := zt_some c2 h
      refine z_iload_n (pc := 12) (q := 2) dX10_bestFrom_12 rfl rfl ?_
      refine z_iconst (pc := 13) (v := 3) dX10_bestFrom_13 zci_3 ?_
      refine z_icmp_lt (pc := 14) (tgt := 19) dX10_bestFrom_14 (by decide) (fun c3 => ?_) (fun c3 => ?_)
      · have h := zt_some c3 h
        refine z_iconst (pc := 19) (v := 0) dX10_bestFrom_19 zci_0 ?_
        refine z_istore (pc := 20) (lo' := [(4, .int 0), (0, .ref 63), (1, .ref 5), (2, .int x2), (3, .int x3)]) dX10_bestFrom_20 (by decide) rfl ?_
        refine z_iconst (pc := 22) (v := 0) dX10_bestFrom_22 zci_0 ?_
        refine z_istore (pc := 23) (lo' := [(5, .int 0), (4, .int 0), (0, .ref 63), (1, .ref 5), (2, .int x2), (3, .int x3)]) dX10_bestFrom_23 (by decide) rfl ?_
        refine z_iconst (pc := 25) (v := (-1)) dX10_bestFrom_25 zci_m1 ?_
        refine z_istore (pc := 26) (lo' := [(6, .int (-1)), (5, .int 0), (4, .int 0), (0, .ref 63), (1, .ref 5), (2, .int x2), (3, .int x3)]) dX10_bestFrom_26 (by decide) rfl ?_
        exact z_sub [3, 4, 5, 6, 2, 1, 0] rfl (w_X10_bestFrom_63_5_L28 l hkF hF zN x2 x3 0 0 (-1) S h)
      · have h := ze_some c3 h
        refine z_iconst (pc := 17) (v := 0) dX10_bestFrom_17 zci_0 ?_
        obtain ⟨rfl, rfl⟩ := zr_some h
        exact z_iret dX10_bestFrom_18
def f_X10_bestFrom_63_5 : Nat → Int32 → Int32 → zS → Option (Int32 × zS)
  | 0, _, _, _ => none
  | d + 1, x2, x3, S => fb_X10_bestFrom_63_5 (f_X10_bestFrom_63_5 d) x2 x3 S
theorem wd_X10_bestFrom_63_5 (l : Launch) : ∀ (d : Nat) (x2 : Int32) (x3 : Int32) (S : zS) (r : Int32) (S1 : zS), f_X10_bestFrom_63_5 d x2 x3 S = some (r, S1) → zMet zLX l yX10_bestFrom cX10_bestFrom 10 (some .int) (4 + 1 * d) [.ref 63, .ref 5, .int x2, .int x3] S (some (.int r)) S1 := by
  intro d
  induction d with
  | zero =>
    intro x2 x3 S r S1 h
    exact nomatch h
  | succ d ih =>
    intro x2 x3 S r S1 h
    rw [f_X10_bestFrom_63_5] at h
    exact wb_X10_bestFrom_63_5 l (kF := 4 + 1 * d) (by omega) ih h
theorem w_X10_bestFrom_63_5 (l : Launch) (d : Nat) {x2 : Int32} {x3 : Int32} {S : zS} {r : Int32} {S1 : zS} (h : f_X10_bestFrom_63_5 d x2 x3 S = some (r, S1)) : zMet zLX l yX10_bestFrom cX10_bestFrom 10 (some .int) (4 + 1 * d) [.ref 63, .ref 5, .int x2, .int x3] S (some (.int r)) S1 := wd_X10_bestFrom_63_5 l d x2 x3 S r S1 h
def f_X10_best_63_5 (x2 : Int32) (S : zS) : Option (Int32 × zS) :=
  zb (f_X10_bestFrom_63_5 5 0 x2 S) fun r3 T2 =>
  some (r3, T2)
set_option maxRecDepth 100000 in
theorem w_X10_best_63_5 (l : Launch) {x2 : Int32} {S : zS} {r : Int32} {S1 : zS} (h : f_X10_best_63_5 x2 S = some (r, S1)) : zMet zLX l yX10_best cX10_best 3 (some .int) 10 [.ref 63, .ref 5, .int x2] S (some (.int r)) S1 := by
  unfold f_X10_best_63_5 at h
  refine zMet.of (by decide +kernel) (Nat.le_of_ble_eq_true rfl) ?_
  show WA zLX l RX10 cX10_best 3 (some .int) 10 (some (.int r)) S1 0 [(0, .ref 63), (1, .ref 5), (2, .int x2)] [] S
  refine z_aload_n (pc := 0) (q := 0) dX10_best_0 rfl rfl ?_
  refine z_aload_n (pc := 1) (q := 1) dX10_best_1 rfl rfl ?_
  refine z_iconst (pc := 2) (v := 0) dX10_best_2 zci_0 ?_
  refine z_iload_n (pc := 3) (q := 2) dX10_best_3 rfl rfl ?_
  obtain ⟨r3, T2, q1, h⟩ := zb_some h
  refine z_callVi (pc := 4) (st := []) [.ref 5, .int 0, .int x2] dX10_best_4 zm_X10_15 zM_X10_bestFrom (by decide) oX_63 rfl (w_X10_bestFrom_63_5 l 5 q1) rfl rfl (Nat.le_of_ble_eq_true rfl) ?_
  obtain ⟨rfl, rfl⟩ := zr_some h
  exact z_iret dX10_best_7
def f_X11_game_L28 : Nat → Int32 → Int32 → Int32 → zS → Option (Int32 × zS)
  | 0, _, _, _, _ => none
  | n + 1, x1, x2, x3, S =>
    if x3 < (S.1 5 3) then
      zb (f_X10_pickOf_63 x1 x3 S) fun r4 T3 =>
      zu (f_X11_layDown r4 T3) fun T6 =>
      if r4 = (-1) then
        zlet (x2 + 0) fun v8 =>
        zlet (x3 + 1) fun v9 =>
        (f_X11_game_L28 n) x1 v8 v9 T6
      else
        zlet (x2 + 1) fun v8 =>
        zlet (x3 + 1) fun v9 =>
        (f_X11_game_L28 n) x1 v8 v9 T6
    else
      some (x2, S)
def f_X11_game  (S : zS) : Option (Int32 × zS) :=
  zlet (zput S 0 15 0) fun T1 =>
  zb (f_X3_livingBits_37 T1) fun r4 T3 =>
  zb (f_X10_best_63_5 r4 T3) fun r7 T6 =>
  f_X11_game_L28 zN r7 0 0 T6
set_option maxRecDepth 100000 in
theorem w_X11_game_L28 (l : Launch) {r : Int32} {S1 : zS} : ∀ (n : Nat) (x1 : Int32) (x2 : Int32) (x3 : Int32) (S : zS), f_X11_game_L28 n x1 x2 x3 S = some (r, S1) → WA zLX l RX11 cX11_game 5 (some .int) 11 (some (.int r)) S1 28 [(0, .ref 0), (1, .int x1), (2, .int x2), (3, .int x3)] [] S := by
  intro n
  induction n with
  | zero =>
    intro x1 x2 x3 S h
    exact nomatch h
  | succ n ih =>
    intro x1 x2 x3 S h
    rw [f_X11_game_L28] at h
    refine z_iload_n (pc := 28) (q := 3) dX11_game_28 rfl rfl ?_
    refine z_aload_n (pc := 29) (q := 0) dX11_game_29 rfl rfl ?_
    refine z_getR (pc := 30) dX11_game_30 zf_X11_25 gX_0_3 ?_
    refine z_getI (pc := 33) dX11_game_33 zf_X11_288 gX_5_3 ?_
    refine z_icmp_ge (pc := 36) (tgt := 76) dX11_game_36 (by decide) (fun c1 => ?_) (fun c1 => ?_)
    · have h := ze_some c1 h
      refine z_iload_n (pc := 76) (q := 2) dX11_game_76 rfl rfl ?_
      obtain ⟨rfl, rfl⟩ := zr_some h
      exact z_iret dX11_game_77
    · have h := zt_some c1 h
      refine z_aload_n (pc := 39) (q := 0) dX11_game_39 rfl rfl ?_
      refine z_getR (pc := 40) dX11_game_40 zf_X11_80 gX_0_12 ?_
      refine z_iload_n (pc := 43) (q := 1) dX11_game_43 rfl rfl ?_
      refine z_iload_n (pc := 44) (q := 3) dX11_game_44 rfl rfl ?_
      obtain ⟨r4, T3, q2, h⟩ := zb_some h
      refine z_callVi (pc := 45) (st := []) [.int x1, .int x3] dX11_game_45 zm_X11_302 zM_X10_pickOf (by decide) oX_63 rfl (w_X10_pickOf_63 l q2) rfl rfl (Nat.le_of_ble_eq_true rfl) ?_
      refine z_istore (pc := 48) (lo' := [(4, .int r4), (0, .ref 0), (1, .int x1), (2, .int x2), (3, .int x3)]) dX11_game_48 (by decide) rfl ?_
      refine z_aload_n (pc := 50) (q := 1) dX11_game_50 rfl rfl ?_
      refine z_iload (pc := 51) (q := 0) dX11_game_51 rfl ?_
      obtain ⟨T6, q5, h⟩ := zu_some h
      refine z_callVv (pc := 53) (st := []) [.int r4] dX11_game_53 zm_X11_279 zM_X11_layDown (by decide) oX_0 rfl (w_X11_layDown l q5) rfl rfl (Nat.le_of_ble_eq_true rfl) ?_
      refine z_iload_n (pc := 56) (q := 3) dX11_game_56 rfl rfl ?_
      refine z_iload (pc := 57) (q := 0) dX11_game_57 rfl ?_
      refine z_iconst (pc := 59) (v := (-1)) dX11_game_59 zci_m1 ?_
      refine z_icmp_ne (pc := 60) (tgt := 67) dX11_game_60 (by decide) (fun c7 => ?_) (fun c7 => ?_)
      · have h := ze_some c7 h
        refine z_iconst (pc := 67) (v := 1) dX11_game_67 zci_1 ?_
        refine z_iadd (pc := 68) dX11_game_68 ?_
        obtain ⟨v8, ev8, h⟩ := zl_some h
        refine z_top ev8 ?_
        refine z_istore_n (pc := 69) (lo' := [(2, .int v8), (4, .int r4), (0, .ref 0), (1, .int x1), (3, .int x3)]) dX11_game_69 rfl (by decide) rfl ?_
        obtain ⟨v9, ev9, h⟩ := zl_some h
        refine z_iinc (pc := 70) (q := 4) (v := v9) (lo' := [(3, .int v9), (2, .int v8), (4, .int r4), (0, .ref 0), (1, .int x1)]) dX11_game_70 rfl (by rw [ev9, zci_1]) (by decide) rfl ?_
        refine z_goto (pc := 73) (tgt := 28) dX11_game_73 (by decide) ?_
        exact z_sub [3, 4, 1, 0] rfl (ih x1 v8 v9 T6 h)
      · have h := zt_some c7 h
        refine z_iconst (pc := 63) (v := 0) dX11_game_63 zci_0 ?_
        refine z_goto (pc := 64) (tgt := 68) dX11_game_64 (by decide) ?_
        refine z_iadd (pc := 68) dX11_game_68 ?_
        obtain ⟨v8, ev8, h⟩ := zl_some h
        refine z_top ev8 ?_
        refine z_istore_n (pc := 69) (lo' := [(2, .int v8), (4, .int r4), (0, .ref 0), (1, .int x1), (3, .int x3)]) dX11_game_69 rfl (by decide) rfl ?_
        obtain ⟨v9, ev9, h⟩ := zl_some h
        refine z_iinc (pc := 70) (q := 4) (v := v9) (lo' := [(3, .int v9), (2, .int v8), (4, .int r4), (0, .ref 0), (1, .int x1)]) dX11_game_70 rfl (by rw [ev9, zci_1]) (by decide) rfl ?_
        refine z_goto (pc := 73) (tgt := 28) dX11_game_73 (by decide) ?_
        exact z_sub [3, 4, 1, 0] rfl (ih x1 v8 v9 T6 h)
set_option maxRecDepth 100000 in
theorem w_X11_game (l : Launch)  {S : zS} {r : Int32} {S1 : zS} (h : f_X11_game S = some (r, S1)) : zMet zLX l yX11_game cX11_game 5 (some .int) 11 [.ref 0] S (some (.int r)) S1 := by
  unfold f_X11_game at h
  refine zMet.of (by decide +kernel) (Nat.le_of_ble_eq_true rfl) ?_
  show WA zLX l RX11 cX11_game 5 (some .int) 11 (some (.int r)) S1 0 [(0, .ref 0)] [] S
  refine z_aload_n (pc := 0) (q := 0) dX11_game_0 rfl rfl ?_
  refine z_iconst (pc := 1) (v := 0) dX11_game_1 zci_0 ?_
  obtain ⟨T1, eT1, h⟩ := zl_some h
  refine z_putI (pc := 2) dX11_game_2 zp_X11_115 gX_0_15 rfl rfl eT1 ?_
  refine z_aload_n (pc := 5) (q := 0) dX11_game_5 rfl rfl ?_
  refine z_getR (pc := 6) dX11_game_6 zf_X11_80 gX_0_12 ?_
  refine z_aload_n (pc := 9) (q := 0) dX11_game_9 rfl rfl ?_
  refine z_getR (pc := 10) dX11_game_10 zf_X11_25 gX_0_3 ?_
  refine z_aload_n (pc := 13) (q := 0) dX11_game_13 rfl rfl ?_
  refine z_getR (pc := 14) dX11_game_14 zf_X11_35 gX_0_5 ?_
  obtain ⟨r4, T3, q2, h⟩ := zb_some h
  refine z_callVi (pc := 17) (st := [.ref 5, .ref 63]) [] dX11_game_17 zm_X11_165 zM_X3_livingBits (by decide) oX_37 rfl (w_X3_livingBits_37 l q2) rfl rfl (Nat.le_of_ble_eq_true rfl) ?_
  obtain ⟨r7, T6, q5, h⟩ := zb_some h
  refine z_callVi (pc := 20) (st := []) [.ref 5, .int r4] dX11_game_20 zm_X11_299 zM_X10_best (by decide) oX_63 rfl (w_X10_best_63_5 l q5) rfl rfl (Nat.le_of_ble_eq_true rfl) ?_
  refine z_istore_n (pc := 23) (lo' := [(1, .int r7), (0, .ref 0)]) dX11_game_23 rfl (by decide) rfl ?_
  refine z_iconst (pc := 24) (v := 0) dX11_game_24 zci_0 ?_
  refine z_istore_n (pc := 25) (lo' := [(2, .int 0), (1, .int r7), (0, .ref 0)]) dX11_game_25 rfl (by decide) rfl ?_
  refine z_iconst (pc := 26) (v := 0) dX11_game_26 zci_0 ?_
  refine z_istore_n (pc := 27) (lo' := [(3, .int 0), (2, .int 0), (1, .int r7), (0, .ref 0)]) dX11_game_27 rfl (by decide) rfl ?_
  exact z_sub [3, 2, 1, 0] rfl (w_X11_game_L28 l zN r7 0 0 T6 h)
def f_X11_lies (x1 : Int32) (S : zS) : Option (Int32 × zS) :=
  if x1 < 0 then
    some ((-2), S)
  else
    if x1 < (S.1 0 15) then
      if x1 < 3 then
        if zin x1 3 then
        some (S.1 66 x1.toNatClampNeg, S) else none
      else
        some ((-2), S)
    else
      some ((-2), S)
set_option maxRecDepth 100000 in
theorem w_X11_lies (l : Launch) {x1 : Int32} {S : zS} {r : Int32} {S1 : zS} (h : f_X11_lies x1 S = some (r, S1)) : zMet zLX l yX11_lies cX11_lies 2 (some .int) 1 [.ref 0, .int x1] S (some (.int r)) S1 := by
  unfold f_X11_lies at h
  refine zMet.of (by decide +kernel) (Nat.le_of_ble_eq_true rfl) ?_
  show WA zLX l RX11 cX11_lies 2 (some .int) 1 (some (.int r)) S1 0 [(0, .ref 0), (1, .int x1)] [] S
  refine z_iload_n (pc := 0) (q := 1) dX11_lies_0 rfl rfl ?_
  refine z_if_lt (pc := 1) (tgt := 30) dX11_lies_1 (by decide) (fun c1 => ?_) (fun c1 => ?_)
  · have h := zt_some c1 h
    refine z_bipush (pc := 30) (v := (-2)) dX11_lies_30 zcb_m2 ?_
    obtain ⟨rfl, rfl⟩ := zr_some h
    exact z_iret dX11_lies_32
  · have h := ze_some c1 h
    refine z_iload_n (pc := 4) (q := 1) dX11_lies_4 rfl rfl ?_
    refine z_aload_n (pc := 5) (q := 0) dX11_lies_5 rfl rfl ?_
    refine z_getI (pc := 6) dX11_lies_6 zf_X11_115 gX_0_15 ?_
    refine z_icmp_ge (pc := 9) (tgt := 30) dX11_lies_9 (by decide) (fun c2 => ?_) (fun c2 => ?_)
    · have h := ze_some c2 h
      refine z_bipush (pc := 30) (v := (-2)) dX11_lies_30 zcb_m2 ?_
      obtain ⟨rfl, rfl⟩ := zr_some h
      exact z_iret dX11_lies_32
    · have h := zt_some c2 h
      refine z_iload_n (pc := 12) (q := 1) dX11_lies_12 rfl rfl ?_
      refine z_aload_n (pc := 13) (q := 0) dX11_lies_13 rfl rfl ?_
      refine z_getR (pc := 14) dX11_lies_14 zf_X11_88 gX_0_14 ?_
      refine z_alen (pc := 17) (v := 3) dX11_lies_17 aX_66 (by decide) (by decide) ?_
      refine z_icmp_ge (pc := 18) (tgt := 30) dX11_lies_18 (by decide) (fun c3 => ?_) (fun c3 => ?_)
      · have h := ze_some c3 h
        refine z_bipush (pc := 30) (v := (-2)) dX11_lies_30 zcb_m2 ?_
        obtain ⟨rfl, rfl⟩ := zr_some h
        exact z_iret dX11_lies_32
      · have h := zt_some c3 h
        refine z_aload_n (pc := 21) (q := 0) dX11_lies_21 rfl rfl ?_
        refine z_getR (pc := 22) dX11_lies_22 zf_X11_88 gX_0_14 ?_
        refine z_iload_n (pc := 25) (q := 1) dX11_lies_25 rfl rfl ?_
        obtain ⟨c4, h⟩ := zg_some h
        refine z_iald (pc := 26) dX11_lies_26 aX_66 c4 ?_
        refine z_goto (pc := 27) (tgt := 32) dX11_lies_27 (by decide) ?_
        obtain ⟨rfl, rfl⟩ := zr_some h
        exact z_iret dX11_lies_32
def f_X11_isOrdered (x1 : Int32) (S : zS) : Option (Int32 × zS) :=
  zb (f_X11_isBill x1 S) fun r3 T2 =>
  if r3 = 0 then
    some (0, T2)
  else
    if x1 < 5 then
      some (1, T2)
    else
      some (0, T2)
set_option maxRecDepth 100000 in
theorem w_X11_isOrdered (l : Launch) {x1 : Int32} {S : zS} {r : Int32} {S1 : zS} (h : f_X11_isOrdered x1 S = some (r, S1)) : zMet zLX l yX11_isOrdered cX11_isOrdered 2 (some .boolean) 2 [.ref 0, .int x1] S (some (.int r)) S1 := by
  unfold f_X11_isOrdered at h
  refine zMet.of (by decide +kernel) (Nat.le_of_ble_eq_true rfl) ?_
  show WA zLX l RX11 cX11_isOrdered 2 (some .boolean) 2 (some (.int r)) S1 0 [(0, .ref 0), (1, .int x1)] [] S
  refine z_aload_n (pc := 0) (q := 0) dX11_isOrdered_0 rfl rfl ?_
  refine z_iload_n (pc := 1) (q := 1) dX11_isOrdered_1 rfl rfl ?_
  obtain ⟨r3, T2, q1, h⟩ := zb_some h
  refine z_callVi (pc := 2) (st := []) [.int x1] dX11_isOrdered_2 zm_X11_127 zM_X11_isBill (by decide) oX_0 rfl (w_X11_isBill l q1) rfl rfl (Nat.le_of_ble_eq_true rfl) ?_
  refine z_if_eq (pc := 5) (tgt := 17) dX11_isOrdered_5 (by decide) (fun c4 => ?_) (fun c4 => ?_)
  · have h := zt_some c4 h
    refine z_iconst (pc := 17) (v := 0) dX11_isOrdered_17 zci_0 ?_
    obtain ⟨rfl, rfl⟩ := zr_some h
    exact z_zret dX11_isOrdered_18 rfl
  · have h := ze_some c4 h
    refine z_iload_n (pc := 8) (q := 1) dX11_isOrdered_8 rfl rfl ?_
    refine z_iconst (pc := 9) (v := 5) dX11_isOrdered_9 zci_5 ?_
    refine z_icmp_ge (pc := 10) (tgt := 17) dX11_isOrdered_10 (by decide) (fun c5 => ?_) (fun c5 => ?_)
    · have h := ze_some c5 h
      refine z_iconst (pc := 17) (v := 0) dX11_isOrdered_17 zci_0 ?_
      obtain ⟨rfl, rfl⟩ := zr_some h
      exact z_zret dX11_isOrdered_18 rfl
    · have h := zt_some c5 h
      refine z_iconst (pc := 13) (v := 1) dX11_isOrdered_13 zci_1 ?_
      refine z_goto (pc := 14) (tgt := 18) dX11_isOrdered_14 (by decide) ?_
      obtain ⟨rfl, rfl⟩ := zr_some h
      exact z_zret dX11_isOrdered_18 rfl
def f_X8_tell_47 (x1 : Int32) (x2 : Int32) (S : zS) : Option (Int32 × zS) :=
  if (S.1 47 0) < 0 then
    some ((-1), S)
  else
    if (S.1 47 0) < 30 then
      if zin (S.1 47 0) 30 then
      zlet (zput S 48 (S.1 47 0).toNatClampNeg x1) fun T4 =>
      if zin (T4.1 47 0) 30 then
      zlet (zput T4 49 (T4.1 47 0).toNatClampNeg x2) fun T6 =>
      if zin (T6.1 47 0) 30 then
      zlet (zput T6 50 (T6.1 47 0).toNatClampNeg (T6.1 47 1)) fun T8 =>
      if zin (T8.1 47 0) 30 then
      zlet (zput T8 51 (T8.1 47 0).toNatClampNeg (-1)) fun T10 =>
      zlet (zput T10 47 0 ((T10.1 47 0) + 1)) fun T11 =>
      some ((T11.1 47 0) - 1, T11) else none else none else none else none
    else
      some ((-1), S)
set_option maxRecDepth 100000 in
theorem w_X8_tell_47 (l : Launch) {x1 : Int32} {x2 : Int32} {S : zS} {r : Int32} {S1 : zS} (h : f_X8_tell_47 x1 x2 S = some (r, S1)) : zMet zLX l yX8_tell cX8_tell 3 (some .int) 1 [.ref 47, .int x1, .int x2] S (some (.int r)) S1 := by
  unfold f_X8_tell_47 at h
  refine zMet.of (by decide +kernel) (Nat.le_of_ble_eq_true rfl) ?_
  show WA zLX l RX8 cX8_tell 3 (some .int) 1 (some (.int r)) S1 0 [(0, .ref 47), (1, .int x1), (2, .int x2)] [] S
  refine z_aload_n (pc := 0) (q := 0) dX8_tell_0 rfl rfl ?_
  refine z_getI (pc := 1) dX8_tell_1 zf_X8_24 gX_47_0 ?_
  refine z_if_lt (pc := 4) (tgt := 16) dX8_tell_4 (by decide) (fun c1 => ?_) (fun c1 => ?_)
  · have h := zt_some c1 h
    refine z_iconst (pc := 16) (v := (-1)) dX8_tell_16 zci_m1 ?_
    obtain ⟨rfl, rfl⟩ := zr_some h
    exact z_iret dX8_tell_17
  · have h := ze_some c1 h
    refine z_aload_n (pc := 7) (q := 0) dX8_tell_7 rfl rfl ?_
    refine z_getI (pc := 8) dX8_tell_8 zf_X8_24 gX_47_0 ?_
    refine z_bipush (pc := 11) (v := 30) dX8_tell_11 zcb_30 ?_
    refine z_icmp_lt (pc := 13) (tgt := 18) dX8_tell_13 (by decide) (fun c2 => ?_) (fun c2 => ?_)
    · have h := zt_some c2 h
      refine z_aload_n (pc := 18) (q := 0) dX8_tell_18 rfl rfl ?_
      refine z_getR (pc := 19) dX8_tell_19 zf_X8_9 gX_47_2 ?_
      refine z_aload_n (pc := 22) (q := 0) dX8_tell_22 rfl rfl ?_
      refine z_getI (pc := 23) dX8_tell_23 zf_X8_24 gX_47_0 ?_
      refine z_iload_n (pc := 26) (q := 1) dX8_tell_26 rfl rfl ?_
      obtain ⟨c3, h⟩ := zg_some h
      obtain ⟨T4, eT4, h⟩ := zl_some h
      refine z_iast (pc := 27) dX8_tell_27 aX_48 c3 eT4 ?_
      refine z_aload_n (pc := 28) (q := 0) dX8_tell_28 rfl rfl ?_
      refine z_getR (pc := 29) dX8_tell_29 zf_X8_15 gX_47_3 ?_
      refine z_aload_n (pc := 32) (q := 0) dX8_tell_32 rfl rfl ?_
      refine z_getI (pc := 33) dX8_tell_33 zf_X8_24 gX_47_0 ?_
      refine z_iload_n (pc := 36) (q := 2) dX8_tell_36 rfl rfl ?_
      obtain ⟨c5, h⟩ := zg_some h
      obtain ⟨T6, eT6, h⟩ := zl_some h
      refine z_iast (pc := 37) dX8_tell_37 aX_49 c5 eT6 ?_
      refine z_aload_n (pc := 38) (q := 0) dX8_tell_38 rfl rfl ?_
      refine z_getR (pc := 39) dX8_tell_39 zf_X8_18 gX_47_4 ?_
      refine z_aload_n (pc := 42) (q := 0) dX8_tell_42 rfl rfl ?_
      refine z_getI (pc := 43) dX8_tell_43 zf_X8_24 gX_47_0 ?_
      refine z_aload_n (pc := 46) (q := 0) dX8_tell_46 rfl rfl ?_
      refine z_getI (pc := 47) dX8_tell_47 zf_X8_28 gX_47_1 ?_
      obtain ⟨c7, h⟩ := zg_some h
      obtain ⟨T8, eT8, h⟩ := zl_some h
      refine z_iast (pc := 50) dX8_tell_50 aX_50 c7 eT8 ?_
      refine z_aload_n (pc := 51) (q := 0) dX8_tell_51 rfl rfl ?_
      refine z_getR (pc := 52) dX8_tell_52 zf_X8_21 gX_47_5 ?_
      refine z_aload_n (pc := 55) (q := 0) dX8_tell_55 rfl rfl ?_
      refine z_getI (pc := 56) dX8_tell_56 zf_X8_24 gX_47_0 ?_
      refine z_iconst (pc := 59) (v := (-1)) dX8_tell_59 zci_m1 ?_
      obtain ⟨c9, h⟩ := zg_some h
      obtain ⟨T10, eT10, h⟩ := zl_some h
      refine z_iast (pc := 60) dX8_tell_60 aX_51 c9 eT10 ?_
      refine z_aload_n (pc := 61) (q := 0) dX8_tell_61 rfl rfl ?_
      refine z_dup (pc := 62) dX8_tell_62 rfl ?_
      refine z_getI (pc := 63) dX8_tell_63 zf_X8_24 gX_47_0 ?_
      refine z_iconst (pc := 66) (v := 1) dX8_tell_66 zci_1 ?_
      refine z_iadd (pc := 67) dX8_tell_67 ?_
      obtain ⟨T11, eT11, h⟩ := zl_some h
      refine z_putI (pc := 68) dX8_tell_68 zp_X8_24 gX_47_0 rfl rfl eT11 ?_
      refine z_aload_n (pc := 71) (q := 0) dX8_tell_71 rfl rfl ?_
      refine z_getI (pc := 72) dX8_tell_72 zf_X8_24 gX_47_0 ?_
      refine z_iconst (pc := 75) (v := 1) dX8_tell_75 zci_1 ?_
      refine z_isub (pc := 76) dX8_tell_76 ?_
      obtain ⟨rfl, rfl⟩ := zr_some h
      exact z_iret dX8_tell_77
    · have h := ze_some c2 h
      refine z_iconst (pc := 16) (v := (-1)) dX8_tell_16 zci_m1 ?_
      obtain ⟨rfl, rfl⟩ := zr_some h
      exact z_iret dX8_tell_17
def f_X11_ring (x1 : Int32) (x2 : Int32) (x3 : Int32) (S : zS) : Option (Int32 × zS) :=
  zb (f_X11_isOrdered x1 S) fun r3 T2 =>
  if r3 = 0 then
    some ((-1), T2)
  else
    zb (f_X11_isOrdered x2 T2) fun r7 T6 =>
    if r7 = 0 then
      some ((-1), T6)
    else
      if x1 = x2 then
        some ((-1), T6)
      else
        if x3 = 0 then
          zb (f_X8_tell_47 x2 x1 T6) fun r13 T12 =>
          some (r13, T12)
        else
          zb (f_X8_tell_47 x1 x2 T6) fun r13 T12 =>
          some (r13, T12)
set_option maxRecDepth 100000 in
theorem w_X11_ring (l : Launch) {x1 : Int32} {x2 : Int32} {x3 : Int32} {S : zS} {r : Int32} {S1 : zS} (h : f_X11_ring x1 x2 x3 S = some (r, S1)) : zMet zLX l yX11_ring cX11_ring 4 (some .int) 3 [.ref 0, .int x1, .int x2, .int x3] S (some (.int r)) S1 := by
  unfold f_X11_ring at h
  refine zMet.of (by decide +kernel) (Nat.le_of_ble_eq_true rfl) ?_
  show WA zLX l RX11 cX11_ring 4 (some .int) 3 (some (.int r)) S1 0 [(0, .ref 0), (1, .int x1), (2, .int x2), (3, .int x3)] [] S
  refine z_aload_n (pc := 0) (q := 0) dX11_ring_0 rfl rfl ?_
  refine z_iload_n (pc := 1) (q := 1) dX11_ring_1 rfl rfl ?_
  obtain ⟨r3, T2, q1, h⟩ := zb_some h
  refine z_callVi (pc := 2) (st := []) [.int x1] dX11_ring_2 zm_X11_305 zM_X11_isOrdered (by decide) oX_0 rfl (w_X11_isOrdered l q1) rfl rfl (Nat.le_of_ble_eq_true rfl) ?_
  refine z_if_eq (pc := 5) (tgt := 21) dX11_ring_5 (by decide) (fun c4 => ?_) (fun c4 => ?_)
  · have h := zt_some c4 h
    refine z_iconst (pc := 21) (v := (-1)) dX11_ring_21 zci_m1 ?_
    obtain ⟨rfl, rfl⟩ := zr_some h
    exact z_iret dX11_ring_22
  · have h := ze_some c4 h
    refine z_aload_n (pc := 8) (q := 0) dX11_ring_8 rfl rfl ?_
    refine z_iload_n (pc := 9) (q := 2) dX11_ring_9 rfl rfl ?_
    obtain ⟨r7, T6, q5, h⟩ := zb_some h
    refine z_callVi (pc := 10) (st := []) [.int x2] dX11_ring_10 zm_X11_305 zM_X11_isOrdered (by decide) oX_0 rfl (w_X11_isOrdered l q5) rfl rfl (Nat.le_of_ble_eq_true rfl) ?_
    refine z_if_eq (pc := 13) (tgt := 21) dX11_ring_13 (by decide) (fun c8 => ?_) (fun c8 => ?_)
    · have h := zt_some c8 h
      refine z_iconst (pc := 21) (v := (-1)) dX11_ring_21 zci_m1 ?_
      obtain ⟨rfl, rfl⟩ := zr_some h
      exact z_iret dX11_ring_22
    · have h := ze_some c8 h
      refine z_iload_n (pc := 16) (q := 1) dX11_ring_16 rfl rfl ?_
      refine z_iload_n (pc := 17) (q := 2) dX11_ring_17 rfl rfl ?_
      refine z_icmp_ne (pc := 18) (tgt := 23) dX11_ring_18 (by decide) (fun c9 => ?_) (fun c9 => ?_)
      · have h := ze_some c9 h
        refine z_iload_n (pc := 23) (q := 3) dX11_ring_23 rfl rfl ?_
        refine z_if_eq (pc := 24) (tgt := 39) dX11_ring_24 (by decide) (fun c10 => ?_) (fun c10 => ?_)
        · have h := zt_some c10 h
          refine z_aload_n (pc := 39) (q := 0) dX11_ring_39 rfl rfl ?_
          refine z_getR (pc := 40) dX11_ring_40 zf_X11_59 gX_0_9 ?_
          refine z_iload_n (pc := 43) (q := 2) dX11_ring_43 rfl rfl ?_
          refine z_iload_n (pc := 44) (q := 1) dX11_ring_44 rfl rfl ?_
          obtain ⟨r13, T12, q11, h⟩ := zb_some h
          refine z_callVi (pc := 45) (st := []) [.int x2, .int x1] dX11_ring_45 zm_X11_308 zM_X8_tell (by decide) oX_47 rfl (w_X8_tell_47 l q11) rfl rfl (Nat.le_of_ble_eq_true rfl) ?_
          obtain ⟨rfl, rfl⟩ := zr_some h
          exact z_iret dX11_ring_48
        · have h := ze_some c10 h
          refine z_aload_n (pc := 27) (q := 0) dX11_ring_27 rfl rfl ?_
          refine z_getR (pc := 28) dX11_ring_28 zf_X11_59 gX_0_9 ?_
          refine z_iload_n (pc := 31) (q := 1) dX11_ring_31 rfl rfl ?_
          refine z_iload_n (pc := 32) (q := 2) dX11_ring_32 rfl rfl ?_
          obtain ⟨r13, T12, q11, h⟩ := zb_some h
          refine z_callVi (pc := 33) (st := []) [.int x1, .int x2] dX11_ring_33 zm_X11_308 zM_X8_tell (by decide) oX_47 rfl (w_X8_tell_47 l q11) rfl rfl (Nat.le_of_ble_eq_true rfl) ?_
          refine z_goto (pc := 36) (tgt := 48) dX11_ring_36 (by decide) ?_
          obtain ⟨rfl, rfl⟩ := zr_some h
          exact z_iret dX11_ring_48
      · have h := zt_some c9 h
        refine z_iconst (pc := 21) (v := (-1)) dX11_ring_21 zci_m1 ?_
        obtain ⟨rfl, rfl⟩ := zr_some h
        exact z_iret dX11_ring_22
def f_X8_takeBack_47 (x1 : Int32) (S : zS) : Option (Int32 × zS) :=
  if x1 < 0 then
    some (0, S)
  else
    if x1 < (S.1 47 0) then
      if x1 < 30 then
        if zin x1 30 then
        if (S.1 51 x1.toNatClampNeg) = (-1) then
          if zin x1 30 then
          zlet (zput S 51 x1.toNatClampNeg (S.1 47 1)) fun T7 =>
          some (1, T7) else none
        else
          some (0, S) else none
      else
        some (0, S)
    else
      some (0, S)
set_option maxRecDepth 100000 in
theorem w_X8_takeBack_47 (l : Launch) {x1 : Int32} {S : zS} {r : Int32} {S1 : zS} (h : f_X8_takeBack_47 x1 S = some (r, S1)) : zMet zLX l yX8_takeBack cX8_takeBack 2 (some .boolean) 1 [.ref 47, .int x1] S (some (.int r)) S1 := by
  unfold f_X8_takeBack_47 at h
  refine zMet.of (by decide +kernel) (Nat.le_of_ble_eq_true rfl) ?_
  show WA zLX l RX8 cX8_takeBack 2 (some .boolean) 1 (some (.int r)) S1 0 [(0, .ref 47), (1, .int x1)] [] S
  refine z_iload_n (pc := 0) (q := 1) dX8_takeBack_0 rfl rfl ?_
  refine z_if_lt (pc := 1) (tgt := 28) dX8_takeBack_1 (by decide) (fun c1 => ?_) (fun c1 => ?_)
  · have h := zt_some c1 h
    refine z_iconst (pc := 28) (v := 0) dX8_takeBack_28 zci_0 ?_
    obtain ⟨rfl, rfl⟩ := zr_some h
    exact z_zret dX8_takeBack_29 rfl
  · have h := ze_some c1 h
    refine z_iload_n (pc := 4) (q := 1) dX8_takeBack_4 rfl rfl ?_
    refine z_aload_n (pc := 5) (q := 0) dX8_takeBack_5 rfl rfl ?_
    refine z_getI (pc := 6) dX8_takeBack_6 zf_X8_24 gX_47_0 ?_
    refine z_icmp_ge (pc := 9) (tgt := 28) dX8_takeBack_9 (by decide) (fun c2 => ?_) (fun c2 => ?_)
    · have h := ze_some c2 h
      refine z_iconst (pc := 28) (v := 0) dX8_takeBack_28 zci_0 ?_
      obtain ⟨rfl, rfl⟩ := zr_some h
      exact z_zret dX8_takeBack_29 rfl
    · have h := zt_some c2 h
      refine z_iload_n (pc := 12) (q := 1) dX8_takeBack_12 rfl rfl ?_
      refine z_bipush (pc := 13) (v := 30) dX8_takeBack_13 zcb_30 ?_
      refine z_icmp_ge (pc := 15) (tgt := 28) dX8_takeBack_15 (by decide) (fun c3 => ?_) (fun c3 => ?_)
      · have h := ze_some c3 h
        refine z_iconst (pc := 28) (v := 0) dX8_takeBack_28 zci_0 ?_
        obtain ⟨rfl, rfl⟩ := zr_some h
        exact z_zret dX8_takeBack_29 rfl
      · have h := zt_some c3 h
        refine z_aload_n (pc := 18) (q := 0) dX8_takeBack_18 rfl rfl ?_
        refine z_getR (pc := 19) dX8_takeBack_19 zf_X8_21 gX_47_5 ?_
        refine z_iload_n (pc := 22) (q := 1) dX8_takeBack_22 rfl rfl ?_
        obtain ⟨c4, h⟩ := zg_some h
        refine z_iald (pc := 23) dX8_takeBack_23 aX_51 c4 ?_
        refine z_iconst (pc := 24) (v := (-1)) dX8_takeBack_24 zci_m1 ?_
        refine z_icmp_eq (pc := 25) (tgt := 30) dX8_takeBack_25 (by decide) (fun c5 => ?_) (fun c5 => ?_)
        · have h := zt_some c5 h
          refine z_aload_n (pc := 30) (q := 0) dX8_takeBack_30 rfl rfl ?_
          refine z_getR (pc := 31) dX8_takeBack_31 zf_X8_21 gX_47_5 ?_
          refine z_iload_n (pc := 34) (q := 1) dX8_takeBack_34 rfl rfl ?_
          refine z_aload_n (pc := 35) (q := 0) dX8_takeBack_35 rfl rfl ?_
          refine z_getI (pc := 36) dX8_takeBack_36 zf_X8_28 gX_47_1 ?_
          obtain ⟨c6, h⟩ := zg_some h
          obtain ⟨T7, eT7, h⟩ := zl_some h
          refine z_iast (pc := 39) dX8_takeBack_39 aX_51 c6 eT7 ?_
          refine z_iconst (pc := 40) (v := 1) dX8_takeBack_40 zci_1 ?_
          obtain ⟨rfl, rfl⟩ := zr_some h
          exact z_zret dX8_takeBack_41 rfl
        · have h := ze_some c5 h
          refine z_iconst (pc := 28) (v := 0) dX8_takeBack_28 zci_0 ?_
          obtain ⟨rfl, rfl⟩ := zr_some h
          exact z_zret dX8_takeBack_29 rfl
def f_X11_untell (x1 : Int32) (S : zS) : Option (Int32 × zS) :=
  zb (f_X8_takeBack_47 x1 S) fun r3 T2 =>
  if znb r3 then some (r3, T2) else none
set_option maxRecDepth 100000 in
theorem w_X11_untell (l : Launch) {x1 : Int32} {S : zS} {r : Int32} {S1 : zS} (h : f_X11_untell x1 S = some (r, S1)) : zMet zLX l yX11_untell cX11_untell 2 (some .boolean) 2 [.ref 0, .int x1] S (some (.int r)) S1 := by
  unfold f_X11_untell at h
  refine zMet.of (by decide +kernel) (Nat.le_of_ble_eq_true rfl) ?_
  show WA zLX l RX11 cX11_untell 2 (some .boolean) 2 (some (.int r)) S1 0 [(0, .ref 0), (1, .int x1)] [] S
  refine z_aload_n (pc := 0) (q := 0) dX11_untell_0 rfl rfl ?_
  refine z_getR (pc := 1) dX11_untell_1 zf_X11_59 gX_0_9 ?_
  refine z_iload_n (pc := 4) (q := 1) dX11_untell_4 rfl rfl ?_
  obtain ⟨r3, T2, q1, h⟩ := zb_some h
  refine z_callVi (pc := 5) (st := []) [.int x1] dX11_untell_5 zm_X11_311 zM_X8_takeBack (by decide) oX_47 rfl (w_X8_takeBack_47 l q1) rfl rfl (Nat.le_of_ble_eq_true rfl) ?_
  obtain ⟨c4, h⟩ := zg_some h
  obtain ⟨rfl, rfl⟩ := zr_some h
  exact z_zret dX11_untell_8 (znb_n c4)
def f_X11_later (x1 : Int32) (S : zS) : Option (Int32 × zS) :=
  if x1 < 0 then
    some ((-1), S)
  else
    if (1000 : Int32) < x1 then
      some ((-1), S)
    else
      if (100000 : Int32) < ((S.1 47 1) + x1) then
        some ((-1), S)
      else
        zlet (zput S 47 1 ((S.1 47 1) + x1)) fun T4 =>
        some (T4.1 47 1, T4)
set_option maxRecDepth 100000 in
theorem w_X11_later (l : Launch) {x1 : Int32} {S : zS} {r : Int32} {S1 : zS} (h : f_X11_later x1 S = some (r, S1)) : zMet zLX l yX11_later cX11_later 2 (some .int) 1 [.ref 0, .int x1] S (some (.int r)) S1 := by
  unfold f_X11_later at h
  refine zMet.of (by decide +kernel) (Nat.le_of_ble_eq_true rfl) ?_
  show WA zLX l RX11 cX11_later 2 (some .int) 1 (some (.int r)) S1 0 [(0, .ref 0), (1, .int x1)] [] S
  refine z_iload_n (pc := 0) (q := 1) dX11_later_0 rfl rfl ?_
  refine z_if_lt (pc := 1) (tgt := 26) dX11_later_1 (by decide) (fun c1 => ?_) (fun c1 => ?_)
  · have h := zt_some c1 h
    refine z_iconst (pc := 26) (v := (-1)) dX11_later_26 zci_m1 ?_
    obtain ⟨rfl, rfl⟩ := zr_some h
    exact z_iret dX11_later_27
  · have h := ze_some c1 h
    refine z_iload_n (pc := 4) (q := 1) dX11_later_4 rfl rfl ?_
    refine z_sipush (pc := 5) (v := 1000) dX11_later_5 zcs_1000 ?_
    refine z_icmp_gt (pc := 8) (tgt := 26) dX11_later_8 (by decide) (fun c2 => ?_) (fun c2 => ?_)
    · have h := zt_some c2 h
      refine z_iconst (pc := 26) (v := (-1)) dX11_later_26 zci_m1 ?_
      obtain ⟨rfl, rfl⟩ := zr_some h
      exact z_iret dX11_later_27
    · have h := ze_some c2 h
      refine z_aload_n (pc := 11) (q := 0) dX11_later_11 rfl rfl ?_
      refine z_getR (pc := 12) dX11_later_12 zf_X11_59 gX_0_9 ?_
      refine z_getI (pc := 15) dX11_later_15 zf_X11_314 gX_47_1 ?_
      refine z_iload_n (pc := 18) (q := 1) dX11_later_18 rfl rfl ?_
      refine z_iadd (pc := 19) dX11_later_19 ?_
      refine z_ldcw (pc := 20) dX11_later_20 zk_X11_317 ?_
      refine z_icmp_le (pc := 23) (tgt := 28) dX11_later_23 (by decide) (fun c3 => ?_) (fun c3 => ?_)
      · have h := ze_some c3 h
        refine z_aload_n (pc := 28) (q := 0) dX11_later_28 rfl rfl ?_
        refine z_getR (pc := 29) dX11_later_29 zf_X11_59 gX_0_9 ?_
        refine z_dup (pc := 32) dX11_later_32 rfl ?_
        refine z_getI (pc := 33) dX11_later_33 zf_X11_314 gX_47_1 ?_
        refine z_iload_n (pc := 36) (q := 1) dX11_later_36 rfl rfl ?_
        refine z_iadd (pc := 37) dX11_later_37 ?_
        obtain ⟨T4, eT4, h⟩ := zl_some h
        refine z_putI (pc := 38) dX11_later_38 zp_X11_314 gX_47_1 rfl rfl eT4 ?_
        refine z_aload_n (pc := 41) (q := 0) dX11_later_41 rfl rfl ?_
        refine z_getR (pc := 42) dX11_later_42 zf_X11_59 gX_0_9 ?_
        refine z_getI (pc := 45) dX11_later_45 zf_X11_314 gX_47_1 ?_
        obtain ⟨rfl, rfl⟩ := zr_some h
        exact z_iret dX11_later_48
      · have h := zt_some c3 h
        refine z_iconst (pc := 26) (v := (-1)) dX11_later_26 zci_m1 ?_
        obtain ⟨rfl, rfl⟩ := zr_some h
        exact z_iret dX11_later_27
def f_X6_countSeats_52_L12 : Nat → Int32 → zS → Option zS
  | 0, _, _ => none
  | n + 1, x1, S =>
    if x1 < (S.1 52 1) then
      if zin x1 5 then
      zlet (((S.1 54 x1.toNatClampNeg) * 5) + x1) fun v3 =>
      if v3 < 0 then
        zlet (x1 + 1) fun v5 =>
        (f_X6_countSeats_52_L12 n) v5 S
      else
        if v3 < 25 then
          if zin v3 25 then
          if zin v3 25 then
          zlet (zput S 55 v3.toNatClampNeg ((S.1 55 v3.toNatClampNeg) + 1)) fun T8 =>
          zlet (x1 + 1) fun v9 =>
          (f_X6_countSeats_52_L12 n) v9 T8 else none else none
        else
          zlet (x1 + 1) fun v6 =>
          (f_X6_countSeats_52_L12 n) v6 S else none
    else
      some S
def f_X6_countSeats_52  (S : zS) : Option zS :=
  zlet (zput S 52 0 ((S.1 52 0) + 1)) fun T1 =>
  f_X6_countSeats_52_L12 zN 0 T1
set_option maxRecDepth 100000 in
theorem w_X6_countSeats_52_L12 (l : Launch) {S1 : zS} : ∀ (n : Nat) (x1 : Int32) (S : zS), f_X6_countSeats_52_L12 n x1 S = some S1 → WA zLX l RX6 cX6_countSeats 3 none 1 none S1 12 [(0, .ref 52), (1, .int x1)] [] S := by
  intro n
  induction n with
  | zero =>
    intro x1 S h
    exact nomatch h
  | succ n ih =>
    intro x1 S h
    rw [f_X6_countSeats_52_L12] at h
    refine z_iload_n (pc := 12) (q := 1) dX6_countSeats_12 rfl rfl ?_
    refine z_aload_n (pc := 13) (q := 0) dX6_countSeats_13 rfl rfl ?_
    refine z_getI (pc := 14) dX6_countSeats_14 zf_X6_27 gX_52_1 ?_
    refine z_icmp_ge (pc := 17) (tgt := 60) dX6_countSeats_17 (by decide) (fun c1 => ?_) (fun c1 => ?_)
    · have h := ze_some c1 h
      cases h
      exact z_vret dX6_countSeats_60
    · have h := zt_some c1 h
      refine z_aload_n (pc := 20) (q := 0) dX6_countSeats_20 rfl rfl ?_
      refine z_getR (pc := 21) dX6_countSeats_21 zf_X6_15 gX_52_3 ?_
      refine z_iload_n (pc := 24) (q := 1) dX6_countSeats_24 rfl rfl ?_
      obtain ⟨c2, h⟩ := zg_some h
      refine z_iald (pc := 25) dX6_countSeats_25 aX_54 c2 ?_
      refine z_iconst (pc := 26) (v := 5) dX6_countSeats_26 zci_5 ?_
      refine z_imul (pc := 27) dX6_countSeats_27 ?_
      refine z_iload_n (pc := 28) (q := 1) dX6_countSeats_28 rfl rfl ?_
      refine z_iadd (pc := 29) dX6_countSeats_29 ?_
      obtain ⟨v3, ev3, h⟩ := zl_some h
      refine z_top ev3 ?_
      refine z_istore_n (pc := 30) (lo' := [(2, .int v3), (0, .ref 52), (1, .int x1)]) dX6_countSeats_30 rfl (by decide) rfl ?_
      refine z_iload_n (pc := 31) (q := 0) dX6_countSeats_31 rfl rfl ?_
      refine z_if_lt (pc := 32) (tgt := 54) dX6_countSeats_32 (by decide) (fun c4 => ?_) (fun c4 => ?_)
      · have h := zt_some c4 h
        obtain ⟨v5, ev5, h⟩ := zl_some h
        refine z_iinc (pc := 54) (q := 2) (v := v5) (lo' := [(1, .int v5), (2, .int v3), (0, .ref 52)]) dX6_countSeats_54 rfl (by rw [ev5, zci_1]) (by decide) rfl ?_
        refine z_goto (pc := 57) (tgt := 12) dX6_countSeats_57 (by decide) ?_
        exact z_sub [2, 0] rfl (ih v5 S h)
      · have h := ze_some c4 h
        refine z_iload_n (pc := 35) (q := 0) dX6_countSeats_35 rfl rfl ?_
        refine z_aload_n (pc := 36) (q := 1) dX6_countSeats_36 rfl rfl ?_
        refine z_getR (pc := 37) dX6_countSeats_37 zf_X6_18 gX_52_4 ?_
        refine z_alen (pc := 40) (v := 25) dX6_countSeats_40 aX_55 (by decide) (by decide) ?_
        refine z_icmp_ge (pc := 41) (tgt := 54) dX6_countSeats_41 (by decide) (fun c5 => ?_) (fun c5 => ?_)
        · have h := ze_some c5 h
          obtain ⟨v6, ev6, h⟩ := zl_some h
          refine z_iinc (pc := 54) (q := 2) (v := v6) (lo' := [(1, .int v6), (2, .int v3), (0, .ref 52)]) dX6_countSeats_54 rfl (by rw [ev6, zci_1]) (by decide) rfl ?_
          refine z_goto (pc := 57) (tgt := 12) dX6_countSeats_57 (by decide) ?_
          exact z_sub [2, 0] rfl (ih v6 S h)
        · have h := zt_some c5 h
          refine z_aload_n (pc := 44) (q := 1) dX6_countSeats_44 rfl rfl ?_
          refine z_getR (pc := 45) dX6_countSeats_45 zf_X6_18 gX_52_4 ?_
          refine z_iload_n (pc := 48) (q := 0) dX6_countSeats_48 rfl rfl ?_
          refine z_dup2 (pc := 49) dX6_countSeats_49 rfl rfl ?_
          obtain ⟨c6, h⟩ := zg_some h
          refine z_iald (pc := 50) dX6_countSeats_50 aX_55 c6 ?_
          refine z_iconst (pc := 51) (v := 1) dX6_countSeats_51 zci_1 ?_
          refine z_iadd (pc := 52) dX6_countSeats_52 ?_
          obtain ⟨c7, h⟩ := zg_some h
          obtain ⟨T8, eT8, h⟩ := zl_some h
          refine z_iast (pc := 53) dX6_countSeats_53 aX_55 c7 eT8 ?_
          obtain ⟨v9, ev9, h⟩ := zl_some h
          refine z_iinc (pc := 54) (q := 2) (v := v9) (lo' := [(1, .int v9), (2, .int v3), (0, .ref 52)]) dX6_countSeats_54 rfl (by rw [ev9, zci_1]) (by decide) rfl ?_
          refine z_goto (pc := 57) (tgt := 12) dX6_countSeats_57 (by decide) ?_
          exact z_sub [2, 0] rfl (ih v9 T8 h)
set_option maxRecDepth 100000 in
theorem w_X6_countSeats_52 (l : Launch)  {S : zS} {S1 : zS} (h : f_X6_countSeats_52 S = some S1) : zMet zLX l yX6_countSeats cX6_countSeats 3 none 1 [.ref 52] S none S1 := by
  unfold f_X6_countSeats_52 at h
  refine zMet.of (by decide +kernel) (Nat.le_of_ble_eq_true rfl) ?_
  show WA zLX l RX6 cX6_countSeats 3 none 1 none S1 0 [(0, .ref 52)] [] S
  refine z_aload_n (pc := 0) (q := 0) dX6_countSeats_0 rfl rfl ?_
  refine z_dup (pc := 1) dX6_countSeats_1 rfl ?_
  refine z_getI (pc := 2) dX6_countSeats_2 zf_X6_31 gX_52_0 ?_
  refine z_iconst (pc := 5) (v := 1) dX6_countSeats_5 zci_1 ?_
  refine z_iadd (pc := 6) dX6_countSeats_6 ?_
  obtain ⟨T1, eT1, h⟩ := zl_some h
  refine z_putI (pc := 7) dX6_countSeats_7 zp_X6_31 gX_52_0 rfl rfl eT1 ?_
  refine z_iconst (pc := 10) (v := 0) dX6_countSeats_10 zci_0 ?_
  refine z_istore_n (pc := 11) (lo' := [(1, .int 0), (0, .ref 52)]) dX6_countSeats_11 rfl (by decide) rfl ?_
  exact z_sub [1, 0] rfl (w_X6_countSeats_52_L12 l zN 0 T1 h)
def f_X6_seatFrom_52_B13 (F : Int32 → Int32 → zS → Option zS)  (S : zS) : Option zS :=
  zu (f_X6_countSeats_52 S) fun T2 =>
  some T2
def f_X6_seatFrom_52_L20 (F : Int32 → Int32 → zS → Option zS) : Nat → Int32 → Int32 → Int32 → zS → Option zS
  | 0, _, _, _, _ => none
  | n + 1, x1, x2, x3, S =>
    if x3 < (S.1 52 1) then
      if ((x2 >>> (x3 &&& 31)) &&& 1) = 0 then
        if zin x3 5 then
        if ((S.1 53 x3.toNatClampNeg) &&& (x2 ^^^ (-1))) = 0 then
          if zin x1 5 then
          zlet (zput S 54 x1.toNatClampNeg x3) fun T6 =>
          zu (F (x1 + 1) (x2 ||| (1 <<< (x3 &&& 31))) T6) fun T8 =>
          zlet (x3 + 1) fun v9 =>
          (f_X6_seatFrom_52_L20 F n) x1 x2 v9 T8 else none
        else
          zlet (x3 + 1) fun v5 =>
          (f_X6_seatFrom_52_L20 F n) x1 x2 v5 S else none
      else
        zlet (x3 + 1) fun v3 =>
        (f_X6_seatFrom_52_L20 F n) x1 x2 v3 S
    else
      some S
def fb_X6_seatFrom_52 (F : Int32 → Int32 → zS → Option zS) (x1 : Int32) (x2 : Int32) (S : zS) : Option zS :=
  if x1 < (S.1 52 1) then
    if x1 < 5 then
      f_X6_seatFrom_52_L20 F zN x1 x2 0 S
    else
      f_X6_seatFrom_52_B13 F S
  else
    f_X6_seatFrom_52_B13 F S
set_option maxRecDepth 100000 in
theorem w_X6_seatFrom_52_B13 (l : Launch) {kF : Nat} (hkF : 2 ≤ kF) {F : Int32 → Int32 → zS → Option zS} (hF : ∀ (x1 : Int32) (x2 : Int32) (S : zS) (S1 : zS), F x1 x2 S = some S1 → zMet zLX l yX6_seatFrom cX6_seatFrom 4 none kF [.ref 52, .int x1, .int x2] S none S1) {S1 : zS}  (S : zS) (h : f_X6_seatFrom_52_B13 F S = some S1) : WA zLX l RX6 cX6_seatFrom 4 none (kF + 1) none S1 13 [(0, .ref 52)] [] S := by
  unfold f_X6_seatFrom_52_B13 at h
  refine z_aload_n (pc := 13) (q := 0) dX6_seatFrom_13 rfl rfl ?_
  obtain ⟨T2, q1, h⟩ := zu_some h
  refine z_callVv (pc := 14) (st := []) [] dX6_seatFrom_14 zm_X6_69 zM_X6_countSeats (by omega) oX_52 rfl (w_X6_countSeats_52 l q1) rfl rfl (Nat.le_of_ble_eq_true rfl) ?_
  cases h
  exact z_vret dX6_seatFrom_17
set_option maxRecDepth 100000 in
theorem w_X6_seatFrom_52_L20 (l : Launch) {kF : Nat} (hkF : 2 ≤ kF) {F : Int32 → Int32 → zS → Option zS} (hF : ∀ (x1 : Int32) (x2 : Int32) (S : zS) (S1 : zS), F x1 x2 S = some S1 → zMet zLX l yX6_seatFrom cX6_seatFrom 4 none kF [.ref 52, .int x1, .int x2] S none S1) {S1 : zS} : ∀ (n : Nat) (x1 : Int32) (x2 : Int32) (x3 : Int32) (S : zS), f_X6_seatFrom_52_L20 F n x1 x2 x3 S = some S1 → WA zLX l RX6 cX6_seatFrom 4 none (kF + 1) none S1 20 [(0, .ref 52), (1, .int x1), (2, .int x2), (3, .int x3)] [] S := by
  intro n
  induction n with
  | zero =>
    intro x1 x2 x3 S h
    exact nomatch h
  | succ n ih =>
    intro x1 x2 x3 S h
    rw [f_X6_seatFrom_52_L20] at h
    refine z_iload_n (pc := 20) (q := 3) dX6_seatFrom_20 rfl rfl ?_
    refine z_aload_n (pc := 21) (q := 0) dX6_seatFrom_21 rfl rfl ?_
    refine z_getI (pc := 22) dX6_seatFrom_22 zf_X6_27 gX_52_1 ?_
    refine z_icmp_ge (pc := 25) (tgt := 74) dX6_seatFrom_25 (by decide) (fun c1 => ?_) (fun c1 => ?_)
    · have h := ze_some c1 h
      cases h
      exact z_vret dX6_seatFrom_74
    · have h := zt_some c1 h
      refine z_iload_n (pc := 28) (q := 2) dX6_seatFrom_28 rfl rfl ?_
      refine z_iload_n (pc := 29) (q := 3) dX6_seatFrom_29 rfl rfl ?_
      refine z_ishr (pc := 30) dX6_seatFrom_30 ?_
      refine z_iconst (pc := 31) (v := 1) dX6_seatFrom_31 zci_1 ?_
      refine z_iand (pc := 32) dX6_seatFrom_32 ?_
      refine z_if_ne (pc := 33) (tgt := 68) dX6_seatFrom_33 (by decide) (fun c2 => ?_) (fun c2 => ?_)
      · have h := ze_some c2 h
        obtain ⟨v3, ev3, h⟩ := zl_some h
        refine z_iinc (pc := 68) (q := 3) (v := v3) (lo' := [(3, .int v3), (0, .ref 52), (1, .int x1), (2, .int x2)]) dX6_seatFrom_68 rfl (by rw [ev3, zci_1]) (by decide) rfl ?_
        refine z_goto (pc := 71) (tgt := 20) dX6_seatFrom_71 (by decide) ?_
        exact z_sub [1, 2, 3, 0] rfl (ih x1 x2 v3 S h)
      · have h := zt_some c2 h
        refine z_aload_n (pc := 36) (q := 0) dX6_seatFrom_36 rfl rfl ?_
        refine z_getR (pc := 37) dX6_seatFrom_37 zf_X6_9 gX_52_2 ?_
        refine z_iload_n (pc := 40) (q := 3) dX6_seatFrom_40 rfl rfl ?_
        obtain ⟨c3, h⟩ := zg_some h
        refine z_iald (pc := 41) dX6_seatFrom_41 aX_53 c3 ?_
        refine z_iload_n (pc := 42) (q := 2) dX6_seatFrom_42 rfl rfl ?_
        refine z_iconst (pc := 43) (v := (-1)) dX6_seatFrom_43 zci_m1 ?_
        refine z_ixor (pc := 44) dX6_seatFrom_44 ?_
        refine z_iand (pc := 45) dX6_seatFrom_45 ?_
        refine z_if_ne (pc := 46) (tgt := 68) dX6_seatFrom_46 (by decide) (fun c4 => ?_) (fun c4 => ?_)
        · have h := ze_some c4 h
          obtain ⟨v5, ev5, h⟩ := zl_some h
          refine z_iinc (pc := 68) (q := 3) (v := v5) (lo' := [(3, .int v5), (0, .ref 52), (1, .int x1), (2, .int x2)]) dX6_seatFrom_68 rfl (by rw [ev5, zci_1]) (by decide) rfl ?_
          refine z_goto (pc := 71) (tgt := 20) dX6_seatFrom_71 (by decide) ?_
          exact z_sub [1, 2, 3, 0] rfl (ih x1 x2 v5 S h)
        · have h := zt_some c4 h
          refine z_aload_n (pc := 49) (q := 0) dX6_seatFrom_49 rfl rfl ?_
          refine z_getR (pc := 50) dX6_seatFrom_50 zf_X6_15 gX_52_3 ?_
          refine z_iload_n (pc := 53) (q := 1) dX6_seatFrom_53 rfl rfl ?_
          refine z_iload_n (pc := 54) (q := 3) dX6_seatFrom_54 rfl rfl ?_
          obtain ⟨c5, h⟩ := zg_some h
          obtain ⟨T6, eT6, h⟩ := zl_some h
          refine z_iast (pc := 55) dX6_seatFrom_55 aX_54 c5 eT6 ?_
          refine z_aload_n (pc := 56) (q := 0) dX6_seatFrom_56 rfl rfl ?_
          refine z_iload_n (pc := 57) (q := 1) dX6_seatFrom_57 rfl rfl ?_
          refine z_iconst (pc := 58) (v := 1) dX6_seatFrom_58 zci_1 ?_
          refine z_iadd (pc := 59) dX6_seatFrom_59 ?_
          refine z_iload_n (pc := 60) (q := 2) dX6_seatFrom_60 rfl rfl ?_
          refine z_iconst (pc := 61) (v := 1) dX6_seatFrom_61 zci_1 ?_
          refine z_iload_n (pc := 62) (q := 3) dX6_seatFrom_62 rfl rfl ?_
          refine z_ishl (pc := 63) dX6_seatFrom_63 ?_
          refine z_ior (pc := 64) dX6_seatFrom_64 ?_
          obtain ⟨T8, q7, h⟩ := zu_some h
          refine z_callVv (pc := 65) (st := []) [.int (x1 + 1), .int (x2 ||| (1 <<< (x3 &&& 31)))] dX6_seatFrom_65 zm_X6_65 zM_X6_seatFrom (by omega) oX_52 rfl (hF (x1 + 1) (x2 ||| (1 <<< (x3 &&& 31))) _ _ q7) rfl rfl (Nat.le_of_ble_eq_true rfl) ?_
          obtain ⟨v9, ev9, h⟩ := zl_some h
          refine z_iinc (pc := 68) (q := 3) (v := v9) (lo' := [(3, .int v9), (0, .ref 52), (1, .int x1), (2, .int x2)]) dX6_seatFrom_68 rfl (by rw [ev9, zci_1]) (by decide) rfl ?_
          refine z_goto (pc := 71) (tgt := 20) dX6_seatFrom_71 (by decide) ?_
          exact z_sub [1, 2, 3, 0] rfl (ih x1 x2 v9 T8 h)
set_option maxRecDepth 100000 in
theorem wb_X6_seatFrom_52 (l : Launch) {kF : Nat} (hkF : 2 ≤ kF) {F : Int32 → Int32 → zS → Option zS} (hF : ∀ (x1 : Int32) (x2 : Int32) (S : zS) (S1 : zS), F x1 x2 S = some S1 → zMet zLX l yX6_seatFrom cX6_seatFrom 4 none kF [.ref 52, .int x1, .int x2] S none S1) {x1 : Int32} {x2 : Int32} {S : zS} {S1 : zS} (h : fb_X6_seatFrom_52 F x1 x2 S = some S1) : zMet zLX l yX6_seatFrom cX6_seatFrom 4 none (kF + 1) [.ref 52, .int x1, .int x2] S none S1 := by
  unfold fb_X6_seatFrom_52 at h
  refine zMet.of (by decide +kernel) (Nat.le_of_ble_eq_true rfl) ?_
  show WA zLX l RX6 cX6_seatFrom 4 none (kF + 1) none S1 0 [(0, .ref 52), (1, .int x1), (2, .int x2)] [] S
  refine z_iload_n (pc := 0) (q := 1) dX6_seatFrom_0 rfl rfl ?_
  refine z_aload_n (pc := 1) (q := 0) dX6_seatFrom_1 rfl rfl ?_
  refine z_getI (pc := 2) dX6_seatFrom_2 zf_X6_27 gX_52_1 ?_
  refine z_icmp_ge (pc := 5) (tgt := 13) dX6_seatFrom_5 (by decide) (fun c1 => ?_) (fun c1 => ?_)
  · have h := ze_some c1 h
    exact z_sub [0] rfl (w_X6_seatFrom_52_B13 l hkF hF S h)
  · have h := zt_some c1 h
    refine z_iload_n (pc := 8) (q := 1) dX6_seatFrom_8 rfl rfl ?_
    refine z_iconst (pc := 9) (v := 5) dX6_seatFrom_9 zci_5 ?_
    refine z_icmp_lt (pc := 10) (tgt := 18) dX6_seatFrom_10 (by decide) (fun c2 => ?_) (fun c2 => ?_)
    · have h := zt_some c2 h
      refine z_iconst (pc := 18) (v := 0) dX6_seatFrom_18 zci_0 ?_
      refine z_istore_n (pc := 19) (lo' := [(3, .int 0), (0, .ref 52), (1, .int x1), (2, .int x2)]) dX6_seatFrom_19 rfl (by decide) rfl ?_
      exact z_sub [1, 2, 3, 0] rfl (w_X6_seatFrom_52_L20 l hkF hF zN x1 x2 0 S h)
    · have h := ze_some c2 h
      exact z_sub [0] rfl (w_X6_seatFrom_52_B13 l hkF hF S h)
def f_X6_seatFrom_52 : Nat → Int32 → Int32 → zS → Option zS
  | 0, _, _, _ => none
  | d + 1, x1, x2, S => fb_X6_seatFrom_52 (f_X6_seatFrom_52 d) x1 x2 S
theorem wd_X6_seatFrom_52 (l : Launch) : ∀ (d : Nat) (x1 : Int32) (x2 : Int32) (S : zS) (S1 : zS), f_X6_seatFrom_52 d x1 x2 S = some S1 → zMet zLX l yX6_seatFrom cX6_seatFrom 4 none (2 + 1 * d) [.ref 52, .int x1, .int x2] S none S1 := by
  intro d
  induction d with
  | zero =>
    intro x1 x2 S S1 h
    exact nomatch h
  | succ d ih =>
    intro x1 x2 S S1 h
    rw [f_X6_seatFrom_52] at h
    exact wb_X6_seatFrom_52 l (kF := 2 + 1 * d) (by omega) ih h
theorem w_X6_seatFrom_52 (l : Launch) (d : Nat) {x1 : Int32} {x2 : Int32} {S : zS} {S1 : zS} (h : f_X6_seatFrom_52 d x1 x2 S = some S1) : zMet zLX l yX6_seatFrom cX6_seatFrom 4 none (2 + 1 * d) [.ref 52, .int x1, .int x2] S none S1 := wd_X6_seatFrom_52 l d x1 x2 S S1 h
def f_X8_isKnown_47 (x1 : Int32) (x2 : Int32) (S : zS) : Option (Int32 × zS) :=
  if x1 < 0 then
    some (0, S)
  else
    if x1 < (S.1 47 0) then
      if x1 < 30 then
        if zin x1 30 then
        if x2 < (S.1 50 x1.toNatClampNeg) then
          some (0, S)
        else
          if zin x1 30 then
          if (S.1 51 x1.toNatClampNeg) = (-1) then
            some (1, S)
          else
            if zin x1 30 then
            if x2 < (S.1 51 x1.toNatClampNeg) then
              some (1, S)
            else
              some (0, S) else none else none else none
      else
        some (0, S)
    else
      some (0, S)
set_option maxRecDepth 100000 in
theorem w_X8_isKnown_47 (l : Launch) {x1 : Int32} {x2 : Int32} {S : zS} {r : Int32} {S1 : zS} (h : f_X8_isKnown_47 x1 x2 S = some (r, S1)) : zMet zLX l yX8_isKnown cX8_isKnown 3 (some .boolean) 1 [.ref 47, .int x1, .int x2] S (some (.int r)) S1 := by
  unfold f_X8_isKnown_47 at h
  refine zMet.of (by decide +kernel) (Nat.le_of_ble_eq_true rfl) ?_
  show WA zLX l RX8 cX8_isKnown 3 (some .boolean) 1 (some (.int r)) S1 0 [(0, .ref 47), (1, .int x1), (2, .int x2)] [] S
  refine z_iload_n (pc := 0) (q := 1) dX8_isKnown_0 rfl rfl ?_
  refine z_if_lt (pc := 1) (tgt := 28) dX8_isKnown_1 (by decide) (fun c1 => ?_) (fun c1 => ?_)
  · have h := zt_some c1 h
    refine z_iconst (pc := 28) (v := 0) dX8_isKnown_28 zci_0 ?_
    obtain ⟨rfl, rfl⟩ := zr_some h
    exact z_zret dX8_isKnown_29 rfl
  · have h := ze_some c1 h
    refine z_iload_n (pc := 4) (q := 1) dX8_isKnown_4 rfl rfl ?_
    refine z_aload_n (pc := 5) (q := 0) dX8_isKnown_5 rfl rfl ?_
    refine z_getI (pc := 6) dX8_isKnown_6 zf_X8_24 gX_47_0 ?_
    refine z_icmp_ge (pc := 9) (tgt := 28) dX8_isKnown_9 (by decide) (fun c2 => ?_) (fun c2 => ?_)
    · have h := ze_some c2 h
      refine z_iconst (pc := 28) (v := 0) dX8_isKnown_28 zci_0 ?_
      obtain ⟨rfl, rfl⟩ := zr_some h
      exact z_zret dX8_isKnown_29 rfl
    · have h := zt_some c2 h
      refine z_iload_n (pc := 12) (q := 1) dX8_isKnown_12 rfl rfl ?_
      refine z_bipush (pc := 13) (v := 30) dX8_isKnown_13 zcb_30 ?_
      refine z_icmp_ge (pc := 15) (tgt := 28) dX8_isKnown_15 (by decide) (fun c3 => ?_) (fun c3 => ?_)
      · have h := ze_some c3 h
        refine z_iconst (pc := 28) (v := 0) dX8_isKnown_28 zci_0 ?_
        obtain ⟨rfl, rfl⟩ := zr_some h
        exact z_zret dX8_isKnown_29 rfl
      · have h := zt_some c3 h
        refine z_aload_n (pc := 18) (q := 0) dX8_isKnown_18 rfl rfl ?_
        refine z_getR (pc := 19) dX8_isKnown_19 zf_X8_18 gX_47_4 ?_
        refine z_iload_n (pc := 22) (q := 1) dX8_isKnown_22 rfl rfl ?_
        obtain ⟨c4, h⟩ := zg_some h
        refine z_iald (pc := 23) dX8_isKnown_23 aX_50 c4 ?_
        refine z_iload_n (pc := 24) (q := 2) dX8_isKnown_24 rfl rfl ?_
        refine z_icmp_le (pc := 25) (tgt := 30) dX8_isKnown_25 (by decide) (fun c5 => ?_) (fun c5 => ?_)
        · have h := ze_some c5 h
          refine z_aload_n (pc := 30) (q := 0) dX8_isKnown_30 rfl rfl ?_
          refine z_getR (pc := 31) dX8_isKnown_31 zf_X8_21 gX_47_5 ?_
          refine z_iload_n (pc := 34) (q := 1) dX8_isKnown_34 rfl rfl ?_
          obtain ⟨c6, h⟩ := zg_some h
          refine z_iald (pc := 35) dX8_isKnown_35 aX_51 c6 ?_
          refine z_iconst (pc := 36) (v := (-1)) dX8_isKnown_36 zci_m1 ?_
          refine z_icmp_eq (pc := 37) (tgt := 50) dX8_isKnown_37 (by decide) (fun c7 => ?_) (fun c7 => ?_)
          · have h := zt_some c7 h
            refine z_iconst (pc := 50) (v := 1) dX8_isKnown_50 zci_1 ?_
            refine z_goto (pc := 51) (tgt := 55) dX8_isKnown_51 (by decide) ?_
            obtain ⟨rfl, rfl⟩ := zr_some h
            exact z_zret dX8_isKnown_55 rfl
          · have h := ze_some c7 h
            refine z_aload_n (pc := 40) (q := 0) dX8_isKnown_40 rfl rfl ?_
            refine z_getR (pc := 41) dX8_isKnown_41 zf_X8_21 gX_47_5 ?_
            refine z_iload_n (pc := 44) (q := 1) dX8_isKnown_44 rfl rfl ?_
            obtain ⟨c8, h⟩ := zg_some h
            refine z_iald (pc := 45) dX8_isKnown_45 aX_51 c8 ?_
            refine z_iload_n (pc := 46) (q := 2) dX8_isKnown_46 rfl rfl ?_
            refine z_icmp_le (pc := 47) (tgt := 54) dX8_isKnown_47 (by decide) (fun c9 => ?_) (fun c9 => ?_)
            · have h := ze_some c9 h
              refine z_iconst (pc := 54) (v := 0) dX8_isKnown_54 zci_0 ?_
              obtain ⟨rfl, rfl⟩ := zr_some h
              exact z_zret dX8_isKnown_55 rfl
            · have h := zt_some c9 h
              refine z_iconst (pc := 50) (v := 1) dX8_isKnown_50 zci_1 ?_
              refine z_goto (pc := 51) (tgt := 55) dX8_isKnown_51 (by decide) ?_
              obtain ⟨rfl, rfl⟩ := zr_some h
              exact z_zret dX8_isKnown_55 rfl
        · have h := zt_some c5 h
          refine z_iconst (pc := 28) (v := 0) dX8_isKnown_28 zci_0 ?_
          obtain ⟨rfl, rfl⟩ := zr_some h
          exact z_zret dX8_isKnown_29 rfl
def f_X6_isSeated_52 (x1 : Int32) (S : zS) : Option (Int32 × zS) :=
  if x1 < 0 then
    some (0, S)
  else
    if x1 < (S.1 52 1) then
      if x1 < 5 then
        some (1, S)
      else
        some (0, S)
    else
      some (0, S)
set_option maxRecDepth 100000 in
theorem w_X6_isSeated_52 (l : Launch) {x1 : Int32} {S : zS} {r : Int32} {S1 : zS} (h : f_X6_isSeated_52 x1 S = some (r, S1)) : zMet zLX l yX6_isSeated cX6_isSeated 2 (some .boolean) 1 [.ref 52, .int x1] S (some (.int r)) S1 := by
  unfold f_X6_isSeated_52 at h
  refine zMet.of (by decide +kernel) (Nat.le_of_ble_eq_true rfl) ?_
  show WA zLX l RX6 cX6_isSeated 2 (some .boolean) 1 (some (.int r)) S1 0 [(0, .ref 52), (1, .int x1)] [] S
  refine z_iload_n (pc := 0) (q := 1) dX6_isSeated_0 rfl rfl ?_
  refine z_if_lt (pc := 1) (tgt := 21) dX6_isSeated_1 (by decide) (fun c1 => ?_) (fun c1 => ?_)
  · have h := zt_some c1 h
    refine z_iconst (pc := 21) (v := 0) dX6_isSeated_21 zci_0 ?_
    obtain ⟨rfl, rfl⟩ := zr_some h
    exact z_zret dX6_isSeated_22 rfl
  · have h := ze_some c1 h
    refine z_iload_n (pc := 4) (q := 1) dX6_isSeated_4 rfl rfl ?_
    refine z_aload_n (pc := 5) (q := 0) dX6_isSeated_5 rfl rfl ?_
    refine z_getI (pc := 6) dX6_isSeated_6 zf_X6_27 gX_52_1 ?_
    refine z_icmp_ge (pc := 9) (tgt := 21) dX6_isSeated_9 (by decide) (fun c2 => ?_) (fun c2 => ?_)
    · have h := ze_some c2 h
      refine z_iconst (pc := 21) (v := 0) dX6_isSeated_21 zci_0 ?_
      obtain ⟨rfl, rfl⟩ := zr_some h
      exact z_zret dX6_isSeated_22 rfl
    · have h := zt_some c2 h
      refine z_iload_n (pc := 12) (q := 1) dX6_isSeated_12 rfl rfl ?_
      refine z_iconst (pc := 13) (v := 5) dX6_isSeated_13 zci_5 ?_
      refine z_icmp_ge (pc := 14) (tgt := 21) dX6_isSeated_14 (by decide) (fun c3 => ?_) (fun c3 => ?_)
      · have h := ze_some c3 h
        refine z_iconst (pc := 21) (v := 0) dX6_isSeated_21 zci_0 ?_
        obtain ⟨rfl, rfl⟩ := zr_some h
        exact z_zret dX6_isSeated_22 rfl
      · have h := zt_some c3 h
        refine z_iconst (pc := 17) (v := 1) dX6_isSeated_17 zci_1 ?_
        refine z_goto (pc := 18) (tgt := 22) dX6_isSeated_18 (by decide) ?_
        obtain ⟨rfl, rfl⟩ := zr_some h
        exact z_zret dX6_isSeated_22 rfl
def f_X6_bitOf (x0 : Int32) (S : zS) : Option (Int32 × zS) :=
  if x0 < 0 then
    some (0, S)
  else
    some (1 <<< (x0 &&& 31), S)
set_option maxRecDepth 100000 in
theorem w_X6_bitOf (l : Launch) {x0 : Int32} {S : zS} {r : Int32} {S1 : zS} (h : f_X6_bitOf x0 S = some (r, S1)) : zMet zLX l yX6_bitOf cX6_bitOf 1 (some .int) 1 [.int x0] S (some (.int r)) S1 := by
  unfold f_X6_bitOf at h
  refine zMet.of (by decide +kernel) (Nat.le_of_ble_eq_true rfl) ?_
  show WA zLX l RX6 cX6_bitOf 1 (some .int) 1 (some (.int r)) S1 0 [(0, .int x0)] [] S
  refine z_iload_n (pc := 0) (q := 0) dX6_bitOf_0 rfl rfl ?_
  refine z_if_ge (pc := 1) (tgt := 8) dX6_bitOf_1 (by decide) (fun c1 => ?_) (fun c1 => ?_)
  · have h := ze_some c1 h
    refine z_iconst (pc := 8) (v := 1) dX6_bitOf_8 zci_1 ?_
    refine z_iload_n (pc := 9) (q := 0) dX6_bitOf_9 rfl rfl ?_
    refine z_ishl (pc := 10) dX6_bitOf_10 ?_
    obtain ⟨rfl, rfl⟩ := zr_some h
    exact z_iret dX6_bitOf_11
  · have h := zt_some c1 h
    refine z_iconst (pc := 4) (v := 0) dX6_bitOf_4 zci_0 ?_
    refine z_goto (pc := 5) (tgt := 11) dX6_bitOf_5 (by decide) ?_
    obtain ⟨rfl, rfl⟩ := zr_some h
    exact z_iret dX6_bitOf_11
def f_X6_gather_52_47_13_B173  (S : zS) : Option zS :=
  zu (f_X6_seatFrom_52 8 0 0 S) fun T2 =>
  some T2
def f_X6_gather_52_47_13_L91 : Nat → Int32 → Int32 → zS → Option zS
  | 0, _, _, _ => none
  | n + 1, x2, x5, S =>
    if x5 < (S.1 47 0) then
      if x5 < 30 then
        if zin x5 30 then
        zlet (S.1 48 x5.toNatClampNeg) fun v4 =>
        if zin x5 30 then
        zlet (S.1 49 x5.toNatClampNeg) fun v6 =>
        zb (f_X8_isKnown_47 x5 x2 S) fun r9 T8 =>
        if r9 = 0 then
          zlet (x5 + 1) fun v11 =>
          (f_X6_gather_52_47_13_L91 n) x2 v11 T8
        else
          zb (f_X6_isSeated_52 v4 T8) fun r13 T12 =>
          if r13 = 0 then
            zlet (x5 + 1) fun v15 =>
            (f_X6_gather_52_47_13_L91 n) x2 v15 T12
          else
            zb (f_X6_isSeated_52 v6 T12) fun r17 T16 =>
            if r17 = 0 then
              zlet (x5 + 1) fun v19 =>
              (f_X6_gather_52_47_13_L91 n) x2 v19 T16
            else
              if zin v6 5 then
              if zin v6 5 then
              zlet (zput T16 53 v6.toNatClampNeg ((T16.1 53 v6.toNatClampNeg) ||| (1 <<< (v4 &&& 31)))) fun T21 =>
              zlet (x5 + 1) fun v22 =>
              (f_X6_gather_52_47_13_L91 n) x2 v22 T21 else none else none else none else none
      else
        f_X6_gather_52_47_13_B173 S
    else
      f_X6_gather_52_47_13_B173 S
def f_X6_gather_52_47_13_L45 : Nat → Int32 → Int32 → zS → Option zS
  | 0, _, _, _ => none
  | n + 1, x2, x5, S =>
    if x5 < (S.1 52 1) then
      if zin x5 12 then
      zb (f_X6_bitOf (S.1 18 x5.toNatClampNeg) S) fun r5 T4 =>
      if zin x5 12 then
      zb (f_X6_bitOf (T4.1 19 x5.toNatClampNeg) T4) fun r9 T8 =>
      if zin x5 5 then
      zlet (zput T8 53 x5.toNatClampNeg (r5 ||| r9)) fun T11 =>
      zlet (x5 + 1) fun v12 =>
      (f_X6_gather_52_47_13_L45 n) x2 v12 T11 else none else none else none
    else
      f_X6_gather_52_47_13_L91 zN x2 0 S
def f_X6_gather_52_47_13_L18 : Nat → Int32 → Int32 → zS → Option zS
  | 0, _, _, _ => none
  | n + 1, x2, x5, S =>
    if x5 < 25 then
      if zin x5 25 then
      zlet (zput S 55 x5.toNatClampNeg 0) fun T3 =>
      zlet (x5 + 1) fun v4 =>
      (f_X6_gather_52_47_13_L18 n) x2 v4 T3 else none
    else
      f_X6_gather_52_47_13_L45 zN x2 0 S
def f_X6_gather_52_47_13 (x2 : Int32) (x4 : Int32) (S : zS) : Option zS :=
  zlet (zput S 52 1 (zmin x4 5)) fun T1 =>
  zlet (zput T1 52 0 0) fun T2 =>
  f_X6_gather_52_47_13_L18 zN x2 0 T2
set_option maxRecDepth 100000 in
theorem w_X6_gather_52_47_13_B173 (l : Launch) {S1 : zS}  (S : zS) (h : f_X6_gather_52_47_13_B173 S = some S1) : WA zLX l RX6 cX6_gather 8 none 11 none S1 173 [(0, .ref 52)] [] S := by
  unfold f_X6_gather_52_47_13_B173 at h
  refine z_aload_n (pc := 173) (q := 0) dX6_gather_173 rfl rfl ?_
  refine z_iconst (pc := 174) (v := 0) dX6_gather_174 zci_0 ?_
  refine z_iconst (pc := 175) (v := 0) dX6_gather_175 zci_0 ?_
  obtain ⟨T2, q1, h⟩ := zu_some h
  refine z_callVv (pc := 176) (st := []) [.int 0, .int 0] dX6_gather_176 zm_X6_65 zM_X6_seatFrom (by decide) oX_52 rfl (w_X6_seatFrom_52 l 8 q1) rfl rfl (Nat.le_of_ble_eq_true rfl) ?_
  cases h
  exact z_vret dX6_gather_179
set_option maxRecDepth 100000 in
theorem w_X6_gather_52_47_13_L91 (l : Launch) {S1 : zS} : ∀ (n : Nat) (x2 : Int32) (x5 : Int32) (S : zS), f_X6_gather_52_47_13_L91 n x2 x5 S = some S1 → WA zLX l RX6 cX6_gather 8 none 11 none S1 91 [(0, .ref 52), (1, .ref 47), (2, .int x2), (5, .int x5)] [] S := by
  intro n
  induction n with
  | zero =>
    intro x2 x5 S h
    exact nomatch h
  | succ n ih =>
    intro x2 x5 S h
    rw [f_X6_gather_52_47_13_L91] at h
    refine z_iload (pc := 91) (q := 3) dX6_gather_91 rfl ?_
    refine z_aload_n (pc := 93) (q := 1) dX6_gather_93 rfl rfl ?_
    refine z_getI (pc := 94) dX6_gather_94 zf_X6_46 gX_47_0 ?_
    refine z_icmp_ge (pc := 97) (tgt := 173) dX6_gather_97 (by decide) (fun c1 => ?_) (fun c1 => ?_)
    · have h := ze_some c1 h
      exact z_sub [0] rfl (w_X6_gather_52_47_13_B173 l S h)
    · have h := zt_some c1 h
      refine z_iload (pc := 100) (q := 3) dX6_gather_100 rfl ?_
      refine z_bipush (pc := 102) (v := 30) dX6_gather_102 zcb_30 ?_
      refine z_icmp_ge (pc := 104) (tgt := 173) dX6_gather_104 (by decide) (fun c2 => ?_) (fun c2 => ?_)
      · have h := ze_some c2 h
        exact z_sub [0] rfl (w_X6_gather_52_47_13_B173 l S h)
      · have h := zt_some c2 h
        refine z_aload_n (pc := 107) (q := 1) dX6_gather_107 rfl rfl ?_
        refine z_getR (pc := 108) dX6_gather_108 zf_X6_51 gX_47_2 ?_
        refine z_iload (pc := 111) (q := 3) dX6_gather_111 rfl ?_
        obtain ⟨c3, h⟩ := zg_some h
        refine z_iald (pc := 113) dX6_gather_113 aX_48 c3 ?_
        obtain ⟨v4, ev4, h⟩ := zl_some h
        refine z_top ev4 ?_
        refine z_istore (pc := 114) (lo' := [(6, .int v4), (0, .ref 52), (1, .ref 47), (2, .int x2), (5, .int x5)]) dX6_gather_114 (by decide) rfl ?_
        refine z_aload_n (pc := 116) (q := 2) dX6_gather_116 rfl rfl ?_
        refine z_getR (pc := 117) dX6_gather_117 zf_X6_54 gX_47_3 ?_
        refine z_iload (pc := 120) (q := 4) dX6_gather_120 rfl ?_
        obtain ⟨c5, h⟩ := zg_some h
        refine z_iald (pc := 122) dX6_gather_122 aX_49 c5 ?_
        obtain ⟨v6, ev6, h⟩ := zl_some h
        refine z_top ev6 ?_
        refine z_istore (pc := 123) (lo' := [(7, .int v6), (6, .int v4), (0, .ref 52), (1, .ref 47), (2, .int x2), (5, .int x5)]) dX6_gather_123 (by decide) rfl ?_
        refine z_aload_n (pc := 125) (q := 3) dX6_gather_125 rfl rfl ?_
        refine z_iload (pc := 126) (q := 5) dX6_gather_126 rfl ?_
        refine z_iload_n (pc := 128) (q := 4) dX6_gather_128 rfl rfl ?_
        obtain ⟨r9, T8, q7, h⟩ := zb_some h
        refine z_callVi (pc := 129) (st := []) [.int x5, .int x2] dX6_gather_129 zm_X6_57 zM_X8_isKnown (by decide) oX_47 rfl (w_X8_isKnown_47 l q7) rfl rfl (Nat.le_of_ble_eq_true rfl) ?_
        refine z_if_eq (pc := 132) (tgt := 167) dX6_gather_132 (by decide) (fun c10 => ?_) (fun c10 => ?_)
        · have h := zt_some c10 h
          obtain ⟨v11, ev11, h⟩ := zl_some h
          refine z_iinc (pc := 167) (q := 5) (v := v11) (lo' := [(5, .int v11), (7, .int v6), (6, .int v4), (0, .ref 52), (1, .ref 47), (2, .int x2)]) dX6_gather_167 rfl (by rw [ev11, zci_1]) (by decide) rfl ?_
          refine z_goto (pc := 170) (tgt := 91) dX6_gather_170 (by decide) ?_
          exact z_sub [3, 4, 5, 0] rfl (ih x2 v11 T8 h)
        · have h := ze_some c10 h
          refine z_aload_n (pc := 135) (q := 2) dX6_gather_135 rfl rfl ?_
          refine z_iload (pc := 136) (q := 1) dX6_gather_136 rfl ?_
          obtain ⟨r13, T12, q11, h⟩ := zb_some h
          refine z_callVi (pc := 138) (st := []) [.int v4] dX6_gather_138 zm_X6_61 zM_X6_isSeated (by decide) oX_52 rfl (w_X6_isSeated_52 l q11) rfl rfl (Nat.le_of_ble_eq_true rfl) ?_
          refine z_if_eq (pc := 141) (tgt := 167) dX6_gather_141 (by decide) (fun c14 => ?_) (fun c14 => ?_)
          · have h := zt_some c14 h
            obtain ⟨v15, ev15, h⟩ := zl_some h
            refine z_iinc (pc := 167) (q := 5) (v := v15) (lo' := [(5, .int v15), (7, .int v6), (6, .int v4), (0, .ref 52), (1, .ref 47), (2, .int x2)]) dX6_gather_167 rfl (by rw [ev15, zci_1]) (by decide) rfl ?_
            refine z_goto (pc := 170) (tgt := 91) dX6_gather_170 (by decide) ?_
            exact z_sub [3, 4, 5, 0] rfl (ih x2 v15 T12 h)
          · have h := ze_some c14 h
            refine z_aload_n (pc := 144) (q := 2) dX6_gather_144 rfl rfl ?_
            refine z_iload (pc := 145) (q := 0) dX6_gather_145 rfl ?_
            obtain ⟨r17, T16, q15, h⟩ := zb_some h
            refine z_callVi (pc := 147) (st := []) [.int v6] dX6_gather_147 zm_X6_61 zM_X6_isSeated (by decide) oX_52 rfl (w_X6_isSeated_52 l q15) rfl rfl (Nat.le_of_ble_eq_true rfl) ?_
            refine z_if_eq (pc := 150) (tgt := 167) dX6_gather_150 (by decide) (fun c18 => ?_) (fun c18 => ?_)
            · have h := zt_some c18 h
              obtain ⟨v19, ev19, h⟩ := zl_some h
              refine z_iinc (pc := 167) (q := 5) (v := v19) (lo' := [(5, .int v19), (7, .int v6), (6, .int v4), (0, .ref 52), (1, .ref 47), (2, .int x2)]) dX6_gather_167 rfl (by rw [ev19, zci_1]) (by decide) rfl ?_
              refine z_goto (pc := 170) (tgt := 91) dX6_gather_170 (by decide) ?_
              exact z_sub [3, 4, 5, 0] rfl (ih x2 v19 T16 h)
            · have h := ze_some c18 h
              refine z_aload_n (pc := 153) (q := 2) dX6_gather_153 rfl rfl ?_
              refine z_getR (pc := 154) dX6_gather_154 zf_X6_9 gX_52_2 ?_
              refine z_iload (pc := 157) (q := 0) dX6_gather_157 rfl ?_
              refine z_dup2 (pc := 159) dX6_gather_159 rfl rfl ?_
              obtain ⟨c19, h⟩ := zg_some h
              refine z_iald (pc := 160) dX6_gather_160 aX_53 c19 ?_
              refine z_iconst (pc := 161) (v := 1) dX6_gather_161 zci_1 ?_
              refine z_iload (pc := 162) (q := 1) dX6_gather_162 rfl ?_
              refine z_ishl (pc := 164) dX6_gather_164 ?_
              refine z_ior (pc := 165) dX6_gather_165 ?_
              obtain ⟨c20, h⟩ := zg_some h
              obtain ⟨T21, eT21, h⟩ := zl_some h
              refine z_iast (pc := 166) dX6_gather_166 aX_53 c20 eT21 ?_
              obtain ⟨v22, ev22, h⟩ := zl_some h
              refine z_iinc (pc := 167) (q := 5) (v := v22) (lo' := [(5, .int v22), (7, .int v6), (6, .int v4), (0, .ref 52), (1, .ref 47), (2, .int x2)]) dX6_gather_167 rfl (by rw [ev22, zci_1]) (by decide) rfl ?_
              refine z_goto (pc := 170) (tgt := 91) dX6_gather_170 (by decide) ?_
              exact z_sub [3, 4, 5, 0] rfl (ih x2 v22 T21 h)
set_option maxRecDepth 100000 in
theorem w_X6_gather_52_47_13_L45 (l : Launch) {S1 : zS} : ∀ (n : Nat) (x2 : Int32) (x5 : Int32) (S : zS), f_X6_gather_52_47_13_L45 n x2 x5 S = some S1 → WA zLX l RX6 cX6_gather 8 none 11 none S1 45 [(0, .ref 52), (1, .ref 47), (2, .int x2), (3, .ref 13), (5, .int x5)] [] S := by
  intro n
  induction n with
  | zero =>
    intro x2 x5 S h
    exact nomatch h
  | succ n ih =>
    intro x2 x5 S h
    rw [f_X6_gather_52_47_13_L45] at h
    refine z_iload (pc := 45) (q := 4) dX6_gather_45 rfl ?_
    refine z_aload_n (pc := 47) (q := 0) dX6_gather_47 rfl rfl ?_
    refine z_getI (pc := 48) dX6_gather_48 zf_X6_27 gX_52_1 ?_
    refine z_icmp_ge (pc := 51) (tgt := 88) dX6_gather_51 (by decide) (fun c1 => ?_) (fun c1 => ?_)
    · have h := ze_some c1 h
      refine z_iconst (pc := 88) (v := 0) dX6_gather_88 zci_0 ?_
      refine z_istore (pc := 89) (lo' := [(5, .int 0), (0, .ref 52), (1, .ref 47), (2, .int x2), (3, .ref 13)]) dX6_gather_89 (by decide) rfl ?_
      exact z_sub [1, 2, 3, 0] rfl (w_X6_gather_52_47_13_L91 l zN x2 0 S h)
    · have h := zt_some c1 h
      refine z_aload_n (pc := 54) (q := 0) dX6_gather_54 rfl rfl ?_
      refine z_getR (pc := 55) dX6_gather_55 zf_X6_9 gX_52_2 ?_
      refine z_iload (pc := 58) (q := 4) dX6_gather_58 rfl ?_
      refine z_aload_n (pc := 60) (q := 3) dX6_gather_60 rfl rfl ?_
      refine z_getR (pc := 61) dX6_gather_61 zf_X6_34 gX_13_4 ?_
      refine z_iload (pc := 64) (q := 4) dX6_gather_64 rfl ?_
      obtain ⟨c2, h⟩ := zg_some h
      refine z_iald (pc := 66) dX6_gather_66 aX_18 c2 ?_
      obtain ⟨r5, T4, q3, h⟩ := zb_some h
      refine z_callSi (pc := 67) (st := [.int x5, .ref 53]) [.int (S.1 18 x5.toNatClampNeg)] dX6_gather_67 zm_X6_39 zM_X6_bitOf (by decide) (w_X6_bitOf l q3) rfl rfl (Nat.le_of_ble_eq_true rfl) ?_
      refine z_aload_n (pc := 70) (q := 3) dX6_gather_70 rfl rfl ?_
      refine z_getR (pc := 71) dX6_gather_71 zf_X6_43 gX_13_5 ?_
      refine z_iload (pc := 74) (q := 4) dX6_gather_74 rfl ?_
      obtain ⟨c6, h⟩ := zg_some h
      refine z_iald (pc := 76) dX6_gather_76 aX_19 c6 ?_
      obtain ⟨r9, T8, q7, h⟩ := zb_some h
      refine z_callSi (pc := 77) (st := [.int r5, .int x5, .ref 53]) [.int (T4.1 19 x5.toNatClampNeg)] dX6_gather_77 zm_X6_39 zM_X6_bitOf (by decide) (w_X6_bitOf l q7) rfl rfl (Nat.le_of_ble_eq_true rfl) ?_
      refine z_ior (pc := 80) dX6_gather_80 ?_
      obtain ⟨c10, h⟩ := zg_some h
      obtain ⟨T11, eT11, h⟩ := zl_some h
      refine z_iast (pc := 81) dX6_gather_81 aX_53 c10 eT11 ?_
      obtain ⟨v12, ev12, h⟩ := zl_some h
      refine z_iinc (pc := 82) (q := 4) (v := v12) (lo' := [(5, .int v12), (0, .ref 52), (1, .ref 47), (2, .int x2), (3, .ref 13)]) dX6_gather_82 rfl (by rw [ev12, zci_1]) (by decide) rfl ?_
      refine z_goto (pc := 85) (tgt := 45) dX6_gather_85 (by decide) ?_
      exact z_sub [1, 2, 3, 4, 0] rfl (ih x2 v12 T11 h)
set_option maxRecDepth 100000 in
theorem w_X6_gather_52_47_13_L18 (l : Launch) {S1 : zS} : ∀ (n : Nat) (x2 : Int32) (x5 : Int32) (S : zS), f_X6_gather_52_47_13_L18 n x2 x5 S = some S1 → WA zLX l RX6 cX6_gather 8 none 11 none S1 18 [(0, .ref 52), (1, .ref 47), (2, .int x2), (3, .ref 13), (5, .int x5)] [] S := by
  intro n
  induction n with
  | zero =>
    intro x2 x5 S h
    exact nomatch h
  | succ n ih =>
    intro x2 x5 S h
    rw [f_X6_gather_52_47_13_L18] at h
    refine z_iload (pc := 18) (q := 4) dX6_gather_18 rfl ?_
    refine z_aload_n (pc := 20) (q := 0) dX6_gather_20 rfl rfl ?_
    refine z_getR (pc := 21) dX6_gather_21 zf_X6_18 gX_52_4 ?_
    refine z_alen (pc := 24) (v := 25) dX6_gather_24 aX_55 (by decide) (by decide) ?_
    refine z_icmp_ge (pc := 25) (tgt := 42) dX6_gather_25 (by decide) (fun c1 => ?_) (fun c1 => ?_)
    · have h := ze_some c1 h
      refine z_iconst (pc := 42) (v := 0) dX6_gather_42 zci_0 ?_
      refine z_istore (pc := 43) (lo' := [(5, .int 0), (0, .ref 52), (1, .ref 47), (2, .int x2), (3, .ref 13)]) dX6_gather_43 (by decide) rfl ?_
      exact z_sub [1, 2, 3, 4, 0] rfl (w_X6_gather_52_47_13_L45 l zN x2 0 S h)
    · have h := zt_some c1 h
      refine z_aload_n (pc := 28) (q := 0) dX6_gather_28 rfl rfl ?_
      refine z_getR (pc := 29) dX6_gather_29 zf_X6_18 gX_52_4 ?_
      refine z_iload (pc := 32) (q := 4) dX6_gather_32 rfl ?_
      refine z_iconst (pc := 34) (v := 0) dX6_gather_34 zci_0 ?_
      obtain ⟨c2, h⟩ := zg_some h
      obtain ⟨T3, eT3, h⟩ := zl_some h
      refine z_iast (pc := 35) dX6_gather_35 aX_55 c2 eT3 ?_
      obtain ⟨v4, ev4, h⟩ := zl_some h
      refine z_iinc (pc := 36) (q := 4) (v := v4) (lo' := [(5, .int v4), (0, .ref 52), (1, .ref 47), (2, .int x2), (3, .ref 13)]) dX6_gather_36 rfl (by rw [ev4, zci_1]) (by decide) rfl ?_
      refine z_goto (pc := 39) (tgt := 18) dX6_gather_39 (by decide) ?_
      exact z_sub [1, 2, 3, 4, 0] rfl (ih x2 v4 T3 h)
set_option maxRecDepth 100000 in
theorem w_X6_gather_52_47_13 (l : Launch) {x2 : Int32} {x4 : Int32} {S : zS} {S1 : zS} (h : f_X6_gather_52_47_13 x2 x4 S = some S1) : zMet zLX l yX6_gather cX6_gather 8 none 11 [.ref 52, .ref 47, .int x2, .ref 13, .int x4] S none S1 := by
  unfold f_X6_gather_52_47_13 at h
  refine zMet.of (by decide +kernel) (Nat.le_of_ble_eq_true rfl) ?_
  show WA zLX l RX6 cX6_gather 8 none 11 none S1 0 [(0, .ref 52), (1, .ref 47), (2, .int x2), (3, .ref 13), (4, .int x4)] [] S
  refine z_aload_n (pc := 0) (q := 0) dX6_gather_0 rfl rfl ?_
  refine z_iload (pc := 1) (q := 4) dX6_gather_1 rfl ?_
  refine z_iconst (pc := 3) (v := 5) dX6_gather_3 zci_5 ?_
  refine z_min (pc := 4) dX6_gather_4 zm_X6_21 zM_min.1 zM_min.2.1 zM_min.2.2 (by decide) (Nat.le_of_ble_eq_true rfl) ?_
  obtain ⟨T1, eT1, h⟩ := zl_some h
  refine z_putI (pc := 7) dX6_gather_7 zp_X6_27 gX_52_1 rfl rfl eT1 ?_
  refine z_aload_n (pc := 10) (q := 0) dX6_gather_10 rfl rfl ?_
  refine z_iconst (pc := 11) (v := 0) dX6_gather_11 zci_0 ?_
  obtain ⟨T2, eT2, h⟩ := zl_some h
  refine z_putI (pc := 12) dX6_gather_12 zp_X6_31 gX_52_0 rfl rfl eT2 ?_
  refine z_iconst (pc := 15) (v := 0) dX6_gather_15 zci_0 ?_
  refine z_istore (pc := 16) (lo' := [(5, .int 0), (0, .ref 52), (1, .ref 47), (2, .int x2), (3, .ref 13), (4, .int x4)]) dX6_gather_16 (by decide) rfl ?_
  exact z_sub [1, 2, 3, 4, 0] rfl (w_X6_gather_52_47_13_L18 l zN x2 0 T2 h)
def f_X11_orders (x1 : Int32) (S : zS) : Option (Int32 × zS) :=
  zu (f_X6_gather_52_47_13 x1 (S.1 37 0) S) fun T2 =>
  some (T2.1 52 0, T2)
set_option maxRecDepth 100000 in
theorem w_X11_orders (l : Launch) {x1 : Int32} {S : zS} {r : Int32} {S1 : zS} (h : f_X11_orders x1 S = some (r, S1)) : zMet zLX l yX11_orders cX11_orders 2 (some .int) 12 [.ref 0, .int x1] S (some (.int r)) S1 := by
  unfold f_X11_orders at h
  refine zMet.of (by decide +kernel) (Nat.le_of_ble_eq_true rfl) ?_
  show WA zLX l RX11 cX11_orders 2 (some .int) 12 (some (.int r)) S1 0 [(0, .ref 0), (1, .int x1)] [] S
  refine z_aload_n (pc := 0) (q := 0) dX11_orders_0 rfl rfl ?_
  refine z_getR (pc := 1) dX11_orders_1 zf_X11_66 gX_0_10 ?_
  refine z_aload_n (pc := 4) (q := 0) dX11_orders_4 rfl rfl ?_
  refine z_getR (pc := 5) dX11_orders_5 zf_X11_59 gX_0_9 ?_
  refine z_iload_n (pc := 8) (q := 1) dX11_orders_8 rfl rfl ?_
  refine z_aload_n (pc := 9) (q := 0) dX11_orders_9 rfl rfl ?_
  refine z_getR (pc := 10) dX11_orders_10 zf_X11_25 gX_0_3 ?_
  refine z_getR (pc := 13) dX11_orders_13 zf_X11_131 gX_5_13 ?_
  refine z_aload_n (pc := 16) (q := 0) dX11_orders_16 rfl rfl ?_
  refine z_getR (pc := 17) dX11_orders_17 zf_X11_35 gX_0_5 ?_
  refine z_getI (pc := 20) dX11_orders_20 zf_X11_118 gX_37_0 ?_
  obtain ⟨T2, q1, h⟩ := zu_some h
  refine z_callVv (pc := 23) (st := []) [.ref 47, .int x1, .ref 13, .int (S.1 37 0)] dX11_orders_23 zm_X11_318 zM_X6_gather (by decide) oX_52 rfl (w_X6_gather_52_47_13 l q1) rfl rfl (Nat.le_of_ble_eq_true rfl) ?_
  refine z_aload_n (pc := 26) (q := 0) dX11_orders_26 rfl rfl ?_
  refine z_getR (pc := 27) dX11_orders_27 zf_X11_66 gX_0_10 ?_
  refine z_getI (pc := 30) dX11_orders_30 zf_X11_322 gX_52_0 ?_
  obtain ⟨rfl, rfl⟩ := zr_some h
  exact z_iret dX11_orders_33
def f_X6_tallied_52 (x1 : Int32) (x2 : Int32) (S : zS) : Option (Int32 × zS) :=
  zlet ((x1 * 5) + x2) fun v1 =>
  if v1 < 0 then
    some (0, S)
  else
    if v1 < 25 then
      if zin v1 25 then
      some (S.1 55 v1.toNatClampNeg, S) else none
    else
      some (0, S)
set_option maxRecDepth 100000 in
theorem w_X6_tallied_52 (l : Launch) {x1 : Int32} {x2 : Int32} {S : zS} {r : Int32} {S1 : zS} (h : f_X6_tallied_52 x1 x2 S = some (r, S1)) : zMet zLX l yX6_tallied cX6_tallied 4 (some .int) 1 [.ref 52, .int x1, .int x2] S (some (.int r)) S1 := by
  unfold f_X6_tallied_52 at h
  refine zMet.of (by decide +kernel) (Nat.le_of_ble_eq_true rfl) ?_
  show WA zLX l RX6 cX6_tallied 4 (some .int) 1 (some (.int r)) S1 0 [(0, .ref 52), (1, .int x1), (2, .int x2)] [] S
  refine z_iload_n (pc := 0) (q := 1) dX6_tallied_0 rfl rfl ?_
  refine z_iconst (pc := 1) (v := 5) dX6_tallied_1 zci_5 ?_
  refine z_imul (pc := 2) dX6_tallied_2 ?_
  refine z_iload_n (pc := 3) (q := 2) dX6_tallied_3 rfl rfl ?_
  refine z_iadd (pc := 4) dX6_tallied_4 ?_
  obtain ⟨v1, ev1, h⟩ := zl_some h
  refine z_top ev1 ?_
  refine z_istore_n (pc := 5) (lo' := [(3, .int v1), (0, .ref 52), (1, .int x1), (2, .int x2)]) dX6_tallied_5 rfl (by decide) rfl ?_
  refine z_iload_n (pc := 6) (q := 0) dX6_tallied_6 rfl rfl ?_
  refine z_if_lt (pc := 7) (tgt := 28) dX6_tallied_7 (by decide) (fun c2 => ?_) (fun c2 => ?_)
  · have h := zt_some c2 h
    refine z_iconst (pc := 28) (v := 0) dX6_tallied_28 zci_0 ?_
    obtain ⟨rfl, rfl⟩ := zr_some h
    exact z_iret dX6_tallied_29
  · have h := ze_some c2 h
    refine z_iload_n (pc := 10) (q := 0) dX6_tallied_10 rfl rfl ?_
    refine z_aload_n (pc := 11) (q := 1) dX6_tallied_11 rfl rfl ?_
    refine z_getR (pc := 12) dX6_tallied_12 zf_X6_18 gX_52_4 ?_
    refine z_alen (pc := 15) (v := 25) dX6_tallied_15 aX_55 (by decide) (by decide) ?_
    refine z_icmp_ge (pc := 16) (tgt := 28) dX6_tallied_16 (by decide) (fun c3 => ?_) (fun c3 => ?_)
    · have h := ze_some c3 h
      refine z_iconst (pc := 28) (v := 0) dX6_tallied_28 zci_0 ?_
      obtain ⟨rfl, rfl⟩ := zr_some h
      exact z_iret dX6_tallied_29
    · have h := zt_some c3 h
      refine z_aload_n (pc := 19) (q := 1) dX6_tallied_19 rfl rfl ?_
      refine z_getR (pc := 20) dX6_tallied_20 zf_X6_18 gX_52_4 ?_
      refine z_iload_n (pc := 23) (q := 0) dX6_tallied_23 rfl rfl ?_
      obtain ⟨c4, h⟩ := zg_some h
      refine z_iald (pc := 24) dX6_tallied_24 aX_55 c4 ?_
      refine z_goto (pc := 25) (tgt := 29) dX6_tallied_25 (by decide) ?_
      obtain ⟨rfl, rfl⟩ := zr_some h
      exact z_iret dX6_tallied_29
def f_X6_surePlace_52_L2 : Nat → Int32 → Int32 → zS → Option (Int32 × zS)
  | 0, _, _, _ => none
  | n + 1, x1, x2, S =>
    if x2 < (S.1 52 1) then
      zb (f_X6_tallied_52 x1 x2 S) fun r4 T3 =>
      if r4 = (T3.1 52 0) then
        some (x2, T3)
      else
        zlet (x2 + 1) fun v6 =>
        (f_X6_surePlace_52_L2 n) x1 v6 T3
    else
      some ((-2), S)
def f_X6_surePlace_52 (x1 : Int32) (S : zS) : Option (Int32 × zS) :=
  f_X6_surePlace_52_L2 zN x1 0 S
set_option maxRecDepth 100000 in
theorem w_X6_surePlace_52_L2 (l : Launch) {r : Int32} {S1 : zS} : ∀ (n : Nat) (x1 : Int32) (x2 : Int32) (S : zS), f_X6_surePlace_52_L2 n x1 x2 S = some (r, S1) → WA zLX l RX6 cX6_surePlace 3 (some .int) 2 (some (.int r)) S1 2 [(0, .ref 52), (1, .int x1), (2, .int x2)] [] S := by
  intro n
  induction n with
  | zero =>
    intro x1 x2 S h
    exact nomatch h
  | succ n ih =>
    intro x1 x2 S h
    rw [f_X6_surePlace_52_L2] at h
    refine z_iload_n (pc := 2) (q := 2) dX6_surePlace_2 rfl rfl ?_
    refine z_aload_n (pc := 3) (q := 0) dX6_surePlace_3 rfl rfl ?_
    refine z_getI (pc := 4) dX6_surePlace_4 zf_X6_27 gX_52_1 ?_
    refine z_icmp_ge (pc := 7) (tgt := 31) dX6_surePlace_7 (by decide) (fun c1 => ?_) (fun c1 => ?_)
    · have h := ze_some c1 h
      refine z_bipush (pc := 31) (v := (-2)) dX6_surePlace_31 zcb_m2 ?_
      obtain ⟨rfl, rfl⟩ := zr_some h
      exact z_iret dX6_surePlace_33
    · have h := zt_some c1 h
      refine z_aload_n (pc := 10) (q := 0) dX6_surePlace_10 rfl rfl ?_
      refine z_iload_n (pc := 11) (q := 1) dX6_surePlace_11 rfl rfl ?_
      refine z_iload_n (pc := 12) (q := 2) dX6_surePlace_12 rfl rfl ?_
      obtain ⟨r4, T3, q2, h⟩ := zb_some h
      refine z_callVi (pc := 13) (st := []) [.int x1, .int x2] dX6_surePlace_13 zm_X6_72 zM_X6_tallied (by decide) oX_52 rfl (w_X6_tallied_52 l q2) rfl rfl (Nat.le_of_ble_eq_true rfl) ?_
      refine z_aload_n (pc := 16) (q := 0) dX6_surePlace_16 rfl rfl ?_
      refine z_getI (pc := 17) dX6_surePlace_17 zf_X6_31 gX_52_0 ?_
      refine z_icmp_ne (pc := 20) (tgt := 25) dX6_surePlace_20 (by decide) (fun c5 => ?_) (fun c5 => ?_)
      · have h := ze_some c5 h
        obtain ⟨v6, ev6, h⟩ := zl_some h
        refine z_iinc (pc := 25) (q := 2) (v := v6) (lo' := [(2, .int v6), (0, .ref 52), (1, .int x1)]) dX6_surePlace_25 rfl (by rw [ev6, zci_1]) (by decide) rfl ?_
        refine z_goto (pc := 28) (tgt := 2) dX6_surePlace_28 (by decide) ?_
        exact z_sub [1, 2, 0] rfl (ih x1 v6 T3 h)
      · have h := zt_some c5 h
        refine z_iload_n (pc := 23) (q := 2) dX6_surePlace_23 rfl rfl ?_
        obtain ⟨rfl, rfl⟩ := zr_some h
        exact z_iret dX6_surePlace_24
set_option maxRecDepth 100000 in
theorem w_X6_surePlace_52 (l : Launch) {x1 : Int32} {S : zS} {r : Int32} {S1 : zS} (h : f_X6_surePlace_52 x1 S = some (r, S1)) : zMet zLX l yX6_surePlace cX6_surePlace 3 (some .int) 2 [.ref 52, .int x1] S (some (.int r)) S1 := by
  unfold f_X6_surePlace_52 at h
  refine zMet.of (by decide +kernel) (Nat.le_of_ble_eq_true rfl) ?_
  show WA zLX l RX6 cX6_surePlace 3 (some .int) 2 (some (.int r)) S1 0 [(0, .ref 52), (1, .int x1)] [] S
  refine z_iconst (pc := 0) (v := 0) dX6_surePlace_0 zci_0 ?_
  refine z_istore_n (pc := 1) (lo' := [(2, .int 0), (0, .ref 52), (1, .int x1)]) dX6_surePlace_1 rfl (by decide) rfl ?_
  exact z_sub [1, 2, 0] rfl (w_X6_surePlace_52_L2 l zN x1 0 S h)
def f_X11_sure (x1 : Int32) (x2 : Int32) (S : zS) : Option (Int32 × zS) :=
  zb (f_X11_isOrdered x1 S) fun r3 T2 =>
  if r3 = 0 then
    some ((-1), T2)
  else
    zu (f_X6_gather_52_47_13 x2 (T2.1 37 0) T2) fun T6 =>
    if (T6.1 52 0) = 0 then
      some ((-1), T6)
    else
      zb (f_X6_surePlace_52 x1 T6) fun r10 T9 =>
      some (r10, T9)
set_option maxRecDepth 100000 in
theorem w_X11_sure (l : Launch) {x1 : Int32} {x2 : Int32} {S : zS} {r : Int32} {S1 : zS} (h : f_X11_sure x1 x2 S = some (r, S1)) : zMet zLX l yX11_sure cX11_sure 3 (some .int) 12 [.ref 0, .int x1, .int x2] S (some (.int r)) S1 := by
  unfold f_X11_sure at h
  refine zMet.of (by decide +kernel) (Nat.le_of_ble_eq_true rfl) ?_
  show WA zLX l RX11 cX11_sure 3 (some .int) 12 (some (.int r)) S1 0 [(0, .ref 0), (1, .int x1), (2, .int x2)] [] S
  refine z_aload_n (pc := 0) (q := 0) dX11_sure_0 rfl rfl ?_
  refine z_iload_n (pc := 1) (q := 1) dX11_sure_1 rfl rfl ?_
  obtain ⟨r3, T2, q1, h⟩ := zb_some h
  refine z_callVi (pc := 2) (st := []) [.int x1] dX11_sure_2 zm_X11_305 zM_X11_isOrdered (by decide) oX_0 rfl (w_X11_isOrdered l q1) rfl rfl (Nat.le_of_ble_eq_true rfl) ?_
  refine z_if_ne (pc := 5) (tgt := 10) dX11_sure_5 (by decide) (fun c4 => ?_) (fun c4 => ?_)
  · have h := ze_some c4 h
    refine z_aload_n (pc := 10) (q := 0) dX11_sure_10 rfl rfl ?_
    refine z_getR (pc := 11) dX11_sure_11 zf_X11_66 gX_0_10 ?_
    refine z_aload_n (pc := 14) (q := 0) dX11_sure_14 rfl rfl ?_
    refine z_getR (pc := 15) dX11_sure_15 zf_X11_59 gX_0_9 ?_
    refine z_iload_n (pc := 18) (q := 2) dX11_sure_18 rfl rfl ?_
    refine z_aload_n (pc := 19) (q := 0) dX11_sure_19 rfl rfl ?_
    refine z_getR (pc := 20) dX11_sure_20 zf_X11_25 gX_0_3 ?_
    refine z_getR (pc := 23) dX11_sure_23 zf_X11_131 gX_5_13 ?_
    refine z_aload_n (pc := 26) (q := 0) dX11_sure_26 rfl rfl ?_
    refine z_getR (pc := 27) dX11_sure_27 zf_X11_35 gX_0_5 ?_
    refine z_getI (pc := 30) dX11_sure_30 zf_X11_118 gX_37_0 ?_
    obtain ⟨T6, q5, h⟩ := zu_some h
    refine z_callVv (pc := 33) (st := []) [.ref 47, .int x2, .ref 13, .int (T2.1 37 0)] dX11_sure_33 zm_X11_318 zM_X6_gather (by decide) oX_52 rfl (w_X6_gather_52_47_13 l q5) rfl rfl (Nat.le_of_ble_eq_true rfl) ?_
    refine z_aload_n (pc := 36) (q := 0) dX11_sure_36 rfl rfl ?_
    refine z_getR (pc := 37) dX11_sure_37 zf_X11_66 gX_0_10 ?_
    refine z_getI (pc := 40) dX11_sure_40 zf_X11_322 gX_52_0 ?_
    refine z_if_ne (pc := 43) (tgt := 50) dX11_sure_43 (by decide) (fun c7 => ?_) (fun c7 => ?_)
    · have h := ze_some c7 h
      refine z_aload_n (pc := 50) (q := 0) dX11_sure_50 rfl rfl ?_
      refine z_getR (pc := 51) dX11_sure_51 zf_X11_66 gX_0_10 ?_
      refine z_iload_n (pc := 54) (q := 1) dX11_sure_54 rfl rfl ?_
      obtain ⟨r10, T9, q8, h⟩ := zb_some h
      refine z_callVi (pc := 55) (st := []) [.int x1] dX11_sure_55 zm_X11_325 zM_X6_surePlace (by decide) oX_52 rfl (w_X6_surePlace_52 l q8) rfl rfl (Nat.le_of_ble_eq_true rfl) ?_
      obtain ⟨rfl, rfl⟩ := zr_some h
      exact z_iret dX11_sure_58
    · have h := zt_some c7 h
      refine z_iconst (pc := 46) (v := (-1)) dX11_sure_46 zci_m1 ?_
      refine z_goto (pc := 47) (tgt := 58) dX11_sure_47 (by decide) ?_
      obtain ⟨rfl, rfl⟩ := zr_some h
      exact z_iret dX11_sure_58
  · have h := zt_some c4 h
    refine z_iconst (pc := 8) (v := (-1)) dX11_sure_8 zci_m1 ?_
    obtain ⟨rfl, rfl⟩ := zr_some h
    exact z_iret dX11_sure_9
def f_X6_mostLeft_52_L4 : Nat → Int32 → Int32 → Int32 → zS → Option (Int32 × zS)
  | 0, _, _, _, _ => none
  | n + 1, x1, x2, x3, S =>
    if x3 < (S.1 52 1) then
      zb (f_X6_tallied_52 x1 x3 S) fun r4 T3 =>
      zlet (zmax x2 r4) fun v5 =>
      zlet (x3 + 1) fun v6 =>
      (f_X6_mostLeft_52_L4 n) x1 v5 v6 T3
    else
      some (x2, S)
def f_X6_mostLeft_52 (x1 : Int32) (S : zS) : Option (Int32 × zS) :=
  f_X6_mostLeft_52_L4 zN x1 0 0 S
set_option maxRecDepth 100000 in
theorem w_X6_mostLeft_52_L4 (l : Launch) {r : Int32} {S1 : zS} : ∀ (n : Nat) (x1 : Int32) (x2 : Int32) (x3 : Int32) (S : zS), f_X6_mostLeft_52_L4 n x1 x2 x3 S = some (r, S1) → WA zLX l RX6 cX6_mostLeft 4 (some .int) 2 (some (.int r)) S1 4 [(0, .ref 52), (1, .int x1), (2, .int x2), (3, .int x3)] [] S := by
  intro n
  induction n with
  | zero =>
    intro x1 x2 x3 S h
    exact nomatch h
  | succ n ih =>
    intro x1 x2 x3 S h
    rw [f_X6_mostLeft_52_L4] at h
    refine z_iload_n (pc := 4) (q := 3) dX6_mostLeft_4 rfl rfl ?_
    refine z_aload_n (pc := 5) (q := 0) dX6_mostLeft_5 rfl rfl ?_
    refine z_getI (pc := 6) dX6_mostLeft_6 zf_X6_27 gX_52_1 ?_
    refine z_icmp_ge (pc := 9) (tgt := 29) dX6_mostLeft_9 (by decide) (fun c1 => ?_) (fun c1 => ?_)
    · have h := ze_some c1 h
      refine z_iload_n (pc := 29) (q := 2) dX6_mostLeft_29 rfl rfl ?_
      obtain ⟨rfl, rfl⟩ := zr_some h
      exact z_iret dX6_mostLeft_30
    · have h := zt_some c1 h
      refine z_iload_n (pc := 12) (q := 2) dX6_mostLeft_12 rfl rfl ?_
      refine z_aload_n (pc := 13) (q := 0) dX6_mostLeft_13 rfl rfl ?_
      refine z_iload_n (pc := 14) (q := 1) dX6_mostLeft_14 rfl rfl ?_
      refine z_iload_n (pc := 15) (q := 3) dX6_mostLeft_15 rfl rfl ?_
      obtain ⟨r4, T3, q2, h⟩ := zb_some h
      refine z_callVi (pc := 16) (st := [.int x2]) [.int x1, .int x3] dX6_mostLeft_16 zm_X6_72 zM_X6_tallied (by decide) oX_52 rfl (w_X6_tallied_52 l q2) rfl rfl (Nat.le_of_ble_eq_true rfl) ?_
      refine z_max (pc := 19) dX6_mostLeft_19 zm_X6_75 zM_max.1 zM_max.2.1 zM_max.2.2 (by decide) (Nat.le_of_ble_eq_true rfl) ?_
      obtain ⟨v5, ev5, h⟩ := zl_some h
      refine z_top ev5 ?_
      refine z_istore_n (pc := 22) (lo' := [(2, .int v5), (0, .ref 52), (1, .int x1), (3, .int x3)]) dX6_mostLeft_22 rfl (by decide) rfl ?_
      obtain ⟨v6, ev6, h⟩ := zl_some h
      refine z_iinc (pc := 23) (q := 3) (v := v6) (lo' := [(3, .int v6), (2, .int v5), (0, .ref 52), (1, .int x1)]) dX6_mostLeft_23 rfl (by rw [ev6, zci_1]) (by decide) rfl ?_
      refine z_goto (pc := 26) (tgt := 4) dX6_mostLeft_26 (by decide) ?_
      exact z_sub [2, 3, 1, 0] rfl (ih x1 v5 v6 T3 h)
set_option maxRecDepth 100000 in
theorem w_X6_mostLeft_52 (l : Launch) {x1 : Int32} {S : zS} {r : Int32} {S1 : zS} (h : f_X6_mostLeft_52 x1 S = some (r, S1)) : zMet zLX l yX6_mostLeft cX6_mostLeft 4 (some .int) 2 [.ref 52, .int x1] S (some (.int r)) S1 := by
  unfold f_X6_mostLeft_52 at h
  refine zMet.of (by decide +kernel) (Nat.le_of_ble_eq_true rfl) ?_
  show WA zLX l RX6 cX6_mostLeft 4 (some .int) 2 (some (.int r)) S1 0 [(0, .ref 52), (1, .int x1)] [] S
  refine z_iconst (pc := 0) (v := 0) dX6_mostLeft_0 zci_0 ?_
  refine z_istore_n (pc := 1) (lo' := [(2, .int 0), (0, .ref 52), (1, .int x1)]) dX6_mostLeft_1 rfl (by decide) rfl ?_
  refine z_iconst (pc := 2) (v := 0) dX6_mostLeft_2 zci_0 ?_
  refine z_istore_n (pc := 3) (lo' := [(3, .int 0), (2, .int 0), (0, .ref 52), (1, .int x1)]) dX6_mostLeft_3 rfl (by decide) rfl ?_
  exact z_sub [2, 3, 1, 0] rfl (w_X6_mostLeft_52_L4 l zN x1 0 0 S h)
def f_X6_bestToAsk_52_L4 : Nat → Int32 → Int32 → zS → Option (Int32 × zS)
  | 0, _, _, _ => none
  | n + 1, x1, x2, S =>
    if x2 < (S.1 52 1) then
      if x1 = (-1) then
        zlet (x2 + 1) fun v3 =>
        (f_X6_bestToAsk_52_L4 n) x2 v3 S
      else
        zb (f_X6_mostLeft_52 x2 S) fun r5 T4 =>
        zb (f_X6_mostLeft_52 x1 T4) fun r8 T7 =>
        if r5 < r8 then
          zlet (x2 + 1) fun v10 =>
          (f_X6_bestToAsk_52_L4 n) x2 v10 T7
        else
          zlet (x2 + 1) fun v10 =>
          (f_X6_bestToAsk_52_L4 n) x1 v10 T7
    else
      some (x1, S)
def f_X6_bestToAsk_52  (S : zS) : Option (Int32 × zS) :=
  f_X6_bestToAsk_52_L4 zN (-1) 0 S
set_option maxRecDepth 100000 in
theorem w_X6_bestToAsk_52_L4 (l : Launch) {r : Int32} {S1 : zS} : ∀ (n : Nat) (x1 : Int32) (x2 : Int32) (S : zS), f_X6_bestToAsk_52_L4 n x1 x2 S = some (r, S1) → WA zLX l RX6 cX6_bestToAsk 3 (some .int) 3 (some (.int r)) S1 4 [(0, .ref 52), (1, .int x1), (2, .int x2)] [] S := by
  intro n
  induction n with
  | zero =>
    intro x1 x2 S h
    exact nomatch h
  | succ n ih =>
    intro x1 x2 S h
    rw [f_X6_bestToAsk_52_L4] at h
    refine z_iload_n (pc := 4) (q := 2) dX6_bestToAsk_4 rfl rfl ?_
    refine z_aload_n (pc := 5) (q := 0) dX6_bestToAsk_5 rfl rfl ?_
    refine z_getI (pc := 6) dX6_bestToAsk_6 zf_X6_27 gX_52_1 ?_
    refine z_icmp_ge (pc := 9) (tgt := 38) dX6_bestToAsk_9 (by decide) (fun c1 => ?_) (fun c1 => ?_)
    · have h := ze_some c1 h
      refine z_iload_n (pc := 38) (q := 1) dX6_bestToAsk_38 rfl rfl ?_
      obtain ⟨rfl, rfl⟩ := zr_some h
      exact z_iret dX6_bestToAsk_39
    · have h := zt_some c1 h
      refine z_iload_n (pc := 12) (q := 1) dX6_bestToAsk_12 rfl rfl ?_
      refine z_iconst (pc := 13) (v := (-1)) dX6_bestToAsk_13 zci_m1 ?_
      refine z_icmp_eq (pc := 14) (tgt := 30) dX6_bestToAsk_14 (by decide) (fun c2 => ?_) (fun c2 => ?_)
      · have h := zt_some c2 h
        refine z_iload_n (pc := 30) (q := 2) dX6_bestToAsk_30 rfl rfl ?_
        refine z_istore_n (pc := 31) (lo' := [(1, .int x2), (0, .ref 52), (2, .int x2)]) dX6_bestToAsk_31 rfl (by decide) rfl ?_
        obtain ⟨v3, ev3, h⟩ := zl_some h
        refine z_iinc (pc := 32) (q := 2) (v := v3) (lo' := [(2, .int v3), (1, .int x2), (0, .ref 52)]) dX6_bestToAsk_32 rfl (by rw [ev3, zci_1]) (by decide) rfl ?_
        refine z_goto (pc := 35) (tgt := 4) dX6_bestToAsk_35 (by decide) ?_
        exact z_sub [2, 1, 0] rfl (ih x2 v3 S h)
      · have h := ze_some c2 h
        refine z_aload_n (pc := 17) (q := 0) dX6_bestToAsk_17 rfl rfl ?_
        refine z_iload_n (pc := 18) (q := 2) dX6_bestToAsk_18 rfl rfl ?_
        obtain ⟨r5, T4, q3, h⟩ := zb_some h
        refine z_callVi (pc := 19) (st := []) [.int x2] dX6_bestToAsk_19 zm_X6_78 zM_X6_mostLeft (by decide) oX_52 rfl (w_X6_mostLeft_52 l q3) rfl rfl (Nat.le_of_ble_eq_true rfl) ?_
        refine z_aload_n (pc := 22) (q := 0) dX6_bestToAsk_22 rfl rfl ?_
        refine z_iload_n (pc := 23) (q := 1) dX6_bestToAsk_23 rfl rfl ?_
        obtain ⟨r8, T7, q6, h⟩ := zb_some h
        refine z_callVi (pc := 24) (st := [.int r5]) [.int x1] dX6_bestToAsk_24 zm_X6_78 zM_X6_mostLeft (by decide) oX_52 rfl (w_X6_mostLeft_52 l q6) rfl rfl (Nat.le_of_ble_eq_true rfl) ?_
        refine z_icmp_ge (pc := 27) (tgt := 32) dX6_bestToAsk_27 (by decide) (fun c9 => ?_) (fun c9 => ?_)
        · have h := ze_some c9 h
          obtain ⟨v10, ev10, h⟩ := zl_some h
          refine z_iinc (pc := 32) (q := 2) (v := v10) (lo' := [(2, .int v10), (0, .ref 52), (1, .int x1)]) dX6_bestToAsk_32 rfl (by rw [ev10, zci_1]) (by decide) rfl ?_
          refine z_goto (pc := 35) (tgt := 4) dX6_bestToAsk_35 (by decide) ?_
          exact z_sub [1, 2, 0] rfl (ih x1 v10 T7 h)
        · have h := zt_some c9 h
          refine z_iload_n (pc := 30) (q := 2) dX6_bestToAsk_30 rfl rfl ?_
          refine z_istore_n (pc := 31) (lo' := [(1, .int x2), (0, .ref 52), (2, .int x2)]) dX6_bestToAsk_31 rfl (by decide) rfl ?_
          obtain ⟨v10, ev10, h⟩ := zl_some h
          refine z_iinc (pc := 32) (q := 2) (v := v10) (lo' := [(2, .int v10), (1, .int x2), (0, .ref 52)]) dX6_bestToAsk_32 rfl (by rw [ev10, zci_1]) (by decide) rfl ?_
          refine z_goto (pc := 35) (tgt := 4) dX6_bestToAsk_35 (by decide) ?_
          exact z_sub [2, 1, 0] rfl (ih x2 v10 T7 h)
set_option maxRecDepth 100000 in
theorem w_X6_bestToAsk_52 (l : Launch)  {S : zS} {r : Int32} {S1 : zS} (h : f_X6_bestToAsk_52 S = some (r, S1)) : zMet zLX l yX6_bestToAsk cX6_bestToAsk 3 (some .int) 3 [.ref 52] S (some (.int r)) S1 := by
  unfold f_X6_bestToAsk_52 at h
  refine zMet.of (by decide +kernel) (Nat.le_of_ble_eq_true rfl) ?_
  show WA zLX l RX6 cX6_bestToAsk 3 (some .int) 3 (some (.int r)) S1 0 [(0, .ref 52)] [] S
  refine z_iconst (pc := 0) (v := (-1)) dX6_bestToAsk_0 zci_m1 ?_
  refine z_istore_n (pc := 1) (lo' := [(1, .int (-1)), (0, .ref 52)]) dX6_bestToAsk_1 rfl (by decide) rfl ?_
  refine z_iconst (pc := 2) (v := 0) dX6_bestToAsk_2 zci_0 ?_
  refine z_istore_n (pc := 3) (lo' := [(2, .int 0), (1, .int (-1)), (0, .ref 52)]) dX6_bestToAsk_3 rfl (by decide) rfl ?_
  exact z_sub [2, 1, 0] rfl (w_X6_bestToAsk_52_L4 l zN (-1) 0 S h)
def f_X11_ask_B58 (x1 : Int32) (s0 : Int32) (S : zS) : Option (Int32 × zS) :=
  if x1 = 0 then
    some (s0, S)
  else
    if s0 = (-1) then
      some (s0, S)
    else
      zb (f_X6_mostLeft_52 s0 S) fun r5 T4 =>
      some (r5, T4)
def f_X11_ask (x1 : Int32) (x2 : Int32) (S : zS) : Option (Int32 × zS) :=
  if x1 < 0 then
    some ((-1), S)
  else
    if (1 : Int32) < x1 then
      some ((-1), S)
    else
      zu (f_X6_gather_52_47_13 x2 (S.1 37 0) S) fun T4 =>
      if (T4.1 52 0) = 0 then
        f_X11_ask_B58 x1 (-1) T4
      else
        zb (f_X6_bestToAsk_52 T4) fun r8 T7 =>
        f_X11_ask_B58 x1 r8 T7
set_option maxRecDepth 100000 in
theorem w_X11_ask_B58 (l : Launch) {r : Int32} {S1 : zS} (x1 : Int32) (s0 : Int32) (S : zS) (h : f_X11_ask_B58 x1 s0 S = some (r, S1)) : WA zLX l RX11 cX11_ask 4 (some .int) 12 (some (.int r)) S1 58 [(0, .ref 0), (1, .int x1)] [.int s0] S := by
  unfold f_X11_ask_B58 at h
  refine z_istore_n (pc := 58) (lo' := [(3, .int s0), (0, .ref 0), (1, .int x1)]) dX11_ask_58 rfl (by decide) rfl ?_
  refine z_iload_n (pc := 59) (q := 2) dX11_ask_59 rfl rfl ?_
  refine z_if_eq (pc := 60) (tgt := 68) dX11_ask_60 (by decide) (fun c1 => ?_) (fun c1 => ?_)
  · have h := zt_some c1 h
    refine z_iload_n (pc := 68) (q := 0) dX11_ask_68 rfl rfl ?_
    refine z_goto (pc := 69) (tgt := 80) dX11_ask_69 (by decide) ?_
    obtain ⟨rfl, rfl⟩ := zr_some h
    exact z_iret dX11_ask_80
  · have h := ze_some c1 h
    refine z_iload_n (pc := 63) (q := 0) dX11_ask_63 rfl rfl ?_
    refine z_iconst (pc := 64) (v := (-1)) dX11_ask_64 zci_m1 ?_
    refine z_icmp_ne (pc := 65) (tgt := 72) dX11_ask_65 (by decide) (fun c2 => ?_) (fun c2 => ?_)
    · have h := ze_some c2 h
      refine z_aload_n (pc := 72) (q := 1) dX11_ask_72 rfl rfl ?_
      refine z_getR (pc := 73) dX11_ask_73 zf_X11_66 gX_0_10 ?_
      refine z_iload_n (pc := 76) (q := 0) dX11_ask_76 rfl rfl ?_
      obtain ⟨r5, T4, q3, h⟩ := zb_some h
      refine z_callVi (pc := 77) (st := []) [.int s0] dX11_ask_77 zm_X11_331 zM_X6_mostLeft (by decide) oX_52 rfl (w_X6_mostLeft_52 l q3) rfl rfl (Nat.le_of_ble_eq_true rfl) ?_
      obtain ⟨rfl, rfl⟩ := zr_some h
      exact z_iret dX11_ask_80
    · have h := zt_some c2 h
      refine z_iload_n (pc := 68) (q := 0) dX11_ask_68 rfl rfl ?_
      refine z_goto (pc := 69) (tgt := 80) dX11_ask_69 (by decide) ?_
      obtain ⟨rfl, rfl⟩ := zr_some h
      exact z_iret dX11_ask_80
set_option maxRecDepth 100000 in
theorem w_X11_ask (l : Launch) {x1 : Int32} {x2 : Int32} {S : zS} {r : Int32} {S1 : zS} (h : f_X11_ask x1 x2 S = some (r, S1)) : zMet zLX l yX11_ask cX11_ask 4 (some .int) 12 [.ref 0, .int x1, .int x2] S (some (.int r)) S1 := by
  unfold f_X11_ask at h
  refine zMet.of (by decide +kernel) (Nat.le_of_ble_eq_true rfl) ?_
  show WA zLX l RX11 cX11_ask 4 (some .int) 12 (some (.int r)) S1 0 [(0, .ref 0), (1, .int x1), (2, .int x2)] [] S
  refine z_iload_n (pc := 0) (q := 1) dX11_ask_0 rfl rfl ?_
  refine z_if_lt (pc := 1) (tgt := 9) dX11_ask_1 (by decide) (fun c1 => ?_) (fun c1 => ?_)
  · have h := zt_some c1 h
    refine z_iconst (pc := 9) (v := (-1)) dX11_ask_9 zci_m1 ?_
    obtain ⟨rfl, rfl⟩ := zr_some h
    exact z_iret dX11_ask_10
  · have h := ze_some c1 h
    refine z_iload_n (pc := 4) (q := 1) dX11_ask_4 rfl rfl ?_
    refine z_iconst (pc := 5) (v := 1) dX11_ask_5 zci_1 ?_
    refine z_icmp_le (pc := 6) (tgt := 11) dX11_ask_6 (by decide) (fun c2 => ?_) (fun c2 => ?_)
    · have h := ze_some c2 h
      refine z_aload_n (pc := 11) (q := 0) dX11_ask_11 rfl rfl ?_
      refine z_getR (pc := 12) dX11_ask_12 zf_X11_66 gX_0_10 ?_
      refine z_aload_n (pc := 15) (q := 0) dX11_ask_15 rfl rfl ?_
      refine z_getR (pc := 16) dX11_ask_16 zf_X11_59 gX_0_9 ?_
      refine z_iload_n (pc := 19) (q := 2) dX11_ask_19 rfl rfl ?_
      refine z_aload_n (pc := 20) (q := 0) dX11_ask_20 rfl rfl ?_
      refine z_getR (pc := 21) dX11_ask_21 zf_X11_25 gX_0_3 ?_
      refine z_getR (pc := 24) dX11_ask_24 zf_X11_131 gX_5_13 ?_
      refine z_aload_n (pc := 27) (q := 0) dX11_ask_27 rfl rfl ?_
      refine z_getR (pc := 28) dX11_ask_28 zf_X11_35 gX_0_5 ?_
      refine z_getI (pc := 31) dX11_ask_31 zf_X11_118 gX_37_0 ?_
      obtain ⟨T4, q3, h⟩ := zu_some h
      refine z_callVv (pc := 34) (st := []) [.ref 47, .int x2, .ref 13, .int (S.1 37 0)] dX11_ask_34 zm_X11_318 zM_X6_gather (by decide) oX_52 rfl (w_X6_gather_52_47_13 l q3) rfl rfl (Nat.le_of_ble_eq_true rfl) ?_
      refine z_aload_n (pc := 37) (q := 0) dX11_ask_37 rfl rfl ?_
      refine z_getR (pc := 38) dX11_ask_38 zf_X11_66 gX_0_10 ?_
      refine z_getI (pc := 41) dX11_ask_41 zf_X11_322 gX_52_0 ?_
      refine z_if_ne (pc := 44) (tgt := 51) dX11_ask_44 (by decide) (fun c5 => ?_) (fun c5 => ?_)
      · have h := ze_some c5 h
        refine z_aload_n (pc := 51) (q := 0) dX11_ask_51 rfl rfl ?_
        refine z_getR (pc := 52) dX11_ask_52 zf_X11_66 gX_0_10 ?_
        obtain ⟨r8, T7, q6, h⟩ := zb_some h
        refine z_callVi (pc := 55) (st := []) [] dX11_ask_55 zm_X11_328 zM_X6_bestToAsk (by decide) oX_52 rfl (w_X6_bestToAsk_52 l q6) rfl rfl (Nat.le_of_ble_eq_true rfl) ?_
        exact z_sub [0, 1] rfl (w_X11_ask_B58 l x1 r8 T7 h)
      · have h := zt_some c5 h
        refine z_iconst (pc := 47) (v := (-1)) dX11_ask_47 zci_m1 ?_
        refine z_goto (pc := 48) (tgt := 58) dX11_ask_48 (by decide) ?_
        exact z_sub [0, 1] rfl (w_X11_ask_B58 l x1 (-1) T4 h)
    · have h := zt_some c2 h
      refine z_iconst (pc := 9) (v := (-1)) dX11_ask_9 zci_m1 ?_
      obtain ⟨rfl, rfl⟩ := zr_some h
      exact z_iret dX11_ask_10
def f_X1_store_13_46 (x2 : Int32) (S : zS) : Option zS :=
  if x2 < 0 then
    some S
  else
    if (297 : Int32) < (x2 + 72) then
      some S
    else
      if zcinB 0 x2 12 12 297 then
      zlet (zcpy S 14 46 (Int32.toNatClampNeg 0) x2.toNatClampNeg (Int32.toNatClampNeg 12)) fun T4 =>
      if zcinB 0 (x2 + 12) 12 12 297 then
      zlet (zcpy T4 15 46 (Int32.toNatClampNeg 0) (x2 + 12).toNatClampNeg (Int32.toNatClampNeg 12)) fun T6 =>
      if zcinB 0 (x2 + 24) 12 12 297 then
      zlet (zcpy T6 16 46 (Int32.toNatClampNeg 0) (x2 + 24).toNatClampNeg (Int32.toNatClampNeg 12)) fun T8 =>
      if zcinB 0 (x2 + 36) 12 12 297 then
      zlet (zcpy T8 17 46 (Int32.toNatClampNeg 0) (x2 + 36).toNatClampNeg (Int32.toNatClampNeg 12)) fun T10 =>
      if zcinB 0 (x2 + 48) 12 12 297 then
      zlet (zcpy T10 18 46 (Int32.toNatClampNeg 0) (x2 + 48).toNatClampNeg (Int32.toNatClampNeg 12)) fun T12 =>
      if zcinB 0 (x2 + 60) 12 12 297 then
      zlet (zcpy T12 19 46 (Int32.toNatClampNeg 0) (x2 + 60).toNatClampNeg (Int32.toNatClampNeg 12)) fun T14 =>
      some T14 else none else none else none else none else none else none
set_option maxRecDepth 100000 in
theorem w_X1_store_13_46 (l : Launch) {x2 : Int32} {S : zS} {S1 : zS} (h : f_X1_store_13_46 x2 S = some S1) : zMet zLX l yX1_store cX1_store 3 none 1 [.ref 13, .ref 46, .int x2] S none S1 := by
  unfold f_X1_store_13_46 at h
  refine zMet.of (by decide +kernel) (Nat.le_of_ble_eq_true rfl) ?_
  show WA zLX l RX1 cX1_store 3 none 1 none S1 0 [(0, .ref 13), (1, .ref 46), (2, .int x2)] [] S
  refine z_iload_n (pc := 0) (q := 2) dX1_store_0 rfl rfl ?_
  refine z_if_lt (pc := 1) (tgt := 100) dX1_store_1 (by decide) (fun c1 => ?_) (fun c1 => ?_)
  · have h := zt_some c1 h
    cases h
    exact z_vret dX1_store_100
  · have h := ze_some c1 h
    refine z_iload_n (pc := 4) (q := 2) dX1_store_4 rfl rfl ?_
    refine z_bipush (pc := 5) (v := 72) dX1_store_5 zcb_72 ?_
    refine z_iadd (pc := 7) dX1_store_7 ?_
    refine z_aload_n (pc := 8) (q := 1) dX1_store_8 rfl rfl ?_
    refine z_alen (pc := 9) (v := 297) dX1_store_9 aX_46 (by decide) (by decide) ?_
    refine z_icmp_gt (pc := 10) (tgt := 100) dX1_store_10 (by decide) (fun c2 => ?_) (fun c2 => ?_)
    · have h := zt_some c2 h
      cases h
      exact z_vret dX1_store_100
    · have h := ze_some c2 h
      refine z_aload_n (pc := 13) (q := 0) dX1_store_13 rfl rfl ?_
      refine z_getR (pc := 14) dX1_store_14 zf_X1_9 gX_13_0 ?_
      refine z_iconst (pc := 17) (v := 0) dX1_store_17 zci_0 ?_
      refine z_aload_n (pc := 18) (q := 1) dX1_store_18 rfl rfl ?_
      refine z_iload_n (pc := 19) (q := 2) dX1_store_19 rfl rfl ?_
      refine z_bipush (pc := 20) (v := 12) dX1_store_20 zcb_12 ?_
      obtain ⟨c3, h⟩ := zg_some h
      obtain ⟨T4, eT4, h⟩ := zl_some h
      refine z_copy (pc := 22) dX1_store_22 zm_X1_33 zM_copy.1 zM_copy.2.1 zM_copy.2.2 aX_14 aX_46 c3 (by decide) (Nat.le_of_ble_eq_true rfl) eT4 ?_
      refine z_aload_n (pc := 25) (q := 0) dX1_store_25 rfl rfl ?_
      refine z_getR (pc := 26) dX1_store_26 zf_X1_15 gX_13_1 ?_
      refine z_iconst (pc := 29) (v := 0) dX1_store_29 zci_0 ?_
      refine z_aload_n (pc := 30) (q := 1) dX1_store_30 rfl rfl ?_
      refine z_iload_n (pc := 31) (q := 2) dX1_store_31 rfl rfl ?_
      refine z_bipush (pc := 32) (v := 12) dX1_store_32 zcb_12 ?_
      refine z_iadd (pc := 34) dX1_store_34 ?_
      refine z_bipush (pc := 35) (v := 12) dX1_store_35 zcb_12 ?_
      obtain ⟨c5, h⟩ := zg_some h
      obtain ⟨T6, eT6, h⟩ := zl_some h
      refine z_copy (pc := 37) dX1_store_37 zm_X1_33 zM_copy.1 zM_copy.2.1 zM_copy.2.2 aX_15 aX_46 c5 (by decide) (Nat.le_of_ble_eq_true rfl) eT6 ?_
      refine z_aload_n (pc := 40) (q := 0) dX1_store_40 rfl rfl ?_
      refine z_getR (pc := 41) dX1_store_41 zf_X1_18 gX_13_2 ?_
      refine z_iconst (pc := 44) (v := 0) dX1_store_44 zci_0 ?_
      refine z_aload_n (pc := 45) (q := 1) dX1_store_45 rfl rfl ?_
      refine z_iload_n (pc := 46) (q := 2) dX1_store_46 rfl rfl ?_
      refine z_bipush (pc := 47) (v := 24) dX1_store_47 zcb_24 ?_
      refine z_iadd (pc := 49) dX1_store_49 ?_
      refine z_bipush (pc := 50) (v := 12) dX1_store_50 zcb_12 ?_
      obtain ⟨c7, h⟩ := zg_some h
      obtain ⟨T8, eT8, h⟩ := zl_some h
      refine z_copy (pc := 52) dX1_store_52 zm_X1_33 zM_copy.1 zM_copy.2.1 zM_copy.2.2 aX_16 aX_46 c7 (by decide) (Nat.le_of_ble_eq_true rfl) eT8 ?_
      refine z_aload_n (pc := 55) (q := 0) dX1_store_55 rfl rfl ?_
      refine z_getR (pc := 56) dX1_store_56 zf_X1_21 gX_13_3 ?_
      refine z_iconst (pc := 59) (v := 0) dX1_store_59 zci_0 ?_
      refine z_aload_n (pc := 60) (q := 1) dX1_store_60 rfl rfl ?_
      refine z_iload_n (pc := 61) (q := 2) dX1_store_61 rfl rfl ?_
      refine z_bipush (pc := 62) (v := 36) dX1_store_62 zcb_36 ?_
      refine z_iadd (pc := 64) dX1_store_64 ?_
      refine z_bipush (pc := 65) (v := 12) dX1_store_65 zcb_12 ?_
      obtain ⟨c9, h⟩ := zg_some h
      obtain ⟨T10, eT10, h⟩ := zl_some h
      refine z_copy (pc := 67) dX1_store_67 zm_X1_33 zM_copy.1 zM_copy.2.1 zM_copy.2.2 aX_17 aX_46 c9 (by decide) (Nat.le_of_ble_eq_true rfl) eT10 ?_
      refine z_aload_n (pc := 70) (q := 0) dX1_store_70 rfl rfl ?_
      refine z_getR (pc := 71) dX1_store_71 zf_X1_24 gX_13_4 ?_
      refine z_iconst (pc := 74) (v := 0) dX1_store_74 zci_0 ?_
      refine z_aload_n (pc := 75) (q := 1) dX1_store_75 rfl rfl ?_
      refine z_iload_n (pc := 76) (q := 2) dX1_store_76 rfl rfl ?_
      refine z_bipush (pc := 77) (v := 48) dX1_store_77 zcb_48 ?_
      refine z_iadd (pc := 79) dX1_store_79 ?_
      refine z_bipush (pc := 80) (v := 12) dX1_store_80 zcb_12 ?_
      obtain ⟨c11, h⟩ := zg_some h
      obtain ⟨T12, eT12, h⟩ := zl_some h
      refine z_copy (pc := 82) dX1_store_82 zm_X1_33 zM_copy.1 zM_copy.2.1 zM_copy.2.2 aX_18 aX_46 c11 (by decide) (Nat.le_of_ble_eq_true rfl) eT12 ?_
      refine z_aload_n (pc := 85) (q := 0) dX1_store_85 rfl rfl ?_
      refine z_getR (pc := 86) dX1_store_86 zf_X1_27 gX_13_5 ?_
      refine z_iconst (pc := 89) (v := 0) dX1_store_89 zci_0 ?_
      refine z_aload_n (pc := 90) (q := 1) dX1_store_90 rfl rfl ?_
      refine z_iload_n (pc := 91) (q := 2) dX1_store_91 rfl rfl ?_
      refine z_bipush (pc := 92) (v := 60) dX1_store_92 zcb_60 ?_
      refine z_iadd (pc := 94) dX1_store_94 ?_
      refine z_bipush (pc := 95) (v := 12) dX1_store_95 zcb_12 ?_
      obtain ⟨c13, h⟩ := zg_some h
      obtain ⟨T14, eT14, h⟩ := zl_some h
      refine z_copy (pc := 97) dX1_store_97 zm_X1_33 zM_copy.1 zM_copy.2.1 zM_copy.2.2 aX_19 aX_46 c13 (by decide) (Nat.le_of_ble_eq_true rfl) eT14 ?_
      cases h
      exact z_vret dX1_store_100
def f_X3_store_37_46 (x2 : Int32) (S : zS) : Option zS :=
  if x2 < 0 then
    some S
  else
    if (297 : Int32) < (x2 + 27) then
      some S
    else
      if zin x2 297 then
      zlet (zput S 46 x2.toNatClampNeg (S.1 37 0)) fun T4 =>
      if zin (x2 + 1) 297 then
      zlet (zput T4 46 (x2 + 1).toNatClampNeg (T4.1 37 1)) fun T6 =>
      if zin (x2 + 2) 297 then
      zlet (zput T6 46 (x2 + 2).toNatClampNeg (T6.1 37 2)) fun T8 =>
      if zcinB 0 (x2 + 3) 12 12 297 then
      zlet (zcpy T8 38 46 (Int32.toNatClampNeg 0) (x2 + 3).toNatClampNeg (Int32.toNatClampNeg 12)) fun T10 =>
      if zcinB 0 ((x2 + 3) + 12) 12 12 297 then
      zlet (zcpy T10 39 46 (Int32.toNatClampNeg 0) ((x2 + 3) + 12).toNatClampNeg (Int32.toNatClampNeg 12)) fun T12 =>
      some T12 else none else none else none else none else none
set_option maxRecDepth 100000 in
theorem w_X3_store_37_46 (l : Launch) {x2 : Int32} {S : zS} {S1 : zS} (h : f_X3_store_37_46 x2 S = some S1) : zMet zLX l yX3_store cX3_store 3 none 1 [.ref 37, .ref 46, .int x2] S none S1 := by
  unfold f_X3_store_37_46 at h
  refine zMet.of (by decide +kernel) (Nat.le_of_ble_eq_true rfl) ?_
  show WA zLX l RX3 cX3_store 3 none 1 none S1 0 [(0, .ref 37), (1, .ref 46), (2, .int x2)] [] S
  refine z_iload_n (pc := 0) (q := 2) dX3_store_0 rfl rfl ?_
  refine z_if_lt (pc := 1) (tgt := 69) dX3_store_1 (by decide) (fun c1 => ?_) (fun c1 => ?_)
  · have h := zt_some c1 h
    cases h
    exact z_vret dX3_store_69
  · have h := ze_some c1 h
    refine z_iload_n (pc := 4) (q := 2) dX3_store_4 rfl rfl ?_
    refine z_bipush (pc := 5) (v := 27) dX3_store_5 zcb_27 ?_
    refine z_iadd (pc := 7) dX3_store_7 ?_
    refine z_aload_n (pc := 8) (q := 1) dX3_store_8 rfl rfl ?_
    refine z_alen (pc := 9) (v := 297) dX3_store_9 aX_46 (by decide) (by decide) ?_
    refine z_icmp_gt (pc := 10) (tgt := 69) dX3_store_10 (by decide) (fun c2 => ?_) (fun c2 => ?_)
    · have h := zt_some c2 h
      cases h
      exact z_vret dX3_store_69
    · have h := ze_some c2 h
      refine z_aload_n (pc := 13) (q := 1) dX3_store_13 rfl rfl ?_
      refine z_iload_n (pc := 14) (q := 2) dX3_store_14 rfl rfl ?_
      refine z_aload_n (pc := 15) (q := 0) dX3_store_15 rfl rfl ?_
      refine z_getI (pc := 16) dX3_store_16 zf_X3_24 gX_37_0 ?_
      obtain ⟨c3, h⟩ := zg_some h
      obtain ⟨T4, eT4, h⟩ := zl_some h
      refine z_iast (pc := 19) dX3_store_19 aX_46 c3 eT4 ?_
      refine z_aload_n (pc := 20) (q := 1) dX3_store_20 rfl rfl ?_
      refine z_iload_n (pc := 21) (q := 2) dX3_store_21 rfl rfl ?_
      refine z_iconst (pc := 22) (v := 1) dX3_store_22 zci_1 ?_
      refine z_iadd (pc := 23) dX3_store_23 ?_
      refine z_aload_n (pc := 24) (q := 0) dX3_store_24 rfl rfl ?_
      refine z_getI (pc := 25) dX3_store_25 zf_X3_27 gX_37_1 ?_
      obtain ⟨c5, h⟩ := zg_some h
      obtain ⟨T6, eT6, h⟩ := zl_some h
      refine z_iast (pc := 28) dX3_store_28 aX_46 c5 eT6 ?_
      refine z_aload_n (pc := 29) (q := 1) dX3_store_29 rfl rfl ?_
      refine z_iload_n (pc := 30) (q := 2) dX3_store_30 rfl rfl ?_
      refine z_iconst (pc := 31) (v := 2) dX3_store_31 zci_2 ?_
      refine z_iadd (pc := 32) dX3_store_32 ?_
      refine z_aload_n (pc := 33) (q := 0) dX3_store_33 rfl rfl ?_
      refine z_getI (pc := 34) dX3_store_34 zf_X3_33 gX_37_2 ?_
      obtain ⟨c7, h⟩ := zg_some h
      obtain ⟨T8, eT8, h⟩ := zl_some h
      refine z_iast (pc := 37) dX3_store_37 aX_46 c7 eT8 ?_
      refine z_aload_n (pc := 38) (q := 0) dX3_store_38 rfl rfl ?_
      refine z_getR (pc := 39) dX3_store_39 zf_X3_9 gX_37_3 ?_
      refine z_iconst (pc := 42) (v := 0) dX3_store_42 zci_0 ?_
      refine z_aload_n (pc := 43) (q := 1) dX3_store_43 rfl rfl ?_
      refine z_iload_n (pc := 44) (q := 2) dX3_store_44 rfl rfl ?_
      refine z_iconst (pc := 45) (v := 3) dX3_store_45 zci_3 ?_
      refine z_iadd (pc := 46) dX3_store_46 ?_
      refine z_bipush (pc := 47) (v := 12) dX3_store_47 zcb_12 ?_
      obtain ⟨c9, h⟩ := zg_some h
      obtain ⟨T10, eT10, h⟩ := zl_some h
      refine z_copy (pc := 49) dX3_store_49 zm_X3_40 zM_copy.1 zM_copy.2.1 zM_copy.2.2 aX_38 aX_46 c9 (by decide) (Nat.le_of_ble_eq_true rfl) eT10 ?_
      refine z_aload_n (pc := 52) (q := 0) dX3_store_52 rfl rfl ?_
      refine z_getR (pc := 53) dX3_store_53 zf_X3_15 gX_37_4 ?_
      refine z_iconst (pc := 56) (v := 0) dX3_store_56 zci_0 ?_
      refine z_aload_n (pc := 57) (q := 1) dX3_store_57 rfl rfl ?_
      refine z_iload_n (pc := 58) (q := 2) dX3_store_58 rfl rfl ?_
      refine z_iconst (pc := 59) (v := 3) dX3_store_59 zci_3 ?_
      refine z_iadd (pc := 60) dX3_store_60 ?_
      refine z_bipush (pc := 61) (v := 12) dX3_store_61 zcb_12 ?_
      refine z_iadd (pc := 63) dX3_store_63 ?_
      refine z_bipush (pc := 64) (v := 12) dX3_store_64 zcb_12 ?_
      obtain ⟨c11, h⟩ := zg_some h
      obtain ⟨T12, eT12, h⟩ := zl_some h
      refine z_copy (pc := 66) dX3_store_66 zm_X3_40 zM_copy.1 zM_copy.2.1 zM_copy.2.2 aX_39 aX_46 c11 (by decide) (Nat.le_of_ble_eq_true rfl) eT12 ?_
      cases h
      exact z_vret dX3_store_69
def f_X5_keep_45_13_37 (x1 : Int32) (S : zS) : Option zS :=
  zu (f_X1_store_13_46 (x1 * 99) S) fun T2 =>
  zu (f_X3_store_37_46 ((x1 * 99) + 72) T2) fun T4 =>
  zlet (zput T4 45 0 ((T4.1 45 0) ||| (1 <<< (x1 &&& 31)))) fun T5 =>
  some T5
set_option maxRecDepth 100000 in
theorem w_X5_keep_45_13_37 (l : Launch) {x1 : Int32} {S : zS} {S1 : zS} (h : f_X5_keep_45_13_37 x1 S = some S1) : zMet zLX l yX5_keep cX5_keep 4 none 2 [.ref 45, .int x1, .ref 13, .ref 37] S none S1 := by
  unfold f_X5_keep_45_13_37 at h
  refine zMet.of (by decide +kernel) (Nat.le_of_ble_eq_true rfl) ?_
  show WA zLX l RX5 cX5_keep 4 none 2 none S1 0 [(0, .ref 45), (1, .int x1), (2, .ref 13), (3, .ref 37)] [] S
  refine z_aload_n (pc := 0) (q := 2) dX5_keep_0 rfl rfl ?_
  refine z_aload_n (pc := 1) (q := 0) dX5_keep_1 rfl rfl ?_
  refine z_getR (pc := 2) dX5_keep_2 zf_X5_15 gX_45_1 ?_
  refine z_iload_n (pc := 5) (q := 1) dX5_keep_5 rfl rfl ?_
  refine z_bipush (pc := 6) (v := 99) dX5_keep_6 zcb_99 ?_
  refine z_imul (pc := 8) dX5_keep_8 ?_
  obtain ⟨T2, q1, h⟩ := zu_some h
  refine z_callVv (pc := 9) (st := []) [.ref 46, .int (x1 * 99)] dX5_keep_9 zm_X5_23 zM_X1_store (by decide) oX_13 rfl (w_X1_store_13_46 l q1) rfl rfl (Nat.le_of_ble_eq_true rfl) ?_
  refine z_aload_n (pc := 12) (q := 3) dX5_keep_12 rfl rfl ?_
  refine z_aload_n (pc := 13) (q := 0) dX5_keep_13 rfl rfl ?_
  refine z_getR (pc := 14) dX5_keep_14 zf_X5_15 gX_45_1 ?_
  refine z_iload_n (pc := 17) (q := 1) dX5_keep_17 rfl rfl ?_
  refine z_bipush (pc := 18) (v := 99) dX5_keep_18 zcb_99 ?_
  refine z_imul (pc := 20) dX5_keep_20 ?_
  refine z_bipush (pc := 21) (v := 72) dX5_keep_21 zcb_72 ?_
  refine z_iadd (pc := 23) dX5_keep_23 ?_
  obtain ⟨T4, q3, h⟩ := zu_some h
  refine z_callVv (pc := 24) (st := []) [.ref 46, .int ((x1 * 99) + 72)] dX5_keep_24 zm_X5_27 zM_X3_store (by decide) oX_37 rfl (w_X3_store_37_46 l q3) rfl rfl (Nat.le_of_ble_eq_true rfl) ?_
  refine z_aload_n (pc := 27) (q := 0) dX5_keep_27 rfl rfl ?_
  refine z_dup (pc := 28) dX5_keep_28 rfl ?_
  refine z_getI (pc := 29) dX5_keep_29 zf_X5_19 gX_45_0 ?_
  refine z_iconst (pc := 32) (v := 1) dX5_keep_32 zci_1 ?_
  refine z_iload_n (pc := 33) (q := 1) dX5_keep_33 rfl rfl ?_
  refine z_ishl (pc := 34) dX5_keep_34 ?_
  refine z_ior (pc := 35) dX5_keep_35 ?_
  obtain ⟨T5, eT5, h⟩ := zl_some h
  refine z_putI (pc := 36) dX5_keep_36 zp_X5_19 gX_45_0 rfl rfl eT5 ?_
  cases h
  exact z_vret dX5_keep_39
def f_X11_image (x1 : Int32) (S : zS) : Option (Int32 × zS) :=
  if x1 < 0 then
    some ((-1), S)
  else
    if x1 < 3 then
      zu (f_X5_keep_45_13_37 x1 S) fun T4 =>
      some (T4.1 37 1, T4)
    else
      some ((-1), S)
set_option maxRecDepth 100000 in
theorem w_X11_image (l : Launch) {x1 : Int32} {S : zS} {r : Int32} {S1 : zS} (h : f_X11_image x1 S = some (r, S1)) : zMet zLX l yX11_image cX11_image 2 (some .int) 3 [.ref 0, .int x1] S (some (.int r)) S1 := by
  unfold f_X11_image at h
  refine zMet.of (by decide +kernel) (Nat.le_of_ble_eq_true rfl) ?_
  show WA zLX l RX11 cX11_image 2 (some .int) 3 (some (.int r)) S1 0 [(0, .ref 0), (1, .int x1)] [] S
  refine z_iload_n (pc := 0) (q := 1) dX11_image_0 rfl rfl ?_
  refine z_if_lt (pc := 1) (tgt := 9) dX11_image_1 (by decide) (fun c1 => ?_) (fun c1 => ?_)
  · have h := zt_some c1 h
    refine z_iconst (pc := 9) (v := (-1)) dX11_image_9 zci_m1 ?_
    obtain ⟨rfl, rfl⟩ := zr_some h
    exact z_iret dX11_image_10
  · have h := ze_some c1 h
    refine z_iload_n (pc := 4) (q := 1) dX11_image_4 rfl rfl ?_
    refine z_iconst (pc := 5) (v := 3) dX11_image_5 zci_3 ?_
    refine z_icmp_lt (pc := 6) (tgt := 11) dX11_image_6 (by decide) (fun c2 => ?_) (fun c2 => ?_)
    · have h := zt_some c2 h
      refine z_aload_n (pc := 11) (q := 0) dX11_image_11 rfl rfl ?_
      refine z_getR (pc := 12) dX11_image_12 zf_X11_52 gX_0_8 ?_
      refine z_iload_n (pc := 15) (q := 1) dX11_image_15 rfl rfl ?_
      refine z_aload_n (pc := 16) (q := 0) dX11_image_16 rfl rfl ?_
      refine z_getR (pc := 17) dX11_image_17 zf_X11_25 gX_0_3 ?_
      refine z_getR (pc := 20) dX11_image_20 zf_X11_131 gX_5_13 ?_
      refine z_aload_n (pc := 23) (q := 0) dX11_image_23 rfl rfl ?_
      refine z_getR (pc := 24) dX11_image_24 zf_X11_35 gX_0_5 ?_
      obtain ⟨T4, q3, h⟩ := zu_some h
      refine z_callVv (pc := 27) (st := []) [.int x1, .ref 13, .ref 37] dX11_image_27 zm_X11_334 zM_X5_keep (by decide) oX_45 rfl (w_X5_keep_45_13_37 l q3) rfl rfl (Nat.le_of_ble_eq_true rfl) ?_
      refine z_aload_n (pc := 30) (q := 0) dX11_image_30 rfl rfl ?_
      refine z_getR (pc := 31) dX11_image_31 zf_X11_35 gX_0_5 ?_
      refine z_getI (pc := 34) dX11_image_34 zf_X11_223 gX_37_1 ?_
      obtain ⟨rfl, rfl⟩ := zr_some h
      exact z_iret dX11_image_37
    · have h := ze_some c2 h
      refine z_iconst (pc := 9) (v := (-1)) dX11_image_9 zci_m1 ?_
      obtain ⟨rfl, rfl⟩ := zr_some h
      exact z_iret dX11_image_10
def f_X5_has_45 (x1 : Int32) (S : zS) : Option (Int32 × zS) :=
  if x1 < 0 then
    some (0, S)
  else
    if x1 < 3 then
      if (((S.1 45 0) >>> (x1 &&& 31)) &&& 1) = 0 then
        some (0, S)
      else
        some (1, S)
    else
      some (0, S)
set_option maxRecDepth 100000 in
theorem w_X5_has_45 (l : Launch) {x1 : Int32} {S : zS} {r : Int32} {S1 : zS} (h : f_X5_has_45 x1 S = some (r, S1)) : zMet zLX l yX5_has cX5_has 2 (some .boolean) 1 [.ref 45, .int x1] S (some (.int r)) S1 := by
  unfold f_X5_has_45 at h
  refine zMet.of (by decide +kernel) (Nat.le_of_ble_eq_true rfl) ?_
  show WA zLX l RX5 cX5_has 2 (some .boolean) 1 (some (.int r)) S1 0 [(0, .ref 45), (1, .int x1)] [] S
  refine z_iload_n (pc := 0) (q := 1) dX5_has_0 rfl rfl ?_
  refine z_if_lt (pc := 1) (tgt := 24) dX5_has_1 (by decide) (fun c1 => ?_) (fun c1 => ?_)
  · have h := zt_some c1 h
    refine z_iconst (pc := 24) (v := 0) dX5_has_24 zci_0 ?_
    obtain ⟨rfl, rfl⟩ := zr_some h
    exact z_zret dX5_has_25 rfl
  · have h := ze_some c1 h
    refine z_iload_n (pc := 4) (q := 1) dX5_has_4 rfl rfl ?_
    refine z_iconst (pc := 5) (v := 3) dX5_has_5 zci_3 ?_
    refine z_icmp_ge (pc := 6) (tgt := 24) dX5_has_6 (by decide) (fun c2 => ?_) (fun c2 => ?_)
    · have h := ze_some c2 h
      refine z_iconst (pc := 24) (v := 0) dX5_has_24 zci_0 ?_
      obtain ⟨rfl, rfl⟩ := zr_some h
      exact z_zret dX5_has_25 rfl
    · have h := zt_some c2 h
      refine z_aload_n (pc := 9) (q := 0) dX5_has_9 rfl rfl ?_
      refine z_getI (pc := 10) dX5_has_10 zf_X5_19 gX_45_0 ?_
      refine z_iload_n (pc := 13) (q := 1) dX5_has_13 rfl rfl ?_
      refine z_ishr (pc := 14) dX5_has_14 ?_
      refine z_iconst (pc := 15) (v := 1) dX5_has_15 zci_1 ?_
      refine z_iand (pc := 16) dX5_has_16 ?_
      refine z_if_eq (pc := 17) (tgt := 24) dX5_has_17 (by decide) (fun c3 => ?_) (fun c3 => ?_)
      · have h := zt_some c3 h
        refine z_iconst (pc := 24) (v := 0) dX5_has_24 zci_0 ?_
        obtain ⟨rfl, rfl⟩ := zr_some h
        exact z_zret dX5_has_25 rfl
      · have h := ze_some c3 h
        refine z_iconst (pc := 20) (v := 1) dX5_has_20 zci_1 ?_
        refine z_goto (pc := 21) (tgt := 25) dX5_has_21 (by decide) ?_
        obtain ⟨rfl, rfl⟩ := zr_some h
        exact z_zret dX5_has_25 rfl
def f_X1_load_13_46 (x2 : Int32) (S : zS) : Option zS :=
  if x2 < 0 then
    some S
  else
    if (297 : Int32) < (x2 + 72) then
      some S
    else
      if zcinB x2 0 12 297 12 then
      zlet (zcpy S 46 14 x2.toNatClampNeg (Int32.toNatClampNeg 0) (Int32.toNatClampNeg 12)) fun T4 =>
      if zcinB (x2 + 12) 0 12 297 12 then
      zlet (zcpy T4 46 15 (x2 + 12).toNatClampNeg (Int32.toNatClampNeg 0) (Int32.toNatClampNeg 12)) fun T6 =>
      if zcinB (x2 + 24) 0 12 297 12 then
      zlet (zcpy T6 46 16 (x2 + 24).toNatClampNeg (Int32.toNatClampNeg 0) (Int32.toNatClampNeg 12)) fun T8 =>
      if zcinB (x2 + 36) 0 12 297 12 then
      zlet (zcpy T8 46 17 (x2 + 36).toNatClampNeg (Int32.toNatClampNeg 0) (Int32.toNatClampNeg 12)) fun T10 =>
      if zcinB (x2 + 48) 0 12 297 12 then
      zlet (zcpy T10 46 18 (x2 + 48).toNatClampNeg (Int32.toNatClampNeg 0) (Int32.toNatClampNeg 12)) fun T12 =>
      if zcinB (x2 + 60) 0 12 297 12 then
      zlet (zcpy T12 46 19 (x2 + 60).toNatClampNeg (Int32.toNatClampNeg 0) (Int32.toNatClampNeg 12)) fun T14 =>
      zu (f_X1_sortForReading_13 T14) fun T16 =>
      some T16 else none else none else none else none else none else none
set_option maxRecDepth 100000 in
theorem w_X1_load_13_46 (l : Launch) {x2 : Int32} {S : zS} {S1 : zS} (h : f_X1_load_13_46 x2 S = some S1) : zMet zLX l yX1_load cX1_load 3 none 2 [.ref 13, .ref 46, .int x2] S none S1 := by
  unfold f_X1_load_13_46 at h
  refine zMet.of (by decide +kernel) (Nat.le_of_ble_eq_true rfl) ?_
  show WA zLX l RX1 cX1_load 3 none 2 none S1 0 [(0, .ref 13), (1, .ref 46), (2, .int x2)] [] S
  refine z_iload_n (pc := 0) (q := 2) dX1_load_0 rfl rfl ?_
  refine z_if_lt (pc := 1) (tgt := 104) dX1_load_1 (by decide) (fun c1 => ?_) (fun c1 => ?_)
  · have h := zt_some c1 h
    cases h
    exact z_vret dX1_load_104
  · have h := ze_some c1 h
    refine z_iload_n (pc := 4) (q := 2) dX1_load_4 rfl rfl ?_
    refine z_bipush (pc := 5) (v := 72) dX1_load_5 zcb_72 ?_
    refine z_iadd (pc := 7) dX1_load_7 ?_
    refine z_aload_n (pc := 8) (q := 1) dX1_load_8 rfl rfl ?_
    refine z_alen (pc := 9) (v := 297) dX1_load_9 aX_46 (by decide) (by decide) ?_
    refine z_icmp_gt (pc := 10) (tgt := 104) dX1_load_10 (by decide) (fun c2 => ?_) (fun c2 => ?_)
    · have h := zt_some c2 h
      cases h
      exact z_vret dX1_load_104
    · have h := ze_some c2 h
      refine z_aload_n (pc := 13) (q := 1) dX1_load_13 rfl rfl ?_
      refine z_iload_n (pc := 14) (q := 2) dX1_load_14 rfl rfl ?_
      refine z_aload_n (pc := 15) (q := 0) dX1_load_15 rfl rfl ?_
      refine z_getR (pc := 16) dX1_load_16 zf_X1_9 gX_13_0 ?_
      refine z_iconst (pc := 19) (v := 0) dX1_load_19 zci_0 ?_
      refine z_bipush (pc := 20) (v := 12) dX1_load_20 zcb_12 ?_
      obtain ⟨c3, h⟩ := zg_some h
      obtain ⟨T4, eT4, h⟩ := zl_some h
      refine z_copy (pc := 22) dX1_load_22 zm_X1_33 zM_copy.1 zM_copy.2.1 zM_copy.2.2 aX_46 aX_14 c3 (by decide) (Nat.le_of_ble_eq_true rfl) eT4 ?_
      refine z_aload_n (pc := 25) (q := 1) dX1_load_25 rfl rfl ?_
      refine z_iload_n (pc := 26) (q := 2) dX1_load_26 rfl rfl ?_
      refine z_bipush (pc := 27) (v := 12) dX1_load_27 zcb_12 ?_
      refine z_iadd (pc := 29) dX1_load_29 ?_
      refine z_aload_n (pc := 30) (q := 0) dX1_load_30 rfl rfl ?_
      refine z_getR (pc := 31) dX1_load_31 zf_X1_15 gX_13_1 ?_
      refine z_iconst (pc := 34) (v := 0) dX1_load_34 zci_0 ?_
      refine z_bipush (pc := 35) (v := 12) dX1_load_35 zcb_12 ?_
      obtain ⟨c5, h⟩ := zg_some h
      obtain ⟨T6, eT6, h⟩ := zl_some h
      refine z_copy (pc := 37) dX1_load_37 zm_X1_33 zM_copy.1 zM_copy.2.1 zM_copy.2.2 aX_46 aX_15 c5 (by decide) (Nat.le_of_ble_eq_true rfl) eT6 ?_
      refine z_aload_n (pc := 40) (q := 1) dX1_load_40 rfl rfl ?_
      refine z_iload_n (pc := 41) (q := 2) dX1_load_41 rfl rfl ?_
      refine z_bipush (pc := 42) (v := 24) dX1_load_42 zcb_24 ?_
      refine z_iadd (pc := 44) dX1_load_44 ?_
      refine z_aload_n (pc := 45) (q := 0) dX1_load_45 rfl rfl ?_
      refine z_getR (pc := 46) dX1_load_46 zf_X1_18 gX_13_2 ?_
      refine z_iconst (pc := 49) (v := 0) dX1_load_49 zci_0 ?_
      refine z_bipush (pc := 50) (v := 12) dX1_load_50 zcb_12 ?_
      obtain ⟨c7, h⟩ := zg_some h
      obtain ⟨T8, eT8, h⟩ := zl_some h
      refine z_copy (pc := 52) dX1_load_52 zm_X1_33 zM_copy.1 zM_copy.2.1 zM_copy.2.2 aX_46 aX_16 c7 (by decide) (Nat.le_of_ble_eq_true rfl) eT8 ?_
      refine z_aload_n (pc := 55) (q := 1) dX1_load_55 rfl rfl ?_
      refine z_iload_n (pc := 56) (q := 2) dX1_load_56 rfl rfl ?_
      refine z_bipush (pc := 57) (v := 36) dX1_load_57 zcb_36 ?_
      refine z_iadd (pc := 59) dX1_load_59 ?_
      refine z_aload_n (pc := 60) (q := 0) dX1_load_60 rfl rfl ?_
      refine z_getR (pc := 61) dX1_load_61 zf_X1_21 gX_13_3 ?_
      refine z_iconst (pc := 64) (v := 0) dX1_load_64 zci_0 ?_
      refine z_bipush (pc := 65) (v := 12) dX1_load_65 zcb_12 ?_
      obtain ⟨c9, h⟩ := zg_some h
      obtain ⟨T10, eT10, h⟩ := zl_some h
      refine z_copy (pc := 67) dX1_load_67 zm_X1_33 zM_copy.1 zM_copy.2.1 zM_copy.2.2 aX_46 aX_17 c9 (by decide) (Nat.le_of_ble_eq_true rfl) eT10 ?_
      refine z_aload_n (pc := 70) (q := 1) dX1_load_70 rfl rfl ?_
      refine z_iload_n (pc := 71) (q := 2) dX1_load_71 rfl rfl ?_
      refine z_bipush (pc := 72) (v := 48) dX1_load_72 zcb_48 ?_
      refine z_iadd (pc := 74) dX1_load_74 ?_
      refine z_aload_n (pc := 75) (q := 0) dX1_load_75 rfl rfl ?_
      refine z_getR (pc := 76) dX1_load_76 zf_X1_24 gX_13_4 ?_
      refine z_iconst (pc := 79) (v := 0) dX1_load_79 zci_0 ?_
      refine z_bipush (pc := 80) (v := 12) dX1_load_80 zcb_12 ?_
      obtain ⟨c11, h⟩ := zg_some h
      obtain ⟨T12, eT12, h⟩ := zl_some h
      refine z_copy (pc := 82) dX1_load_82 zm_X1_33 zM_copy.1 zM_copy.2.1 zM_copy.2.2 aX_46 aX_18 c11 (by decide) (Nat.le_of_ble_eq_true rfl) eT12 ?_
      refine z_aload_n (pc := 85) (q := 1) dX1_load_85 rfl rfl ?_
      refine z_iload_n (pc := 86) (q := 2) dX1_load_86 rfl rfl ?_
      refine z_bipush (pc := 87) (v := 60) dX1_load_87 zcb_60 ?_
      refine z_iadd (pc := 89) dX1_load_89 ?_
      refine z_aload_n (pc := 90) (q := 0) dX1_load_90 rfl rfl ?_
      refine z_getR (pc := 91) dX1_load_91 zf_X1_27 gX_13_5 ?_
      refine z_iconst (pc := 94) (v := 0) dX1_load_94 zci_0 ?_
      refine z_bipush (pc := 95) (v := 12) dX1_load_95 zcb_12 ?_
      obtain ⟨c13, h⟩ := zg_some h
      obtain ⟨T14, eT14, h⟩ := zl_some h
      refine z_copy (pc := 97) dX1_load_97 zm_X1_33 zM_copy.1 zM_copy.2.1 zM_copy.2.2 aX_46 aX_19 c13 (by decide) (Nat.le_of_ble_eq_true rfl) eT14 ?_
      refine z_aload_n (pc := 100) (q := 0) dX1_load_100 rfl rfl ?_
      obtain ⟨T16, q15, h⟩ := zu_some h
      refine z_callVv (pc := 101) (st := []) [] dX1_load_101 zm_X1_39 zM_X1_sortForReading (by decide) oX_13 rfl (w_X1_sortForReading_13 l q15) rfl rfl (Nat.le_of_ble_eq_true rfl) ?_
      cases h
      exact z_vret dX1_load_104
def f_X3_load_37_46 (x2 : Int32) (S : zS) : Option zS :=
  if x2 < 0 then
    some S
  else
    if (297 : Int32) < (x2 + 27) then
      some S
    else
      if zin x2 297 then
      zlet (zput S 37 0 (S.1 46 x2.toNatClampNeg)) fun T4 =>
      if zin (x2 + 1) 297 then
      zlet (zput T4 37 1 (T4.1 46 (x2 + 1).toNatClampNeg)) fun T6 =>
      if zin (x2 + 2) 297 then
      zlet (zput T6 37 2 (T6.1 46 (x2 + 2).toNatClampNeg)) fun T8 =>
      if zcinB (x2 + 3) 0 12 297 12 then
      zlet (zcpy T8 46 38 (x2 + 3).toNatClampNeg (Int32.toNatClampNeg 0) (Int32.toNatClampNeg 12)) fun T10 =>
      if zcinB ((x2 + 3) + 12) 0 12 297 12 then
      zlet (zcpy T10 46 39 ((x2 + 3) + 12).toNatClampNeg (Int32.toNatClampNeg 0) (Int32.toNatClampNeg 12)) fun T12 =>
      some T12 else none else none else none else none else none
set_option maxRecDepth 100000 in
theorem w_X3_load_37_46 (l : Launch) {x2 : Int32} {S : zS} {S1 : zS} (h : f_X3_load_37_46 x2 S = some S1) : zMet zLX l yX3_load cX3_load 3 none 1 [.ref 37, .ref 46, .int x2] S none S1 := by
  unfold f_X3_load_37_46 at h
  refine zMet.of (by decide +kernel) (Nat.le_of_ble_eq_true rfl) ?_
  show WA zLX l RX3 cX3_load 3 none 1 none S1 0 [(0, .ref 37), (1, .ref 46), (2, .int x2)] [] S
  refine z_iload_n (pc := 0) (q := 2) dX3_load_0 rfl rfl ?_
  refine z_if_lt (pc := 1) (tgt := 69) dX3_load_1 (by decide) (fun c1 => ?_) (fun c1 => ?_)
  · have h := zt_some c1 h
    cases h
    exact z_vret dX3_load_69
  · have h := ze_some c1 h
    refine z_iload_n (pc := 4) (q := 2) dX3_load_4 rfl rfl ?_
    refine z_bipush (pc := 5) (v := 27) dX3_load_5 zcb_27 ?_
    refine z_iadd (pc := 7) dX3_load_7 ?_
    refine z_aload_n (pc := 8) (q := 1) dX3_load_8 rfl rfl ?_
    refine z_alen (pc := 9) (v := 297) dX3_load_9 aX_46 (by decide) (by decide) ?_
    refine z_icmp_gt (pc := 10) (tgt := 69) dX3_load_10 (by decide) (fun c2 => ?_) (fun c2 => ?_)
    · have h := zt_some c2 h
      cases h
      exact z_vret dX3_load_69
    · have h := ze_some c2 h
      refine z_aload_n (pc := 13) (q := 0) dX3_load_13 rfl rfl ?_
      refine z_aload_n (pc := 14) (q := 1) dX3_load_14 rfl rfl ?_
      refine z_iload_n (pc := 15) (q := 2) dX3_load_15 rfl rfl ?_
      obtain ⟨c3, h⟩ := zg_some h
      refine z_iald (pc := 16) dX3_load_16 aX_46 c3 ?_
      obtain ⟨T4, eT4, h⟩ := zl_some h
      refine z_putI (pc := 17) dX3_load_17 zp_X3_24 gX_37_0 rfl rfl eT4 ?_
      refine z_aload_n (pc := 20) (q := 0) dX3_load_20 rfl rfl ?_
      refine z_aload_n (pc := 21) (q := 1) dX3_load_21 rfl rfl ?_
      refine z_iload_n (pc := 22) (q := 2) dX3_load_22 rfl rfl ?_
      refine z_iconst (pc := 23) (v := 1) dX3_load_23 zci_1 ?_
      refine z_iadd (pc := 24) dX3_load_24 ?_
      obtain ⟨c5, h⟩ := zg_some h
      refine z_iald (pc := 25) dX3_load_25 aX_46 c5 ?_
      obtain ⟨T6, eT6, h⟩ := zl_some h
      refine z_putI (pc := 26) dX3_load_26 zp_X3_27 gX_37_1 rfl rfl eT6 ?_
      refine z_aload_n (pc := 29) (q := 0) dX3_load_29 rfl rfl ?_
      refine z_aload_n (pc := 30) (q := 1) dX3_load_30 rfl rfl ?_
      refine z_iload_n (pc := 31) (q := 2) dX3_load_31 rfl rfl ?_
      refine z_iconst (pc := 32) (v := 2) dX3_load_32 zci_2 ?_
      refine z_iadd (pc := 33) dX3_load_33 ?_
      obtain ⟨c7, h⟩ := zg_some h
      refine z_iald (pc := 34) dX3_load_34 aX_46 c7 ?_
      obtain ⟨T8, eT8, h⟩ := zl_some h
      refine z_putI (pc := 35) dX3_load_35 zp_X3_33 gX_37_2 rfl rfl eT8 ?_
      refine z_aload_n (pc := 38) (q := 1) dX3_load_38 rfl rfl ?_
      refine z_iload_n (pc := 39) (q := 2) dX3_load_39 rfl rfl ?_
      refine z_iconst (pc := 40) (v := 3) dX3_load_40 zci_3 ?_
      refine z_iadd (pc := 41) dX3_load_41 ?_
      refine z_aload_n (pc := 42) (q := 0) dX3_load_42 rfl rfl ?_
      refine z_getR (pc := 43) dX3_load_43 zf_X3_9 gX_37_3 ?_
      refine z_iconst (pc := 46) (v := 0) dX3_load_46 zci_0 ?_
      refine z_bipush (pc := 47) (v := 12) dX3_load_47 zcb_12 ?_
      obtain ⟨c9, h⟩ := zg_some h
      obtain ⟨T10, eT10, h⟩ := zl_some h
      refine z_copy (pc := 49) dX3_load_49 zm_X3_40 zM_copy.1 zM_copy.2.1 zM_copy.2.2 aX_46 aX_38 c9 (by decide) (Nat.le_of_ble_eq_true rfl) eT10 ?_
      refine z_aload_n (pc := 52) (q := 1) dX3_load_52 rfl rfl ?_
      refine z_iload_n (pc := 53) (q := 2) dX3_load_53 rfl rfl ?_
      refine z_iconst (pc := 54) (v := 3) dX3_load_54 zci_3 ?_
      refine z_iadd (pc := 55) dX3_load_55 ?_
      refine z_bipush (pc := 56) (v := 12) dX3_load_56 zcb_12 ?_
      refine z_iadd (pc := 58) dX3_load_58 ?_
      refine z_aload_n (pc := 59) (q := 0) dX3_load_59 rfl rfl ?_
      refine z_getR (pc := 60) dX3_load_60 zf_X3_15 gX_37_4 ?_
      refine z_iconst (pc := 63) (v := 0) dX3_load_63 zci_0 ?_
      refine z_bipush (pc := 64) (v := 12) dX3_load_64 zcb_12 ?_
      obtain ⟨c11, h⟩ := zg_some h
      obtain ⟨T12, eT12, h⟩ := zl_some h
      refine z_copy (pc := 66) dX3_load_66 zm_X3_40 zM_copy.1 zM_copy.2.1 zM_copy.2.2 aX_46 aX_39 c11 (by decide) (Nat.le_of_ble_eq_true rfl) eT12 ?_
      cases h
      exact z_vret dX3_load_69
def f_X5_bring_45_13_37 (x1 : Int32) (S : zS) : Option zS :=
  zu (f_X1_load_13_46 (x1 * 99) S) fun T2 =>
  zu (f_X3_load_37_46 ((x1 * 99) + 72) T2) fun T4 =>
  some T4
set_option maxRecDepth 100000 in
theorem w_X5_bring_45_13_37 (l : Launch) {x1 : Int32} {S : zS} {S1 : zS} (h : f_X5_bring_45_13_37 x1 S = some S1) : zMet zLX l yX5_bring cX5_bring 4 none 3 [.ref 45, .int x1, .ref 13, .ref 37] S none S1 := by
  unfold f_X5_bring_45_13_37 at h
  refine zMet.of (by decide +kernel) (Nat.le_of_ble_eq_true rfl) ?_
  show WA zLX l RX5 cX5_bring 4 none 3 none S1 0 [(0, .ref 45), (1, .int x1), (2, .ref 13), (3, .ref 37)] [] S
  refine z_aload_n (pc := 0) (q := 2) dX5_bring_0 rfl rfl ?_
  refine z_aload_n (pc := 1) (q := 0) dX5_bring_1 rfl rfl ?_
  refine z_getR (pc := 2) dX5_bring_2 zf_X5_15 gX_45_1 ?_
  refine z_iload_n (pc := 5) (q := 1) dX5_bring_5 rfl rfl ?_
  refine z_bipush (pc := 6) (v := 99) dX5_bring_6 zcb_99 ?_
  refine z_imul (pc := 8) dX5_bring_8 ?_
  obtain ⟨T2, q1, h⟩ := zu_some h
  refine z_callVv (pc := 9) (st := []) [.ref 46, .int (x1 * 99)] dX5_bring_9 zm_X5_28 zM_X1_load (by decide) oX_13 rfl (w_X1_load_13_46 l q1) rfl rfl (Nat.le_of_ble_eq_true rfl) ?_
  refine z_aload_n (pc := 12) (q := 3) dX5_bring_12 rfl rfl ?_
  refine z_aload_n (pc := 13) (q := 0) dX5_bring_13 rfl rfl ?_
  refine z_getR (pc := 14) dX5_bring_14 zf_X5_15 gX_45_1 ?_
  refine z_iload_n (pc := 17) (q := 1) dX5_bring_17 rfl rfl ?_
  refine z_bipush (pc := 18) (v := 99) dX5_bring_18 zcb_99 ?_
  refine z_imul (pc := 20) dX5_bring_20 ?_
  refine z_bipush (pc := 21) (v := 72) dX5_bring_21 zcb_72 ?_
  refine z_iadd (pc := 23) dX5_bring_23 ?_
  obtain ⟨T4, q3, h⟩ := zu_some h
  refine z_callVv (pc := 24) (st := []) [.ref 46, .int ((x1 * 99) + 72)] dX5_bring_24 zm_X5_31 zM_X3_load (by decide) oX_37 rfl (w_X3_load_37_46 l q3) rfl rfl (Nat.le_of_ble_eq_true rfl) ?_
  cases h
  exact z_vret dX5_bring_27
def f_X11_back (x1 : Int32) (S : zS) : Option (Int32 × zS) :=
  zb (f_X5_has_45 x1 S) fun r3 T2 =>
  if r3 = 0 then
    some ((-1), T2)
  else
    zu (f_X5_bring_45_13_37 x1 T2) fun T6 =>
    zu (f_X0_restart_43_37 T6) fun T8 =>
    some (T8.1 37 1, T8)
set_option maxRecDepth 100000 in
theorem w_X11_back (l : Launch) {x1 : Int32} {S : zS} {r : Int32} {S1 : zS} (h : f_X11_back x1 S = some (r, S1)) : zMet zLX l yX11_back cX11_back 2 (some .int) 4 [.ref 0, .int x1] S (some (.int r)) S1 := by
  unfold f_X11_back at h
  refine zMet.of (by decide +kernel) (Nat.le_of_ble_eq_true rfl) ?_
  show WA zLX l RX11 cX11_back 2 (some .int) 4 (some (.int r)) S1 0 [(0, .ref 0), (1, .int x1)] [] S
  refine z_aload_n (pc := 0) (q := 0) dX11_back_0 rfl rfl ?_
  refine z_getR (pc := 1) dX11_back_1 zf_X11_52 gX_0_8 ?_
  refine z_iload_n (pc := 4) (q := 1) dX11_back_4 rfl rfl ?_
  obtain ⟨r3, T2, q1, h⟩ := zb_some h
  refine z_callVi (pc := 5) (st := []) [.int x1] dX11_back_5 zm_X11_337 zM_X5_has (by decide) oX_45 rfl (w_X5_has_45 l q1) rfl rfl (Nat.le_of_ble_eq_true rfl) ?_
  refine z_if_ne (pc := 8) (tgt := 13) dX11_back_8 (by decide) (fun c4 => ?_) (fun c4 => ?_)
  · have h := ze_some c4 h
    refine z_aload_n (pc := 13) (q := 0) dX11_back_13 rfl rfl ?_
    refine z_getR (pc := 14) dX11_back_14 zf_X11_52 gX_0_8 ?_
    refine z_iload_n (pc := 17) (q := 1) dX11_back_17 rfl rfl ?_
    refine z_aload_n (pc := 18) (q := 0) dX11_back_18 rfl rfl ?_
    refine z_getR (pc := 19) dX11_back_19 zf_X11_25 gX_0_3 ?_
    refine z_getR (pc := 22) dX11_back_22 zf_X11_131 gX_5_13 ?_
    refine z_aload_n (pc := 25) (q := 0) dX11_back_25 rfl rfl ?_
    refine z_getR (pc := 26) dX11_back_26 zf_X11_35 gX_0_5 ?_
    obtain ⟨T6, q5, h⟩ := zu_some h
    refine z_callVv (pc := 29) (st := []) [.int x1, .ref 13, .ref 37] dX11_back_29 zm_X11_340 zM_X5_bring (by decide) oX_45 rfl (w_X5_bring_45_13_37 l q5) rfl rfl (Nat.le_of_ble_eq_true rfl) ?_
    refine z_aload_n (pc := 32) (q := 0) dX11_back_32 rfl rfl ?_
    refine z_getR (pc := 33) dX11_back_33 zf_X11_45 gX_0_7 ?_
    refine z_aload_n (pc := 36) (q := 0) dX11_back_36 rfl rfl ?_
    refine z_getR (pc := 37) dX11_back_37 zf_X11_35 gX_0_5 ?_
    obtain ⟨T8, q7, h⟩ := zu_some h
    refine z_callVv (pc := 40) (st := []) [.ref 37] dX11_back_40 zm_X11_95 zM_X0_restart (by decide) oX_43 rfl (w_X0_restart_43_37 l q7) rfl rfl (Nat.le_of_ble_eq_true rfl) ?_
    refine z_aload_n (pc := 43) (q := 0) dX11_back_43 rfl rfl ?_
    refine z_getR (pc := 44) dX11_back_44 zf_X11_35 gX_0_5 ?_
    refine z_getI (pc := 47) dX11_back_47 zf_X11_223 gX_37_1 ?_
    obtain ⟨rfl, rfl⟩ := zr_some h
    exact z_iret dX11_back_50
  · have h := zt_some c4 h
    refine z_iconst (pc := 11) (v := (-1)) dX11_back_11 zci_m1 ?_
    obtain ⟨rfl, rfl⟩ := zr_some h
    exact z_iret dX11_back_12
def f_X3_allLife_37_L4 : Nat → Int32 → Int32 → zS → Option (Int32 × zS)
  | 0, _, _, _ => none
  | n + 1, x1, x2, S =>
    if x2 < (S.1 37 0) then
      if x2 < 12 then
        if zin x2 12 then
        zlet (x1 + (S.1 38 x2.toNatClampNeg)) fun v4 =>
        zlet (x2 + 1) fun v5 =>
        (f_X3_allLife_37_L4 n) v4 v5 S else none
      else
        some (x1, S)
    else
      some (x1, S)
def f_X3_allLife_37  (S : zS) : Option (Int32 × zS) :=
  f_X3_allLife_37_L4 zN 0 0 S
set_option maxRecDepth 100000 in
theorem w_X3_allLife_37_L4 (l : Launch) {r : Int32} {S1 : zS} : ∀ (n : Nat) (x1 : Int32) (x2 : Int32) (S : zS), f_X3_allLife_37_L4 n x1 x2 S = some (r, S1) → WA zLX l RX3 cX3_allLife 3 (some .int) 1 (some (.int r)) S1 4 [(0, .ref 37), (1, .int x1), (2, .int x2)] [] S := by
  intro n
  induction n with
  | zero =>
    intro x1 x2 S h
    exact nomatch h
  | succ n ih =>
    intro x1 x2 S h
    rw [f_X3_allLife_37_L4] at h
    refine z_iload_n (pc := 4) (q := 2) dX3_allLife_4 rfl rfl ?_
    refine z_aload_n (pc := 5) (q := 0) dX3_allLife_5 rfl rfl ?_
    refine z_getI (pc := 6) dX3_allLife_6 zf_X3_24 gX_37_0 ?_
    refine z_icmp_ge (pc := 9) (tgt := 33) dX3_allLife_9 (by decide) (fun c1 => ?_) (fun c1 => ?_)
    · have h := ze_some c1 h
      refine z_iload_n (pc := 33) (q := 1) dX3_allLife_33 rfl rfl ?_
      obtain ⟨rfl, rfl⟩ := zr_some h
      exact z_iret dX3_allLife_34
    · have h := zt_some c1 h
      refine z_iload_n (pc := 12) (q := 2) dX3_allLife_12 rfl rfl ?_
      refine z_bipush (pc := 13) (v := 12) dX3_allLife_13 zcb_12 ?_
      refine z_icmp_ge (pc := 15) (tgt := 33) dX3_allLife_15 (by decide) (fun c2 => ?_) (fun c2 => ?_)
      · have h := ze_some c2 h
        refine z_iload_n (pc := 33) (q := 1) dX3_allLife_33 rfl rfl ?_
        obtain ⟨rfl, rfl⟩ := zr_some h
        exact z_iret dX3_allLife_34
      · have h := zt_some c2 h
        refine z_iload_n (pc := 18) (q := 1) dX3_allLife_18 rfl rfl ?_
        refine z_aload_n (pc := 19) (q := 0) dX3_allLife_19 rfl rfl ?_
        refine z_getR (pc := 20) dX3_allLife_20 zf_X3_9 gX_37_3 ?_
        refine z_iload_n (pc := 23) (q := 2) dX3_allLife_23 rfl rfl ?_
        obtain ⟨c3, h⟩ := zg_some h
        refine z_iald (pc := 24) dX3_allLife_24 aX_38 c3 ?_
        refine z_iadd (pc := 25) dX3_allLife_25 ?_
        obtain ⟨v4, ev4, h⟩ := zl_some h
        refine z_top ev4 ?_
        refine z_istore_n (pc := 26) (lo' := [(1, .int v4), (0, .ref 37), (2, .int x2)]) dX3_allLife_26 rfl (by decide) rfl ?_
        obtain ⟨v5, ev5, h⟩ := zl_some h
        refine z_iinc (pc := 27) (q := 2) (v := v5) (lo' := [(2, .int v5), (1, .int v4), (0, .ref 37)]) dX3_allLife_27 rfl (by rw [ev5, zci_1]) (by decide) rfl ?_
        refine z_goto (pc := 30) (tgt := 4) dX3_allLife_30 (by decide) ?_
        exact z_sub [2, 1, 0] rfl (ih v4 v5 S h)
set_option maxRecDepth 100000 in
theorem w_X3_allLife_37 (l : Launch)  {S : zS} {r : Int32} {S1 : zS} (h : f_X3_allLife_37 S = some (r, S1)) : zMet zLX l yX3_allLife cX3_allLife 3 (some .int) 1 [.ref 37] S (some (.int r)) S1 := by
  unfold f_X3_allLife_37 at h
  refine zMet.of (by decide +kernel) (Nat.le_of_ble_eq_true rfl) ?_
  show WA zLX l RX3 cX3_allLife 3 (some .int) 1 (some (.int r)) S1 0 [(0, .ref 37)] [] S
  refine z_iconst (pc := 0) (v := 0) dX3_allLife_0 zci_0 ?_
  refine z_istore_n (pc := 1) (lo' := [(1, .int 0), (0, .ref 37)]) dX3_allLife_1 rfl (by decide) rfl ?_
  refine z_iconst (pc := 2) (v := 0) dX3_allLife_2 zci_0 ?_
  refine z_istore_n (pc := 3) (lo' := [(2, .int 0), (1, .int 0), (0, .ref 37)]) dX3_allLife_3 rfl (by decide) rfl ?_
  exact z_sub [2, 1, 0] rfl (w_X3_allLife_37_L4 l zN 0 0 S h)
def f_X11_about (x1 : Int32) (S : zS) : Option (Int32 × zS) :=
  if x1 = 0 then
    some (S.1 37 0, S)
  else
    if x1 = 1 then
      some (S.1 5 0, S)
    else
      if x1 = 2 then
        some (S.1 5 1, S)
      else
        if x1 = 3 then
          some (S.1 5 2, S)
        else
          if x1 = 4 then
            some (S.1 5 3, S)
          else
            if x1 = 5 then
              some (S.1 37 1, S)
            else
              if x1 = 6 then
                some (S.1 37 2, S)
              else
                if x1 = 7 then
                  zb (f_X3_allLife_37 S) fun r11 T10 =>
                  some (r11, T10)
                else
                  if x1 = 8 then
                    some (S.1 43 0, S)
                  else
                    if x1 = 9 then
                      some (S.1 43 1, S)
                    else
                      if x1 = 10 then
                        some (S.1 47 0, S)
                      else
                        if x1 = 11 then
                          some (S.1 47 1, S)
                        else
                          if x1 = 12 then
                            some (S.1 0 1, S)
                          else
                            if x1 = 13 then
                              some (S.1 9 0, S)
                            else
                              if x1 = 14 then
                                some (S.1 0 15, S)
                              else
                                some ((-1), S)
set_option maxRecDepth 100000 in
theorem w_X11_about (l : Launch) {x1 : Int32} {S : zS} {r : Int32} {S1 : zS} (h : f_X11_about x1 S = some (r, S1)) : zMet zLX l yX11_about cX11_about 2 (some .int) 2 [.ref 0, .int x1] S (some (.int r)) S1 := by
  unfold f_X11_about at h
  refine zMet.of (by decide +kernel) (Nat.le_of_ble_eq_true rfl) ?_
  show WA zLX l RX11 cX11_about 2 (some .int) 2 (some (.int r)) S1 0 [(0, .ref 0), (1, .int x1)] [] S
  refine z_iload_n (pc := 0) (q := 1) dX11_about_0 rfl rfl ?_
  refine z_tsw (pc := 1) 193 [(0, 76), (1, 84), (2, 92), (3, 100), (4, 108), (5, 116), (6, 124), (7, 132), (8, 140), (9, 148), (10, 156), (11, 164), (12, 172), (13, 177), (14, 188)] dX11_about_1 (by decide) (by decide +kernel) (by decide +kernel) ?_
  refine zsw_c (fun c1 => ?_) (fun c1 => ?_)
  · have h := zt_some c1 h
    refine z_aload_n (pc := 76) (q := 0) dX11_about_76 rfl rfl ?_
    refine z_getR (pc := 77) dX11_about_77 zf_X11_35 gX_0_5 ?_
    refine z_getI (pc := 80) dX11_about_80 zf_X11_118 gX_37_0 ?_
    obtain ⟨rfl, rfl⟩ := zr_some h
    exact z_iret dX11_about_83
  · have h := ze_some c1 h
    refine zsw_c (fun c2 => ?_) (fun c2 => ?_)
    · have h := zt_some c2 h
      refine z_aload_n (pc := 84) (q := 0) dX11_about_84 rfl rfl ?_
      refine z_getR (pc := 85) dX11_about_85 zf_X11_25 gX_0_3 ?_
      refine z_getI (pc := 88) dX11_about_88 zf_X11_254 gX_5_0 ?_
      obtain ⟨rfl, rfl⟩ := zr_some h
      exact z_iret dX11_about_91
    · have h := ze_some c2 h
      refine zsw_c (fun c3 => ?_) (fun c3 => ?_)
      · have h := zt_some c3 h
        refine z_aload_n (pc := 92) (q := 0) dX11_about_92 rfl rfl ?_
        refine z_getR (pc := 93) dX11_about_93 zf_X11_25 gX_0_3 ?_
        refine z_getI (pc := 96) dX11_about_96 zf_X11_343 gX_5_1 ?_
        obtain ⟨rfl, rfl⟩ := zr_some h
        exact z_iret dX11_about_99
      · have h := ze_some c3 h
        refine zsw_c (fun c4 => ?_) (fun c4 => ?_)
        · have h := zt_some c4 h
          refine z_aload_n (pc := 100) (q := 0) dX11_about_100 rfl rfl ?_
          refine z_getR (pc := 101) dX11_about_101 zf_X11_25 gX_0_3 ?_
          refine z_getI (pc := 104) dX11_about_104 zf_X11_346 gX_5_2 ?_
          obtain ⟨rfl, rfl⟩ := zr_some h
          exact z_iret dX11_about_107
        · have h := ze_some c4 h
          refine zsw_c (fun c5 => ?_) (fun c5 => ?_)
          · have h := zt_some c5 h
            refine z_aload_n (pc := 108) (q := 0) dX11_about_108 rfl rfl ?_
            refine z_getR (pc := 109) dX11_about_109 zf_X11_25 gX_0_3 ?_
            refine z_getI (pc := 112) dX11_about_112 zf_X11_288 gX_5_3 ?_
            obtain ⟨rfl, rfl⟩ := zr_some h
            exact z_iret dX11_about_115
          · have h := ze_some c5 h
            refine zsw_c (fun c6 => ?_) (fun c6 => ?_)
            · have h := zt_some c6 h
              refine z_aload_n (pc := 116) (q := 0) dX11_about_116 rfl rfl ?_
              refine z_getR (pc := 117) dX11_about_117 zf_X11_35 gX_0_5 ?_
              refine z_getI (pc := 120) dX11_about_120 zf_X11_223 gX_37_1 ?_
              obtain ⟨rfl, rfl⟩ := zr_some h
              exact z_iret dX11_about_123
            · have h := ze_some c6 h
              refine zsw_c (fun c7 => ?_) (fun c7 => ?_)
              · have h := zt_some c7 h
                refine z_aload_n (pc := 124) (q := 0) dX11_about_124 rfl rfl ?_
                refine z_getR (pc := 125) dX11_about_125 zf_X11_35 gX_0_5 ?_
                refine z_getI (pc := 128) dX11_about_128 zf_X11_349 gX_37_2 ?_
                obtain ⟨rfl, rfl⟩ := zr_some h
                exact z_iret dX11_about_131
              · have h := ze_some c7 h
                refine zsw_c (fun c8 => ?_) (fun c8 => ?_)
                · have h := zt_some c8 h
                  refine z_aload_n (pc := 132) (q := 0) dX11_about_132 rfl rfl ?_
                  refine z_getR (pc := 133) dX11_about_133 zf_X11_35 gX_0_5 ?_
                  obtain ⟨r11, T10, q9, h⟩ := zb_some h
                  refine z_callVi (pc := 136) (st := []) [] dX11_about_136 zm_X11_352 zM_X3_allLife (by decide) oX_37 rfl (w_X3_allLife_37 l q9) rfl rfl (Nat.le_of_ble_eq_true rfl) ?_
                  obtain ⟨rfl, rfl⟩ := zr_some h
                  exact z_iret dX11_about_139
                · have h := ze_some c8 h
                  refine zsw_c (fun c9 => ?_) (fun c9 => ?_)
                  · have h := zt_some c9 h
                    refine z_aload_n (pc := 140) (q := 0) dX11_about_140 rfl rfl ?_
                    refine z_getR (pc := 141) dX11_about_141 zf_X11_45 gX_0_7 ?_
                    refine z_getI (pc := 144) dX11_about_144 zf_X11_355 gX_43_0 ?_
                    obtain ⟨rfl, rfl⟩ := zr_some h
                    exact z_iret dX11_about_147
                  · have h := ze_some c9 h
                    refine zsw_c (fun c10 => ?_) (fun c10 => ?_)
                    · have h := zt_some c10 h
                      refine z_aload_n (pc := 148) (q := 0) dX11_about_148 rfl rfl ?_
                      refine z_getR (pc := 149) dX11_about_149 zf_X11_45 gX_0_7 ?_
                      refine z_getI (pc := 152) dX11_about_152 zf_X11_358 gX_43_1 ?_
                      obtain ⟨rfl, rfl⟩ := zr_some h
                      exact z_iret dX11_about_155
                    · have h := ze_some c10 h
                      refine zsw_c (fun c11 => ?_) (fun c11 => ?_)
                      · have h := zt_some c11 h
                        refine z_aload_n (pc := 156) (q := 0) dX11_about_156 rfl rfl ?_
                        refine z_getR (pc := 157) dX11_about_157 zf_X11_59 gX_0_9 ?_
                        refine z_getI (pc := 160) dX11_about_160 zf_X11_361 gX_47_0 ?_
                        obtain ⟨rfl, rfl⟩ := zr_some h
                        exact z_iret dX11_about_163
                      · have h := ze_some c11 h
                        refine zsw_c (fun c12 => ?_) (fun c12 => ?_)
                        · have h := zt_some c12 h
                          refine z_aload_n (pc := 164) (q := 0) dX11_about_164 rfl rfl ?_
                          refine z_getR (pc := 165) dX11_about_165 zf_X11_59 gX_0_9 ?_
                          refine z_getI (pc := 168) dX11_about_168 zf_X11_314 gX_47_1 ?_
                          obtain ⟨rfl, rfl⟩ := zr_some h
                          exact z_iret dX11_about_171
                        · have h := ze_some c12 h
                          refine zsw_c (fun c13 => ?_) (fun c13 => ?_)
                          · have h := zt_some c13 h
                            refine z_aload_n (pc := 172) (q := 0) dX11_about_172 rfl rfl ?_
                            refine z_getI (pc := 173) dX11_about_173 zf_X11_99 gX_0_1 ?_
                            obtain ⟨rfl, rfl⟩ := zr_some h
                            exact z_iret dX11_about_176
                          · have h := ze_some c13 h
                            refine zsw_c (fun c14 => ?_) (fun c14 => ?_)
                            · have h := zt_some c14 h
                              refine z_aload_n (pc := 177) (q := 0) dX11_about_177 rfl rfl ?_
                              refine z_getR (pc := 178) dX11_about_178 zf_X11_25 gX_0_3 ?_
                              refine z_getR (pc := 181) dX11_about_181 zf_X11_362 gX_5_12 ?_
                              refine z_getI (pc := 184) dX11_about_184 zf_X11_366 gX_9_0 ?_
                              obtain ⟨rfl, rfl⟩ := zr_some h
                              exact z_iret dX11_about_187
                            · have h := ze_some c14 h
                              refine zsw_c (fun c15 => ?_) (fun c15 => ?_)
                              · have h := zt_some c15 h
                                refine z_aload_n (pc := 188) (q := 0) dX11_about_188 rfl rfl ?_
                                refine z_getI (pc := 189) dX11_about_189 zf_X11_115 gX_0_15 ?_
                                obtain ⟨rfl, rfl⟩ := zr_some h
                                exact z_iret dX11_about_192
                              · have h := ze_some c15 h
                                refine zsw_n ?_
                                refine z_iconst (pc := 193) (v := (-1)) dX11_about_193 zci_m1 ?_
                                obtain ⟨rfl, rfl⟩ := zr_some h
                                exact z_iret dX11_about_194
