def f_X12_game_B151 (K126 : Int32 → Int32 → zS → Option (Int32 × zS)) (x4 : Int32) (s0 : Int32) (s1 : Int32) (S : zS) : Option (Int32 × zS) :=
  zb (f_X12_truth s0 S) fun r3 T2 =>
  zlet (s1 + r3) fun v4 =>
  zlet (x4 + 1) fun v5 =>
  K126 v4 v5 T2
def f_X12_game_L126 : Nat → Int32 → Int32 → zS → Option (Int32 × zS)
  | 0, _, _, _ => none
  | n + 1, x3, x4, S =>
    if x4 < (S.1 0 45) then
      if zin x4 3 then
      if (S.1 23 x4.toNatClampNeg) < 0 then
        f_X12_game_B151 (f_X12_game_L126 n) x4 0 x3 S
      else
        f_X12_game_B151 (f_X12_game_L126 n) x4 1 x3 S else none
    else
      some (x3, S)
def f_X12_game_B113  (S : zS) : Option (Int32 × zS) :=
  zlet (zput S 0 60 (S.1 0 45)) fun T1 =>
  f_X12_game_L126 zN 0 0 T1
def f_X12_game_B71 (K13 : Int32 → Int32 → Int32 → zS → Option (Int32 × zS)) (x3 : Int32) (S : zS) : Option (Int32 × zS) :=
  zlet (S.1 27 (Int32.toNatClampNeg 0)) fun v1 =>
  zlet (zput S 23 (Int32.toNatClampNeg 0) x3) fun T2 =>
  zlet (zput T2 23 (Int32.toNatClampNeg 1) (T2.1 0 65)) fun T3 =>
  zlet (zput T3 23 (Int32.toNatClampNeg 2) (T3.1 0 66)) fun T4 =>
  zlet (x3 + 1) fun v5 =>
  K13 v1 1 v5 T4
def f_X12_game_L13 : Nat → Int32 → Int32 → Int32 → zS → Option (Int32 × zS)
  | 0, _, _, _, _ => none
  | n + 1, x1, x2, x3, S =>
    if x3 < (S.1 19 (Int32.toNatClampNeg 96)) then
      if (0 : Int32) < (S.1 0 45) then
        zb (f_X12_canPull 0 x3 S) fun r5 T4 =>
        if r5 = 0 then
          zlet (x3 + 1) fun v7 =>
          (f_X12_game_L13 n) x1 x2 v7 T4
        else
          zlet (zput T4 26 (Int32.toNatClampNeg 0) x3) fun T7 =>
          zu (f_X12_laySecond T7) fun T9 =>
          if x2 = 0 then
            f_X12_game_B71 (f_X12_game_L13 n) x3 T9
          else
            if x1 < (T9.1 27 (Int32.toNatClampNeg 0)) then
              f_X12_game_B71 (f_X12_game_L13 n) x3 T9
            else
              zlet (x3 + 1) fun v12 =>
              (f_X12_game_L13 n) x1 x2 v12 T9
      else
        f_X12_game_B113 S
    else
      f_X12_game_B113 S
def f_X12_game  (S : zS) : Option (Int32 × zS) :=
  zlet (zput S 0 60 0) fun T1 =>
  f_X12_game_L13 zN (-100000) 0 (-1) T1
set_option maxRecDepth 100000 in
theorem w_X12_game_B151 (l : Launch) {r : Int32} {S1 : zS} (K126 : Int32 → Int32 → zS → Option (Int32 × zS)) (hK126 : ∀ (x3 : Int32) (x4 : Int32) (S : zS), K126 x3 x4 S = some (r, S1) → WA zLM l RX12 cX12_game 5 (some .int) 11 (some (.int r)) S1 126 [(0, .ref 0), (3, .int x3), (4, .int x4)] [] S) (x4 : Int32) (s0 : Int32) (s1 : Int32) (S : zS) (h : f_X12_game_B151 K126 x4 s0 s1 S = some (r, S1)) : WA zLM l RX12 cX12_game 5 (some .int) 11 (some (.int r)) S1 151 [(0, .ref 0), (4, .int x4)] [.int s0, .int s1] S := by
  unfold f_X12_game_B151 at h
  obtain ⟨r3, T2, q1, h⟩ := zb_some h
  refine z_callSi (pc := 151) (st := [.int s1]) [.int s0] dX12_game_151 zm_X12_307 zM_X12_truth (by decide) (w_X12_truth l q1) rfl rfl (Nat.le_of_ble_eq_true rfl) ?_
  refine z_iadd (pc := 154) dX12_game_154 ?_
  obtain ⟨v4, ev4, h⟩ := zl_some h
  refine z_top ev4 ?_
  refine z_istore_n (pc := 155) (lo' := [(3, .int v4), (0, .ref 0), (4, .int x4)]) dX12_game_155 rfl (by decide) rfl ?_
  obtain ⟨v5, ev5, h⟩ := zl_some h
  refine z_iinc (pc := 156) (q := 2) (v := v5) (lo' := [(4, .int v5), (3, .int v4), (0, .ref 0)]) dX12_game_156 rfl (by rw [ev5, zci_1]) (by decide) rfl ?_
  refine z_goto (pc := 159) (tgt := 126) dX12_game_159 (by decide) ?_
  exact z_sub [2, 1, 0] rfl (hK126 v4 v5 T2 h)
set_option maxRecDepth 100000 in
theorem w_X12_game_L126 (l : Launch) {r : Int32} {S1 : zS} : ∀ (n : Nat) (x3 : Int32) (x4 : Int32) (S : zS), f_X12_game_L126 n x3 x4 S = some (r, S1) → WA zLM l RX12 cX12_game 5 (some .int) 11 (some (.int r)) S1 126 [(0, .ref 0), (3, .int x3), (4, .int x4)] [] S := by
  intro n
  induction n with
  | zero =>
    intro x3 x4 S h
    exact nomatch h
  | succ n ih =>
    intro x3 x4 S h
    rw [f_X12_game_L126] at h
    refine z_iload (pc := 126) (q := 2) dX12_game_126 rfl ?_
    refine z_aload_n (pc := 128) (q := 0) dX12_game_128 rfl rfl ?_
    refine z_getI (pc := 129) dX12_game_129 zf_X12_401 gM_0_45 ?_
    refine z_icmp_ge (pc := 132) (tgt := 162) dX12_game_132 (by decide) (fun c1 => ?_) (fun c1 => ?_)
    · have h := ze_some c1 h
      refine z_iload_n (pc := 162) (q := 1) dX12_game_162 rfl rfl ?_
      obtain ⟨rfl, rfl⟩ := zr_some h
      exact z_iret dX12_game_163
    · have h := zt_some c1 h
      refine z_iload_n (pc := 135) (q := 1) dX12_game_135 rfl rfl ?_
      refine z_aload_n (pc := 136) (q := 0) dX12_game_136 rfl rfl ?_
      refine z_getR (pc := 137) dX12_game_137 zf_X12_88 gM_0_59 ?_
      refine z_iload (pc := 140) (q := 2) dX12_game_140 rfl ?_
      obtain ⟨c2, h⟩ := zg_some h
      refine z_iald (pc := 142) dX12_game_142 aM_23 c2 ?_
      refine z_if_lt (pc := 143) (tgt := 150) dX12_game_143 (by decide) (fun c3 => ?_) (fun c3 => ?_)
      · have h := zt_some c3 h
        refine z_iconst (pc := 150) (v := 0) dX12_game_150 zci_0 ?_
        exact z_sub [0, 2] rfl (w_X12_game_B151 l (f_X12_game_L126 n) ih x4 0 x3 S h)
      · have h := ze_some c3 h
        refine z_iconst (pc := 146) (v := 1) dX12_game_146 zci_1 ?_
        refine z_goto (pc := 147) (tgt := 151) dX12_game_147 (by decide) ?_
        exact z_sub [0, 2] rfl (w_X12_game_B151 l (f_X12_game_L126 n) ih x4 1 x3 S h)
set_option maxRecDepth 100000 in
theorem w_X12_game_B113 (l : Launch) {r : Int32} {S1 : zS}  (S : zS) (h : f_X12_game_B113 S = some (r, S1)) : WA zLM l RX12 cX12_game 5 (some .int) 11 (some (.int r)) S1 113 [(0, .ref 0)] [] S := by
  unfold f_X12_game_B113 at h
  refine z_aload_n (pc := 113) (q := 0) dX12_game_113 rfl rfl ?_
  refine z_aload_n (pc := 114) (q := 0) dX12_game_114 rfl rfl ?_
  refine z_getI (pc := 115) dX12_game_115 zf_X12_401 gM_0_45 ?_
  obtain ⟨T1, eT1, h⟩ := zl_some h
  refine z_putI (pc := 118) dX12_game_118 zp_X12_419 gM_0_60 rfl rfl eT1 ?_
  refine z_iconst (pc := 121) (v := 0) dX12_game_121 zci_0 ?_
  refine z_istore_n (pc := 122) (lo' := [(3, .int 0), (0, .ref 0)]) dX12_game_122 rfl (by decide) rfl ?_
  refine z_iconst (pc := 123) (v := 0) dX12_game_123 zci_0 ?_
  refine z_istore (pc := 124) (lo' := [(4, .int 0), (3, .int 0), (0, .ref 0)]) dX12_game_124 (by decide) rfl ?_
  exact z_sub [2, 1, 0] rfl (w_X12_game_L126 l zN 0 0 T1 h)
set_option maxRecDepth 100000 in
theorem w_X12_game_B71 (l : Launch) {r : Int32} {S1 : zS} (K13 : Int32 → Int32 → Int32 → zS → Option (Int32 × zS)) (hK13 : ∀ (x1 : Int32) (x2 : Int32) (x3 : Int32) (S : zS), K13 x1 x2 x3 S = some (r, S1) → WA zLM l RX12 cX12_game 5 (some .int) 11 (some (.int r)) S1 13 [(0, .ref 0), (1, .int x1), (2, .int x2), (3, .int x3)] [] S) (x3 : Int32) (S : zS) (h : f_X12_game_B71 K13 x3 S = some (r, S1)) : WA zLM l RX12 cX12_game 5 (some .int) 11 (some (.int r)) S1 71 [(0, .ref 0), (3, .int x3)] [] S := by
  unfold f_X12_game_B71 at h
  refine z_iconst (pc := 71) (v := 1) dX12_game_71 zci_1 ?_
  refine z_istore_n (pc := 72) (lo' := [(2, .int 1), (0, .ref 0), (3, .int x3)]) dX12_game_72 rfl (by decide) rfl ?_
  refine z_aload_n (pc := 73) (q := 1) dX12_game_73 rfl rfl ?_
  refine z_getR (pc := 74) dX12_game_74 zf_X12_100 gM_0_64 ?_
  refine z_iconst (pc := 77) (v := 0) dX12_game_77 zci_0 ?_
  refine z_iald (pc := 78) dX12_game_78 aM_27 (by decide) ?_
  obtain ⟨v1, ev1, h⟩ := zl_some h
  refine z_top ev1 ?_
  refine z_istore_n (pc := 79) (lo' := [(1, .int v1), (2, .int 1), (0, .ref 0), (3, .int x3)]) dX12_game_79 rfl (by decide) rfl ?_
  refine z_aload_n (pc := 80) (q := 2) dX12_game_80 rfl rfl ?_
  refine z_getR (pc := 81) dX12_game_81 zf_X12_88 gM_0_59 ?_
  refine z_iconst (pc := 84) (v := 0) dX12_game_84 zci_0 ?_
  refine z_iload_n (pc := 85) (q := 3) dX12_game_85 rfl rfl ?_
  obtain ⟨T2, eT2, h⟩ := zl_some h
  refine z_iast (pc := 86) dX12_game_86 aM_23 (by decide) eT2 ?_
  refine z_aload_n (pc := 87) (q := 2) dX12_game_87 rfl rfl ?_
  refine z_getR (pc := 88) dX12_game_88 zf_X12_88 gM_0_59 ?_
  refine z_iconst (pc := 91) (v := 1) dX12_game_91 zci_1 ?_
  refine z_aload_n (pc := 92) (q := 2) dX12_game_92 rfl rfl ?_
  refine z_getI (pc := 93) dX12_game_93 zf_X12_548 gM_0_65 ?_
  obtain ⟨T3, eT3, h⟩ := zl_some h
  refine z_iast (pc := 96) dX12_game_96 aM_23 (by decide) eT3 ?_
  refine z_aload_n (pc := 97) (q := 2) dX12_game_97 rfl rfl ?_
  refine z_getR (pc := 98) dX12_game_98 zf_X12_88 gM_0_59 ?_
  refine z_iconst (pc := 101) (v := 2) dX12_game_101 zci_2 ?_
  refine z_aload_n (pc := 102) (q := 2) dX12_game_102 rfl rfl ?_
  refine z_getI (pc := 103) dX12_game_103 zf_X12_557 gM_0_66 ?_
  obtain ⟨T4, eT4, h⟩ := zl_some h
  refine z_iast (pc := 106) dX12_game_106 aM_23 (by decide) eT4 ?_
  obtain ⟨v5, ev5, h⟩ := zl_some h
  refine z_iinc (pc := 107) (q := 3) (v := v5) (lo' := [(3, .int v5), (1, .int v1), (2, .int 1), (0, .ref 0)]) dX12_game_107 rfl (by rw [ev5, zci_1]) (by decide) rfl ?_
  refine z_goto (pc := 110) (tgt := 13) dX12_game_110 (by decide) ?_
  exact z_sub [3, 1, 2, 0] rfl (hK13 v1 1 v5 T4 h)
set_option maxRecDepth 100000 in
theorem w_X12_game_L13 (l : Launch) {r : Int32} {S1 : zS} : ∀ (n : Nat) (x1 : Int32) (x2 : Int32) (x3 : Int32) (S : zS), f_X12_game_L13 n x1 x2 x3 S = some (r, S1) → WA zLM l RX12 cX12_game 5 (some .int) 11 (some (.int r)) S1 13 [(0, .ref 0), (1, .int x1), (2, .int x2), (3, .int x3)] [] S := by
  intro n
  induction n with
  | zero =>
    intro x1 x2 x3 S h
    exact nomatch h
  | succ n ih =>
    intro x1 x2 x3 S h
    rw [f_X12_game_L13] at h
    refine z_iload_n (pc := 13) (q := 3) dX12_game_13 rfl rfl ?_
    refine z_aload_n (pc := 14) (q := 0) dX12_game_14 rfl rfl ?_
    refine z_getR (pc := 15) dX12_game_15 zf_X12_76 gM_0_53 ?_
    refine z_bipush (pc := 18) (v := 96) dX12_game_18 zcb_96 ?_
    refine z_iald (pc := 20) dX12_game_20 aM_19 (by decide) ?_
    refine z_icmp_ge (pc := 21) (tgt := 113) dX12_game_21 (by decide) (fun c1 => ?_) (fun c1 => ?_)
    · have h := ze_some c1 h
      exact z_sub [0] rfl (w_X12_game_B113 l S h)
    · have h := zt_some c1 h
      refine z_aload_n (pc := 24) (q := 0) dX12_game_24 rfl rfl ?_
      refine z_getI (pc := 25) dX12_game_25 zf_X12_401 gM_0_45 ?_
      refine z_if_le (pc := 28) (tgt := 113) dX12_game_28 (by decide) (fun c2 => ?_) (fun c2 => ?_)
      · have h := ze_some c2 h
        exact z_sub [0] rfl (w_X12_game_B113 l S h)
      · have h := zt_some c2 h
        refine z_aload_n (pc := 31) (q := 0) dX12_game_31 rfl rfl ?_
        refine z_iconst (pc := 32) (v := 0) dX12_game_32 zci_0 ?_
        refine z_iload_n (pc := 33) (q := 3) dX12_game_33 rfl rfl ?_
        obtain ⟨r5, T4, q3, h⟩ := zb_some h
        refine z_callVi (pc := 34) (st := []) [.int 0, .int x3] dX12_game_34 zm_X12_551 zM_X12_canPull (by decide) oM_0 rfl (w_X12_canPull l q3) rfl rfl (Nat.le_of_ble_eq_true rfl) ?_
        refine z_if_ne (pc := 37) (tgt := 43) dX12_game_37 (by decide) (fun c6 => ?_) (fun c6 => ?_)
        · have h := ze_some c6 h
          refine z_aload_n (pc := 43) (q := 0) dX12_game_43 rfl rfl ?_
          refine z_getR (pc := 44) dX12_game_44 zf_X12_97 gM_0_63 ?_
          refine z_iconst (pc := 47) (v := 0) dX12_game_47 zci_0 ?_
          refine z_iload_n (pc := 48) (q := 3) dX12_game_48 rfl rfl ?_
          obtain ⟨T7, eT7, h⟩ := zl_some h
          refine z_iast (pc := 49) dX12_game_49 aM_26 (by decide) eT7 ?_
          refine z_aload_n (pc := 50) (q := 0) dX12_game_50 rfl rfl ?_
          obtain ⟨T9, q8, h⟩ := zu_some h
          refine z_callVv (pc := 51) (st := []) [] dX12_game_51 zm_X12_564 zM_X12_laySecond (by decide) oM_0 rfl (w_X12_laySecond l q8) rfl rfl (Nat.le_of_ble_eq_true rfl) ?_
          refine z_iload_n (pc := 54) (q := 2) dX12_game_54 rfl rfl ?_
          refine z_if_eq (pc := 55) (tgt := 71) dX12_game_55 (by decide) (fun c10 => ?_) (fun c10 => ?_)
          · have h := zt_some c10 h
            exact z_sub [0, 3] rfl (w_X12_game_B71 l (f_X12_game_L13 n) ih x3 T9 h)
          · have h := ze_some c10 h
            refine z_aload_n (pc := 58) (q := 0) dX12_game_58 rfl rfl ?_
            refine z_getR (pc := 59) dX12_game_59 zf_X12_100 gM_0_64 ?_
            refine z_iconst (pc := 62) (v := 0) dX12_game_62 zci_0 ?_
            refine z_iald (pc := 63) dX12_game_63 aM_27 (by decide) ?_
            refine z_iload_n (pc := 64) (q := 1) dX12_game_64 rfl rfl ?_
            refine z_icmp_gt (pc := 65) (tgt := 71) dX12_game_65 (by decide) (fun c11 => ?_) (fun c11 => ?_)
            · have h := zt_some c11 h
              exact z_sub [0, 3] rfl (w_X12_game_B71 l (f_X12_game_L13 n) ih x3 T9 h)
            · have h := ze_some c11 h
              refine z_goto (pc := 68) (tgt := 107) dX12_game_68 (by decide) ?_
              obtain ⟨v12, ev12, h⟩ := zl_some h
              refine z_iinc (pc := 107) (q := 3) (v := v12) (lo' := [(3, .int v12), (0, .ref 0), (1, .int x1), (2, .int x2)]) dX12_game_107 rfl (by rw [ev12, zci_1]) (by decide) rfl ?_
              refine z_goto (pc := 110) (tgt := 13) dX12_game_110 (by decide) ?_
              exact z_sub [1, 2, 3, 0] rfl (ih x1 x2 v12 T9 h)
        · have h := zt_some c6 h
          refine z_goto (pc := 40) (tgt := 107) dX12_game_40 (by decide) ?_
          obtain ⟨v7, ev7, h⟩ := zl_some h
          refine z_iinc (pc := 107) (q := 3) (v := v7) (lo' := [(3, .int v7), (0, .ref 0), (1, .int x1), (2, .int x2)]) dX12_game_107 rfl (by rw [ev7, zci_1]) (by decide) rfl ?_
          refine z_goto (pc := 110) (tgt := 13) dX12_game_110 (by decide) ?_
          exact z_sub [1, 2, 3, 0] rfl (ih x1 x2 v7 T4 h)
set_option maxRecDepth 100000 in
theorem w_X12_game (l : Launch)  {S : zS} {r : Int32} {S1 : zS} (h : f_X12_game S = some (r, S1)) : zMet zLM l yX12_game cX12_game 5 (some .int) 11 [.ref 0] S (some (.int r)) S1 := by
  unfold f_X12_game at h
  refine zMet.of (by decide +kernel) (Nat.le_of_ble_eq_true rfl) ?_
  show WA zLM l RX12 cX12_game 5 (some .int) 11 (some (.int r)) S1 0 [(0, .ref 0)] [] S
  refine z_aload_n (pc := 0) (q := 0) dX12_game_0 rfl rfl ?_
  refine z_iconst (pc := 1) (v := 0) dX12_game_1 zci_0 ?_
  obtain ⟨T1, eT1, h⟩ := zl_some h
  refine z_putI (pc := 2) dX12_game_2 zp_X12_419 gM_0_60 rfl rfl eT1 ?_
  refine z_ldcw (pc := 5) dX12_game_5 zk_X12_563 ?_
  refine z_istore_n (pc := 8) (lo' := [(1, .int (-100000)), (0, .ref 0)]) dX12_game_8 rfl (by decide) rfl ?_
  refine z_iconst (pc := 9) (v := 0) dX12_game_9 zci_0 ?_
  refine z_istore_n (pc := 10) (lo' := [(2, .int 0), (1, .int (-100000)), (0, .ref 0)]) dX12_game_10 rfl (by decide) rfl ?_
  refine z_iconst (pc := 11) (v := (-1)) dX12_game_11 zci_m1 ?_
  refine z_istore_n (pc := 12) (lo' := [(3, .int (-1)), (2, .int 0), (1, .int (-100000)), (0, .ref 0)]) dX12_game_12 rfl (by decide) rfl ?_
  exact z_sub [3, 2, 1, 0] rfl (w_X12_game_L13 l zN (-100000) 0 (-1) T1 h)
def f_X12_lies (x1 : Int32) (S : zS) : Option (Int32 × zS) :=
  zb (f_X12_isIn x1 0 ((S.1 0 60) - 1) S) fun r3 T2 =>
  if r3 = 0 then
    some ((-2), T2)
  else
    if zin x1 3 then
    some (T2.1 23 x1.toNatClampNeg, T2) else none
set_option maxRecDepth 100000 in
theorem w_X12_lies (l : Launch) {x1 : Int32} {S : zS} {r : Int32} {S1 : zS} (h : f_X12_lies x1 S = some (r, S1)) : zMet zLM l yX12_lies cX12_lies 2 (some .int) 2 [.ref 0, .int x1] S (some (.int r)) S1 := by
  unfold f_X12_lies at h
  refine zMet.of (by decide +kernel) (Nat.le_of_ble_eq_true rfl) ?_
  show WA zLM l RX12 cX12_lies 2 (some .int) 2 (some (.int r)) S1 0 [(0, .ref 0), (1, .int x1)] [] S
  refine z_iload_n (pc := 0) (q := 1) dX12_lies_0 rfl rfl ?_
  refine z_iconst (pc := 1) (v := 0) dX12_lies_1 zci_0 ?_
  refine z_aload_n (pc := 2) (q := 0) dX12_lies_2 rfl rfl ?_
  refine z_getI (pc := 3) dX12_lies_3 zf_X12_419 gM_0_60 ?_
  refine z_iconst (pc := 6) (v := 1) dX12_lies_6 zci_1 ?_
  refine z_isub (pc := 7) dX12_lies_7 ?_
  obtain ⟨r3, T2, q1, h⟩ := zb_some h
  refine z_callSi (pc := 8) (st := []) [.int x1, .int 0, .int ((S.1 0 60) - 1)] dX12_lies_8 zm_X12_422 zM_X12_isIn (by decide) (w_X12_isIn l q1) rfl rfl (Nat.le_of_ble_eq_true rfl) ?_
  refine z_if_eq (pc := 11) (tgt := 23) dX12_lies_11 (by decide) (fun c4 => ?_) (fun c4 => ?_)
  · have h := zt_some c4 h
    refine z_bipush (pc := 23) (v := (-2)) dX12_lies_23 zcb_m2 ?_
    obtain ⟨rfl, rfl⟩ := zr_some h
    exact z_iret dX12_lies_25
  · have h := ze_some c4 h
    refine z_aload_n (pc := 14) (q := 0) dX12_lies_14 rfl rfl ?_
    refine z_getR (pc := 15) dX12_lies_15 zf_X12_88 gM_0_59 ?_
    refine z_iload_n (pc := 18) (q := 1) dX12_lies_18 rfl rfl ?_
    obtain ⟨c5, h⟩ := zg_some h
    refine z_iald (pc := 19) dX12_lies_19 aM_23 c5 ?_
    refine z_goto (pc := 20) (tgt := 25) dX12_lies_20 (by decide) ?_
    obtain ⟨rfl, rfl⟩ := zr_some h
    exact z_iret dX12_lies_25
def f_X12_firstBills  (S : zS) : Option (Int32 × zS) :=
  if (S.1 19 (Int32.toNatClampNeg 96)) < 5 then
    some (S.1 19 (Int32.toNatClampNeg 96), S)
  else
    some (5, S)
set_option maxRecDepth 100000 in
theorem w_X12_firstBills (l : Launch)  {S : zS} {r : Int32} {S1 : zS} (h : f_X12_firstBills S = some (r, S1)) : zMet zLM l yX12_firstBills cX12_firstBills 1 (some .int) 1 [.ref 0] S (some (.int r)) S1 := by
  unfold f_X12_firstBills at h
  refine zMet.of (by decide +kernel) (Nat.le_of_ble_eq_true rfl) ?_
  show WA zLM l RX12 cX12_firstBills 1 (some .int) 1 (some (.int r)) S1 0 [(0, .ref 0)] [] S
  refine z_aload_n (pc := 0) (q := 0) dX12_firstBills_0 rfl rfl ?_
  refine z_getR (pc := 1) dX12_firstBills_1 zf_X12_76 gM_0_53 ?_
  refine z_bipush (pc := 4) (v := 96) dX12_firstBills_4 zcb_96 ?_
  refine z_iald (pc := 6) dX12_firstBills_6 aM_19 (by decide) ?_
  refine z_iconst (pc := 7) (v := 5) dX12_firstBills_7 zci_5 ?_
  refine z_icmp_ge (pc := 8) (tgt := 21) dX12_firstBills_8 (by decide) (fun c1 => ?_) (fun c1 => ?_)
  · have h := ze_some c1 h
    refine z_iconst (pc := 21) (v := 5) dX12_firstBills_21 zci_5 ?_
    obtain ⟨rfl, rfl⟩ := zr_some h
    exact z_iret dX12_firstBills_22
  · have h := zt_some c1 h
    refine z_aload_n (pc := 11) (q := 0) dX12_firstBills_11 rfl rfl ?_
    refine z_getR (pc := 12) dX12_firstBills_12 zf_X12_76 gM_0_53 ?_
    refine z_bipush (pc := 15) (v := 96) dX12_firstBills_15 zcb_96 ?_
    refine z_iald (pc := 17) dX12_firstBills_17 aM_19 (by decide) ?_
    refine z_goto (pc := 18) (tgt := 22) dX12_firstBills_18 (by decide) ?_
    obtain ⟨rfl, rfl⟩ := zr_some h
    exact z_iret dX12_firstBills_22
def f_X12_isFirst (x1 : Int32) (S : zS) : Option (Int32 × zS) :=
  zb (f_X12_firstBills S) fun r3 T2 =>
  zb (f_X12_isIn x1 0 (r3 - 1) T2) fun r6 T5 =>
  if znb r6 then some (r6, T5) else none
set_option maxRecDepth 100000 in
theorem w_X12_isFirst (l : Launch) {x1 : Int32} {S : zS} {r : Int32} {S1 : zS} (h : f_X12_isFirst x1 S = some (r, S1)) : zMet zLM l yX12_isFirst cX12_isFirst 2 (some .boolean) 2 [.ref 0, .int x1] S (some (.int r)) S1 := by
  unfold f_X12_isFirst at h
  refine zMet.of (by decide +kernel) (Nat.le_of_ble_eq_true rfl) ?_
  show WA zLM l RX12 cX12_isFirst 2 (some .boolean) 2 (some (.int r)) S1 0 [(0, .ref 0), (1, .int x1)] [] S
  refine z_iload_n (pc := 0) (q := 1) dX12_isFirst_0 rfl rfl ?_
  refine z_iconst (pc := 1) (v := 0) dX12_isFirst_1 zci_0 ?_
  refine z_aload_n (pc := 2) (q := 0) dX12_isFirst_2 rfl rfl ?_
  obtain ⟨r3, T2, q1, h⟩ := zb_some h
  refine z_callVi (pc := 3) (st := [.int 0, .int x1]) [] dX12_isFirst_3 zm_X12_567 zM_X12_firstBills (by decide) oM_0 rfl (w_X12_firstBills l q1) rfl rfl (Nat.le_of_ble_eq_true rfl) ?_
  refine z_iconst (pc := 6) (v := 1) dX12_isFirst_6 zci_1 ?_
  refine z_isub (pc := 7) dX12_isFirst_7 ?_
  obtain ⟨r6, T5, q4, h⟩ := zb_some h
  refine z_callSi (pc := 8) (st := []) [.int x1, .int 0, .int (r3 - 1)] dX12_isFirst_8 zm_X12_422 zM_X12_isIn (by decide) (w_X12_isIn l q4) rfl rfl (Nat.le_of_ble_eq_true rfl) ?_
  obtain ⟨c7, h⟩ := zg_some h
  obtain ⟨rfl, rfl⟩ := zr_some h
  exact z_zret dX12_isFirst_11 (znb_n c7)
def f_X12_ring (x1 : Int32) (x2 : Int32) (x3 : Int32) (S : zS) : Option (Int32 × zS) :=
  zb (f_X12_isFirst x1 S) fun r3 T2 =>
  if r3 = 0 then
    some ((-1), T2)
  else
    zb (f_X12_isFirst x2 T2) fun r7 T6 =>
    if r7 = 0 then
      some ((-1), T6)
    else
      if x1 = x2 then
        some ((-1), T6)
      else
        if (T6.1 0 72) = 30 then
          some ((-1), T6)
        else
          if zin (T6.1 0 72) 30 then
          zlet (zput T6 28 (T6.1 0 72).toNatClampNeg x1) fun T12 =>
          if zin (T12.1 0 72) 30 then
          zlet (zput T12 29 (T12.1 0 72).toNatClampNeg x2) fun T14 =>
          if zin (T14.1 0 72) 30 then
          zlet (zput T14 32 (T14.1 0 72).toNatClampNeg (vp_nar .boolean x3)) fun T16 =>
          if zin (T16.1 0 72) 30 then
          zlet (zput T16 30 (T16.1 0 72).toNatClampNeg (T16.1 0 73)) fun T18 =>
          if zin (T18.1 0 72) 30 then
          zlet (zput T18 31 (T18.1 0 72).toNatClampNeg (-1)) fun T20 =>
          zlet (zput T20 0 72 ((T20.1 0 72) + 1)) fun T21 =>
          some ((T21.1 0 72) - 1, T21) else none else none else none else none else none
set_option maxRecDepth 100000 in
theorem w_X12_ring (l : Launch) {x1 : Int32} {x2 : Int32} {x3 : Int32} {S : zS} {r : Int32} {S1 : zS} (h : f_X12_ring x1 x2 x3 S = some (r, S1)) : zMet zLM l yX12_ring cX12_ring 4 (some .int) 3 [.ref 0, .int x1, .int x2, .int x3] S (some (.int r)) S1 := by
  unfold f_X12_ring at h
  refine zMet.of (by decide +kernel) (Nat.le_of_ble_eq_true rfl) ?_
  show WA zLM l RX12 cX12_ring 4 (some .int) 3 (some (.int r)) S1 0 [(0, .ref 0), (1, .int x1), (2, .int x2), (3, .int x3)] [] S
  refine z_aload_n (pc := 0) (q := 0) dX12_ring_0 rfl rfl ?_
  refine z_iload_n (pc := 1) (q := 1) dX12_ring_1 rfl rfl ?_
  obtain ⟨r3, T2, q1, h⟩ := zb_some h
  refine z_callVi (pc := 2) (st := []) [.int x1] dX12_ring_2 zm_X12_570 zM_X12_isFirst (by decide) oM_0 rfl (w_X12_isFirst l q1) rfl rfl (Nat.le_of_ble_eq_true rfl) ?_
  refine z_if_eq (pc := 5) (tgt := 30) dX12_ring_5 (by decide) (fun c4 => ?_) (fun c4 => ?_)
  · have h := zt_some c4 h
    refine z_iconst (pc := 30) (v := (-1)) dX12_ring_30 zci_m1 ?_
    obtain ⟨rfl, rfl⟩ := zr_some h
    exact z_iret dX12_ring_31
  · have h := ze_some c4 h
    refine z_aload_n (pc := 8) (q := 0) dX12_ring_8 rfl rfl ?_
    refine z_iload_n (pc := 9) (q := 2) dX12_ring_9 rfl rfl ?_
    obtain ⟨r7, T6, q5, h⟩ := zb_some h
    refine z_callVi (pc := 10) (st := []) [.int x2] dX12_ring_10 zm_X12_570 zM_X12_isFirst (by decide) oM_0 rfl (w_X12_isFirst l q5) rfl rfl (Nat.le_of_ble_eq_true rfl) ?_
    refine z_if_eq (pc := 13) (tgt := 30) dX12_ring_13 (by decide) (fun c8 => ?_) (fun c8 => ?_)
    · have h := zt_some c8 h
      refine z_iconst (pc := 30) (v := (-1)) dX12_ring_30 zci_m1 ?_
      obtain ⟨rfl, rfl⟩ := zr_some h
      exact z_iret dX12_ring_31
    · have h := ze_some c8 h
      refine z_iload_n (pc := 16) (q := 1) dX12_ring_16 rfl rfl ?_
      refine z_iload_n (pc := 17) (q := 2) dX12_ring_17 rfl rfl ?_
      refine z_icmp_eq (pc := 18) (tgt := 30) dX12_ring_18 (by decide) (fun c9 => ?_) (fun c9 => ?_)
      · have h := zt_some c9 h
        refine z_iconst (pc := 30) (v := (-1)) dX12_ring_30 zci_m1 ?_
        obtain ⟨rfl, rfl⟩ := zr_some h
        exact z_iret dX12_ring_31
      · have h := ze_some c9 h
        refine z_aload_n (pc := 21) (q := 0) dX12_ring_21 rfl rfl ?_
        refine z_getI (pc := 22) dX12_ring_22 zf_X12_416 gM_0_72 ?_
        refine z_bipush (pc := 25) (v := 30) dX12_ring_25 zcb_30 ?_
        refine z_icmp_ne (pc := 27) (tgt := 32) dX12_ring_27 (by decide) (fun c10 => ?_) (fun c10 => ?_)
        · have h := ze_some c10 h
          refine z_aload_n (pc := 32) (q := 0) dX12_ring_32 rfl rfl ?_
          refine z_getR (pc := 33) dX12_ring_33 zf_X12_103 gM_0_67 ?_
          refine z_aload_n (pc := 36) (q := 0) dX12_ring_36 rfl rfl ?_
          refine z_getI (pc := 37) dX12_ring_37 zf_X12_416 gM_0_72 ?_
          refine z_iload_n (pc := 40) (q := 1) dX12_ring_40 rfl rfl ?_
          obtain ⟨c11, h⟩ := zg_some h
          obtain ⟨T12, eT12, h⟩ := zl_some h
          refine z_iast (pc := 41) dX12_ring_41 aM_28 c11 eT12 ?_
          refine z_aload_n (pc := 42) (q := 0) dX12_ring_42 rfl rfl ?_
          refine z_getR (pc := 43) dX12_ring_43 zf_X12_106 gM_0_68 ?_
          refine z_aload_n (pc := 46) (q := 0) dX12_ring_46 rfl rfl ?_
          refine z_getI (pc := 47) dX12_ring_47 zf_X12_416 gM_0_72 ?_
          refine z_iload_n (pc := 50) (q := 2) dX12_ring_50 rfl rfl ?_
          obtain ⟨c13, h⟩ := zg_some h
          obtain ⟨T14, eT14, h⟩ := zl_some h
          refine z_iast (pc := 51) dX12_ring_51 aM_29 c13 eT14 ?_
          refine z_aload_n (pc := 52) (q := 0) dX12_ring_52 rfl rfl ?_
          refine z_getR (pc := 53) dX12_ring_53 zf_X12_115 gM_0_71 ?_
          refine z_aload_n (pc := 56) (q := 0) dX12_ring_56 rfl rfl ?_
          refine z_getI (pc := 57) dX12_ring_57 zf_X12_416 gM_0_72 ?_
          refine z_iload_n (pc := 60) (q := 3) dX12_ring_60 rfl rfl ?_
          obtain ⟨c15, h⟩ := zg_some h
          obtain ⟨T16, eT16, h⟩ := zl_some h
          refine z_zast (pc := 61) dX12_ring_61 aM_32 c15 eT16 ?_
          refine z_aload_n (pc := 62) (q := 0) dX12_ring_62 rfl rfl ?_
          refine z_getR (pc := 63) dX12_ring_63 zf_X12_109 gM_0_69 ?_
          refine z_aload_n (pc := 66) (q := 0) dX12_ring_66 rfl rfl ?_
          refine z_getI (pc := 67) dX12_ring_67 zf_X12_416 gM_0_72 ?_
          refine z_aload_n (pc := 70) (q := 0) dX12_ring_70 rfl rfl ?_
          refine z_getI (pc := 71) dX12_ring_71 zf_X12_573 gM_0_73 ?_
          obtain ⟨c17, h⟩ := zg_some h
          obtain ⟨T18, eT18, h⟩ := zl_some h
          refine z_iast (pc := 74) dX12_ring_74 aM_30 c17 eT18 ?_
          refine z_aload_n (pc := 75) (q := 0) dX12_ring_75 rfl rfl ?_
          refine z_getR (pc := 76) dX12_ring_76 zf_X12_112 gM_0_70 ?_
          refine z_aload_n (pc := 79) (q := 0) dX12_ring_79 rfl rfl ?_
          refine z_getI (pc := 80) dX12_ring_80 zf_X12_416 gM_0_72 ?_
          refine z_iconst (pc := 83) (v := (-1)) dX12_ring_83 zci_m1 ?_
          obtain ⟨c19, h⟩ := zg_some h
          obtain ⟨T20, eT20, h⟩ := zl_some h
          refine z_iast (pc := 84) dX12_ring_84 aM_31 c19 eT20 ?_
          refine z_aload_n (pc := 85) (q := 0) dX12_ring_85 rfl rfl ?_
          refine z_dup (pc := 86) dX12_ring_86 rfl ?_
          refine z_getI (pc := 87) dX12_ring_87 zf_X12_416 gM_0_72 ?_
          refine z_iconst (pc := 90) (v := 1) dX12_ring_90 zci_1 ?_
          refine z_iadd (pc := 91) dX12_ring_91 ?_
          obtain ⟨T21, eT21, h⟩ := zl_some h
          refine z_putI (pc := 92) dX12_ring_92 zp_X12_416 gM_0_72 rfl rfl eT21 ?_
          refine z_aload_n (pc := 95) (q := 0) dX12_ring_95 rfl rfl ?_
          refine z_getI (pc := 96) dX12_ring_96 zf_X12_416 gM_0_72 ?_
          refine z_iconst (pc := 99) (v := 1) dX12_ring_99 zci_1 ?_
          refine z_isub (pc := 100) dX12_ring_100 ?_
          obtain ⟨rfl, rfl⟩ := zr_some h
          exact z_iret dX12_ring_101
        · have h := zt_some c10 h
          refine z_iconst (pc := 30) (v := (-1)) dX12_ring_30 zci_m1 ?_
          obtain ⟨rfl, rfl⟩ := zr_some h
          exact z_iret dX12_ring_31
def f_X12_untell (x1 : Int32) (S : zS) : Option (Int32 × zS) :=
  zb (f_X12_isIn x1 0 ((S.1 0 72) - 1) S) fun r3 T2 =>
  if r3 = 0 then
    some (0, T2)
  else
    if zin x1 30 then
    if (T2.1 31 x1.toNatClampNeg) < 0 then
      if zin x1 30 then
      zlet (zput T2 31 x1.toNatClampNeg (T2.1 0 73)) fun T8 =>
      some (1, T8) else none
    else
      some (0, T2) else none
set_option maxRecDepth 100000 in
theorem w_X12_untell (l : Launch) {x1 : Int32} {S : zS} {r : Int32} {S1 : zS} (h : f_X12_untell x1 S = some (r, S1)) : zMet zLM l yX12_untell cX12_untell 2 (some .boolean) 2 [.ref 0, .int x1] S (some (.int r)) S1 := by
  unfold f_X12_untell at h
  refine zMet.of (by decide +kernel) (Nat.le_of_ble_eq_true rfl) ?_
  show WA zLM l RX12 cX12_untell 2 (some .boolean) 2 (some (.int r)) S1 0 [(0, .ref 0), (1, .int x1)] [] S
  refine z_iload_n (pc := 0) (q := 1) dX12_untell_0 rfl rfl ?_
  refine z_iconst (pc := 1) (v := 0) dX12_untell_1 zci_0 ?_
  refine z_aload_n (pc := 2) (q := 0) dX12_untell_2 rfl rfl ?_
  refine z_getI (pc := 3) dX12_untell_3 zf_X12_416 gM_0_72 ?_
  refine z_iconst (pc := 6) (v := 1) dX12_untell_6 zci_1 ?_
  refine z_isub (pc := 7) dX12_untell_7 ?_
  obtain ⟨r3, T2, q1, h⟩ := zb_some h
  refine z_callSi (pc := 8) (st := []) [.int x1, .int 0, .int ((S.1 0 72) - 1)] dX12_untell_8 zm_X12_422 zM_X12_isIn (by decide) (w_X12_isIn l q1) rfl rfl (Nat.le_of_ble_eq_true rfl) ?_
  refine z_if_eq (pc := 11) (tgt := 23) dX12_untell_11 (by decide) (fun c4 => ?_) (fun c4 => ?_)
  · have h := zt_some c4 h
    refine z_iconst (pc := 23) (v := 0) dX12_untell_23 zci_0 ?_
    obtain ⟨rfl, rfl⟩ := zr_some h
    exact z_zret dX12_untell_24 rfl
  · have h := ze_some c4 h
    refine z_aload_n (pc := 14) (q := 0) dX12_untell_14 rfl rfl ?_
    refine z_getR (pc := 15) dX12_untell_15 zf_X12_112 gM_0_70 ?_
    refine z_iload_n (pc := 18) (q := 1) dX12_untell_18 rfl rfl ?_
    obtain ⟨c5, h⟩ := zg_some h
    refine z_iald (pc := 19) dX12_untell_19 aM_31 c5 ?_
    refine z_if_lt (pc := 20) (tgt := 25) dX12_untell_20 (by decide) (fun c6 => ?_) (fun c6 => ?_)
    · have h := zt_some c6 h
      refine z_aload_n (pc := 25) (q := 0) dX12_untell_25 rfl rfl ?_
      refine z_getR (pc := 26) dX12_untell_26 zf_X12_112 gM_0_70 ?_
      refine z_iload_n (pc := 29) (q := 1) dX12_untell_29 rfl rfl ?_
      refine z_aload_n (pc := 30) (q := 0) dX12_untell_30 rfl rfl ?_
      refine z_getI (pc := 31) dX12_untell_31 zf_X12_573 gM_0_73 ?_
      obtain ⟨c7, h⟩ := zg_some h
      obtain ⟨T8, eT8, h⟩ := zl_some h
      refine z_iast (pc := 34) dX12_untell_34 aM_31 c7 eT8 ?_
      refine z_iconst (pc := 35) (v := 1) dX12_untell_35 zci_1 ?_
      obtain ⟨rfl, rfl⟩ := zr_some h
      exact z_zret dX12_untell_36 rfl
    · have h := ze_some c6 h
      refine z_iconst (pc := 23) (v := 0) dX12_untell_23 zci_0 ?_
      obtain ⟨rfl, rfl⟩ := zr_some h
      exact z_zret dX12_untell_24 rfl
def f_X12_later (x1 : Int32) (S : zS) : Option (Int32 × zS) :=
  if x1 < 0 then
    some ((-1), S)
  else
    if (1000 : Int32) < x1 then
      some ((-1), S)
    else
      if (100000 : Int32) < ((S.1 0 73) + x1) then
        some ((-1), S)
      else
        zlet (zput S 0 73 ((S.1 0 73) + x1)) fun T4 =>
        some (T4.1 0 73, T4)
set_option maxRecDepth 100000 in
theorem w_X12_later (l : Launch) {x1 : Int32} {S : zS} {r : Int32} {S1 : zS} (h : f_X12_later x1 S = some (r, S1)) : zMet zLM l yX12_later cX12_later 2 (some .int) 1 [.ref 0, .int x1] S (some (.int r)) S1 := by
  unfold f_X12_later at h
  refine zMet.of (by decide +kernel) (Nat.le_of_ble_eq_true rfl) ?_
  show WA zLM l RX12 cX12_later 2 (some .int) 1 (some (.int r)) S1 0 [(0, .ref 0), (1, .int x1)] [] S
  refine z_iload_n (pc := 0) (q := 1) dX12_later_0 rfl rfl ?_
  refine z_if_lt (pc := 1) (tgt := 23) dX12_later_1 (by decide) (fun c1 => ?_) (fun c1 => ?_)
  · have h := zt_some c1 h
    refine z_iconst (pc := 23) (v := (-1)) dX12_later_23 zci_m1 ?_
    obtain ⟨rfl, rfl⟩ := zr_some h
    exact z_iret dX12_later_24
  · have h := ze_some c1 h
    refine z_iload_n (pc := 4) (q := 1) dX12_later_4 rfl rfl ?_
    refine z_sipush (pc := 5) (v := 1000) dX12_later_5 zcs_1000 ?_
    refine z_icmp_gt (pc := 8) (tgt := 23) dX12_later_8 (by decide) (fun c2 => ?_) (fun c2 => ?_)
    · have h := zt_some c2 h
      refine z_iconst (pc := 23) (v := (-1)) dX12_later_23 zci_m1 ?_
      obtain ⟨rfl, rfl⟩ := zr_some h
      exact z_iret dX12_later_24
    · have h := ze_some c2 h
      refine z_aload_n (pc := 11) (q := 0) dX12_later_11 rfl rfl ?_
      refine z_getI (pc := 12) dX12_later_12 zf_X12_573 gM_0_73 ?_
      refine z_iload_n (pc := 15) (q := 1) dX12_later_15 rfl rfl ?_
      refine z_iadd (pc := 16) dX12_later_16 ?_
      refine z_ldcw (pc := 17) dX12_later_17 zk_X12_576 ?_
      refine z_icmp_le (pc := 20) (tgt := 25) dX12_later_20 (by decide) (fun c3 => ?_) (fun c3 => ?_)
      · have h := ze_some c3 h
        refine z_aload_n (pc := 25) (q := 0) dX12_later_25 rfl rfl ?_
        refine z_dup (pc := 26) dX12_later_26 rfl ?_
        refine z_getI (pc := 27) dX12_later_27 zf_X12_573 gM_0_73 ?_
        refine z_iload_n (pc := 30) (q := 1) dX12_later_30 rfl rfl ?_
        refine z_iadd (pc := 31) dX12_later_31 ?_
        obtain ⟨T4, eT4, h⟩ := zl_some h
        refine z_putI (pc := 32) dX12_later_32 zp_X12_573 gM_0_73 rfl rfl eT4 ?_
        refine z_aload_n (pc := 35) (q := 0) dX12_later_35 rfl rfl ?_
        refine z_getI (pc := 36) dX12_later_36 zf_X12_573 gM_0_73 ?_
        obtain ⟨rfl, rfl⟩ := zr_some h
        exact z_iret dX12_later_39
      · have h := zt_some c3 h
        refine z_iconst (pc := 23) (v := (-1)) dX12_later_23 zci_m1 ?_
        obtain ⟨rfl, rfl⟩ := zr_some h
        exact z_iret dX12_later_24
def f_X12_exchangeOrder (x1 : Int32) (x2 : Int32) (S : zS) : Option zS :=
  if zin x1 5 then
  zlet (S.1 33 x1.toNatClampNeg) fun v2 =>
  if zin x2 5 then
  if zin x1 5 then
  zlet (zput S 33 x1.toNatClampNeg (S.1 33 x2.toNatClampNeg)) fun T5 =>
  if zin x2 5 then
  zlet (zput T5 33 x2.toNatClampNeg v2) fun T7 =>
  some T7 else none else none else none else none
set_option maxRecDepth 100000 in
theorem w_X12_exchangeOrder (l : Launch) {x1 : Int32} {x2 : Int32} {S : zS} {S1 : zS} (h : f_X12_exchangeOrder x1 x2 S = some S1) : zMet zLM l yX12_exchangeOrder cX12_exchangeOrder 4 none 1 [.ref 0, .int x1, .int x2] S none S1 := by
  unfold f_X12_exchangeOrder at h
  refine zMet.of (by decide +kernel) (Nat.le_of_ble_eq_true rfl) ?_
  show WA zLM l RX12 cX12_exchangeOrder 4 none 1 none S1 0 [(0, .ref 0), (1, .int x1), (2, .int x2)] [] S
  refine z_aload_n (pc := 0) (q := 0) dX12_exchangeOrder_0 rfl rfl ?_
  refine z_getR (pc := 1) dX12_exchangeOrder_1 zf_X12_118 gM_0_74 ?_
  refine z_iload_n (pc := 4) (q := 1) dX12_exchangeOrder_4 rfl rfl ?_
  obtain ⟨c1, h⟩ := zg_some h
  refine z_iald (pc := 5) dX12_exchangeOrder_5 aM_33 c1 ?_
  obtain ⟨v2, ev2, h⟩ := zl_some h
  refine z_top ev2 ?_
  refine z_istore_n (pc := 6) (lo' := [(3, .int v2), (0, .ref 0), (1, .int x1), (2, .int x2)]) dX12_exchangeOrder_6 rfl (by decide) rfl ?_
  refine z_aload_n (pc := 7) (q := 1) dX12_exchangeOrder_7 rfl rfl ?_
  refine z_getR (pc := 8) dX12_exchangeOrder_8 zf_X12_118 gM_0_74 ?_
  refine z_iload_n (pc := 11) (q := 2) dX12_exchangeOrder_11 rfl rfl ?_
  refine z_aload_n (pc := 12) (q := 1) dX12_exchangeOrder_12 rfl rfl ?_
  refine z_getR (pc := 13) dX12_exchangeOrder_13 zf_X12_118 gM_0_74 ?_
  refine z_iload_n (pc := 16) (q := 3) dX12_exchangeOrder_16 rfl rfl ?_
  obtain ⟨c3, h⟩ := zg_some h
  refine z_iald (pc := 17) dX12_exchangeOrder_17 aM_33 c3 ?_
  obtain ⟨c4, h⟩ := zg_some h
  obtain ⟨T5, eT5, h⟩ := zl_some h
  refine z_iast (pc := 18) dX12_exchangeOrder_18 aM_33 c4 eT5 ?_
  refine z_aload_n (pc := 19) (q := 1) dX12_exchangeOrder_19 rfl rfl ?_
  refine z_getR (pc := 20) dX12_exchangeOrder_20 zf_X12_118 gM_0_74 ?_
  refine z_iload_n (pc := 23) (q := 3) dX12_exchangeOrder_23 rfl rfl ?_
  refine z_iload_n (pc := 24) (q := 0) dX12_exchangeOrder_24 rfl rfl ?_
  obtain ⟨c6, h⟩ := zg_some h
  obtain ⟨T7, eT7, h⟩ := zl_some h
  refine z_iast (pc := 25) dX12_exchangeOrder_25 aM_33 c6 eT7 ?_
  cases h
  exact z_vret dX12_exchangeOrder_26
def f_X12_nextOrder_L78 : Nat → Int32 → Int32 → zS → Option (Int32 × zS)
  | 0, _, _, _ => none
  | n + 1, x4, x5, S =>
    if x4 < x5 then
      zu (f_X12_exchangeOrder x4 x5 S) fun T3 =>
      zlet (x4 + 1) fun v4 =>
      zlet (x5 + (-1)) fun v5 =>
      (f_X12_nextOrder_L78 n) v4 v5 T3
    else
      some (1, S)
def f_X12_nextOrder_L41 : Nat → Int32 → Int32 → Int32 → zS → Option (Int32 × zS)
  | 0, _, _, _, _ => none
  | n + 1, x1, x2, x3, S =>
    if zin x3 5 then
    if zin x2 5 then
    if (S.1 33 x3.toNatClampNeg) < (S.1 33 x2.toNatClampNeg) then
      zlet (x3 + (-1)) fun v4 =>
      (f_X12_nextOrder_L41 n) x1 x2 v4 S
    else
      zu (f_X12_exchangeOrder x2 x3 S) fun T5 =>
      zlet (x2 + 1) fun v6 =>
      zlet (x1 - 1) fun v7 =>
      f_X12_nextOrder_L78 zN v6 v7 T5 else none else none
def f_X12_nextOrder_B31 (x1 : Int32) (x2 : Int32) (S : zS) : Option (Int32 × zS) :=
  if x2 < 0 then
    some (0, S)
  else
    zlet (x1 - 1) fun v2 =>
    f_X12_nextOrder_L41 zN x1 x2 v2 S
def f_X12_nextOrder_L4 : Nat → Int32 → Int32 → zS → Option (Int32 × zS)
  | 0, _, _, _ => none
  | n + 1, x1, x2, S =>
    if x2 < 0 then
      f_X12_nextOrder_B31 x1 x2 S
    else
      if zin x2 5 then
      if zin (x2 + 1) 5 then
      if (S.1 33 (x2 + 1).toNatClampNeg) < (S.1 33 x2.toNatClampNeg) then
        zlet (x2 + (-1)) fun v5 =>
        (f_X12_nextOrder_L4 n) x1 v5 S
      else
        f_X12_nextOrder_B31 x1 x2 S else none else none
def f_X12_nextOrder (x1 : Int32) (S : zS) : Option (Int32 × zS) :=
  zlet (x1 - 2) fun v1 =>
  f_X12_nextOrder_L4 zN x1 v1 S
set_option maxRecDepth 100000 in
theorem w_X12_nextOrder_L78 (l : Launch) {r : Int32} {S1 : zS} : ∀ (n : Nat) (x4 : Int32) (x5 : Int32) (S : zS), f_X12_nextOrder_L78 n x4 x5 S = some (r, S1) → WA zLM l RX12 cX12_nextOrder 6 (some .boolean) 2 (some (.int r)) S1 78 [(0, .ref 0), (4, .int x4), (5, .int x5)] [] S := by
  intro n
  induction n with
  | zero =>
    intro x4 x5 S h
    exact nomatch h
  | succ n ih =>
    intro x4 x5 S h
    rw [f_X12_nextOrder_L78] at h
    refine z_iload (pc := 78) (q := 1) dX12_nextOrder_78 rfl ?_
    refine z_iload (pc := 80) (q := 2) dX12_nextOrder_80 rfl ?_
    refine z_icmp_ge (pc := 82) (tgt := 102) dX12_nextOrder_82 (by decide) (fun c1 => ?_) (fun c1 => ?_)
    · have h := ze_some c1 h
      refine z_iconst (pc := 102) (v := 1) dX12_nextOrder_102 zci_1 ?_
      obtain ⟨rfl, rfl⟩ := zr_some h
      exact z_zret dX12_nextOrder_103 rfl
    · have h := zt_some c1 h
      refine z_aload_n (pc := 85) (q := 0) dX12_nextOrder_85 rfl rfl ?_
      refine z_iload (pc := 86) (q := 1) dX12_nextOrder_86 rfl ?_
      refine z_iload (pc := 88) (q := 2) dX12_nextOrder_88 rfl ?_
      obtain ⟨T3, q2, h⟩ := zu_some h
      refine z_callVv (pc := 90) (st := []) [.int x4, .int x5] dX12_nextOrder_90 zm_X12_577 zM_X12_exchangeOrder (by decide) oM_0 rfl (w_X12_exchangeOrder l q2) rfl rfl (Nat.le_of_ble_eq_true rfl) ?_
      obtain ⟨v4, ev4, h⟩ := zl_some h
      refine z_iinc (pc := 93) (q := 1) (v := v4) (lo' := [(4, .int v4), (0, .ref 0), (5, .int x5)]) dX12_nextOrder_93 rfl (by rw [ev4, zci_1]) (by decide) rfl ?_
      obtain ⟨v5, ev5, h⟩ := zl_some h
      refine z_iinc (pc := 96) (q := 2) (v := v5) (lo' := [(5, .int v5), (4, .int v4), (0, .ref 0)]) dX12_nextOrder_96 rfl (by rw [ev5, zci_m1]) (by decide) rfl ?_
      refine z_goto (pc := 99) (tgt := 78) dX12_nextOrder_99 (by decide) ?_
      exact z_sub [2, 1, 0] rfl (ih v4 v5 T3 h)
set_option maxRecDepth 100000 in
theorem w_X12_nextOrder_L41 (l : Launch) {r : Int32} {S1 : zS} : ∀ (n : Nat) (x1 : Int32) (x2 : Int32) (x3 : Int32) (S : zS), f_X12_nextOrder_L41 n x1 x2 x3 S = some (r, S1) → WA zLM l RX12 cX12_nextOrder 6 (some .boolean) 2 (some (.int r)) S1 41 [(0, .ref 0), (1, .int x1), (2, .int x2), (3, .int x3)] [] S := by
  intro n
  induction n with
  | zero =>
    intro x1 x2 x3 S h
    exact nomatch h
  | succ n ih =>
    intro x1 x2 x3 S h
    rw [f_X12_nextOrder_L41] at h
    refine z_aload_n (pc := 41) (q := 0) dX12_nextOrder_41 rfl rfl ?_
    refine z_getR (pc := 42) dX12_nextOrder_42 zf_X12_118 gM_0_74 ?_
    refine z_iload_n (pc := 45) (q := 3) dX12_nextOrder_45 rfl rfl ?_
    obtain ⟨c1, h⟩ := zg_some h
    refine z_iald (pc := 46) dX12_nextOrder_46 aM_33 c1 ?_
    refine z_aload_n (pc := 47) (q := 0) dX12_nextOrder_47 rfl rfl ?_
    refine z_getR (pc := 48) dX12_nextOrder_48 zf_X12_118 gM_0_74 ?_
    refine z_iload_n (pc := 51) (q := 2) dX12_nextOrder_51 rfl rfl ?_
    obtain ⟨c2, h⟩ := zg_some h
    refine z_iald (pc := 52) dX12_nextOrder_52 aM_33 c2 ?_
    refine z_icmp_ge (pc := 53) (tgt := 62) dX12_nextOrder_53 (by decide) (fun c3 => ?_) (fun c3 => ?_)
    · have h := ze_some c3 h
      refine z_aload_n (pc := 62) (q := 0) dX12_nextOrder_62 rfl rfl ?_
      refine z_iload_n (pc := 63) (q := 2) dX12_nextOrder_63 rfl rfl ?_
      refine z_iload_n (pc := 64) (q := 3) dX12_nextOrder_64 rfl rfl ?_
      obtain ⟨T5, q4, h⟩ := zu_some h
      refine z_callVv (pc := 65) (st := []) [.int x2, .int x3] dX12_nextOrder_65 zm_X12_577 zM_X12_exchangeOrder (by decide) oM_0 rfl (w_X12_exchangeOrder l q4) rfl rfl (Nat.le_of_ble_eq_true rfl) ?_
      refine z_iload_n (pc := 68) (q := 2) dX12_nextOrder_68 rfl rfl ?_
      refine z_iconst (pc := 69) (v := 1) dX12_nextOrder_69 zci_1 ?_
      refine z_iadd (pc := 70) dX12_nextOrder_70 ?_
      obtain ⟨v6, ev6, h⟩ := zl_some h
      refine z_top ev6 ?_
      refine z_istore (pc := 71) (lo' := [(4, .int v6), (0, .ref 0), (1, .int x1), (2, .int x2), (3, .int x3)]) dX12_nextOrder_71 (by decide) rfl ?_
      refine z_iload_n (pc := 73) (q := 2) dX12_nextOrder_73 rfl rfl ?_
      refine z_iconst (pc := 74) (v := 1) dX12_nextOrder_74 zci_1 ?_
      refine z_isub (pc := 75) dX12_nextOrder_75 ?_
      obtain ⟨v7, ev7, h⟩ := zl_some h
      refine z_top ev7 ?_
      refine z_istore (pc := 76) (lo' := [(5, .int v7), (4, .int v6), (0, .ref 0), (1, .int x1), (2, .int x2), (3, .int x3)]) dX12_nextOrder_76 (by decide) rfl ?_
      exact z_sub [2, 1, 0] rfl (w_X12_nextOrder_L78 l zN v6 v7 T5 h)
    · have h := zt_some c3 h
      obtain ⟨v4, ev4, h⟩ := zl_some h
      refine z_iinc (pc := 56) (q := 3) (v := v4) (lo' := [(3, .int v4), (0, .ref 0), (1, .int x1), (2, .int x2)]) dX12_nextOrder_56 rfl (by rw [ev4, zci_m1]) (by decide) rfl ?_
      refine z_goto (pc := 59) (tgt := 41) dX12_nextOrder_59 (by decide) ?_
      exact z_sub [1, 2, 3, 0] rfl (ih x1 x2 v4 S h)
set_option maxRecDepth 100000 in
theorem w_X12_nextOrder_B31 (l : Launch) {r : Int32} {S1 : zS} (x1 : Int32) (x2 : Int32) (S : zS) (h : f_X12_nextOrder_B31 x1 x2 S = some (r, S1)) : WA zLM l RX12 cX12_nextOrder 6 (some .boolean) 2 (some (.int r)) S1 31 [(0, .ref 0), (1, .int x1), (2, .int x2)] [] S := by
  unfold f_X12_nextOrder_B31 at h
  refine z_iload_n (pc := 31) (q := 2) dX12_nextOrder_31 rfl rfl ?_
  refine z_if_ge (pc := 32) (tgt := 37) dX12_nextOrder_32 (by decide) (fun c1 => ?_) (fun c1 => ?_)
  · have h := ze_some c1 h
    refine z_iload_n (pc := 37) (q := 1) dX12_nextOrder_37 rfl rfl ?_
    refine z_iconst (pc := 38) (v := 1) dX12_nextOrder_38 zci_1 ?_
    refine z_isub (pc := 39) dX12_nextOrder_39 ?_
    obtain ⟨v2, ev2, h⟩ := zl_some h
    refine z_top ev2 ?_
    refine z_istore_n (pc := 40) (lo' := [(3, .int v2), (0, .ref 0), (1, .int x1), (2, .int x2)]) dX12_nextOrder_40 rfl (by decide) rfl ?_
    exact z_sub [1, 2, 3, 0] rfl (w_X12_nextOrder_L41 l zN x1 x2 v2 S h)
  · have h := zt_some c1 h
    refine z_iconst (pc := 35) (v := 0) dX12_nextOrder_35 zci_0 ?_
    obtain ⟨rfl, rfl⟩ := zr_some h
    exact z_zret dX12_nextOrder_36 rfl
set_option maxRecDepth 100000 in
theorem w_X12_nextOrder_L4 (l : Launch) {r : Int32} {S1 : zS} : ∀ (n : Nat) (x1 : Int32) (x2 : Int32) (S : zS), f_X12_nextOrder_L4 n x1 x2 S = some (r, S1) → WA zLM l RX12 cX12_nextOrder 6 (some .boolean) 2 (some (.int r)) S1 4 [(0, .ref 0), (1, .int x1), (2, .int x2)] [] S := by
  intro n
  induction n with
  | zero =>
    intro x1 x2 S h
    exact nomatch h
  | succ n ih =>
    intro x1 x2 S h
    rw [f_X12_nextOrder_L4] at h
    refine z_iload_n (pc := 4) (q := 2) dX12_nextOrder_4 rfl rfl ?_
    refine z_if_lt (pc := 5) (tgt := 31) dX12_nextOrder_5 (by decide) (fun c1 => ?_) (fun c1 => ?_)
    · have h := zt_some c1 h
      exact w_X12_nextOrder_B31 l x1 x2 S h
    · have h := ze_some c1 h
      refine z_aload_n (pc := 8) (q := 0) dX12_nextOrder_8 rfl rfl ?_
      refine z_getR (pc := 9) dX12_nextOrder_9 zf_X12_118 gM_0_74 ?_
      refine z_iload_n (pc := 12) (q := 2) dX12_nextOrder_12 rfl rfl ?_
      obtain ⟨c2, h⟩ := zg_some h
      refine z_iald (pc := 13) dX12_nextOrder_13 aM_33 c2 ?_
      refine z_aload_n (pc := 14) (q := 0) dX12_nextOrder_14 rfl rfl ?_
      refine z_getR (pc := 15) dX12_nextOrder_15 zf_X12_118 gM_0_74 ?_
      refine z_iload_n (pc := 18) (q := 2) dX12_nextOrder_18 rfl rfl ?_
      refine z_iconst (pc := 19) (v := 1) dX12_nextOrder_19 zci_1 ?_
      refine z_iadd (pc := 20) dX12_nextOrder_20 ?_
      obtain ⟨c3, h⟩ := zg_some h
      refine z_iald (pc := 21) dX12_nextOrder_21 aM_33 c3 ?_
      refine z_icmp_le (pc := 22) (tgt := 31) dX12_nextOrder_22 (by decide) (fun c4 => ?_) (fun c4 => ?_)
      · have h := ze_some c4 h
        exact w_X12_nextOrder_B31 l x1 x2 S h
      · have h := zt_some c4 h
        obtain ⟨v5, ev5, h⟩ := zl_some h
        refine z_iinc (pc := 25) (q := 2) (v := v5) (lo' := [(2, .int v5), (0, .ref 0), (1, .int x1)]) dX12_nextOrder_25 rfl (by rw [ev5, zci_m1]) (by decide) rfl ?_
        refine z_goto (pc := 28) (tgt := 4) dX12_nextOrder_28 (by decide) ?_
        exact z_sub [1, 2, 0] rfl (ih x1 v5 S h)
set_option maxRecDepth 100000 in
theorem w_X12_nextOrder (l : Launch) {x1 : Int32} {S : zS} {r : Int32} {S1 : zS} (h : f_X12_nextOrder x1 S = some (r, S1)) : zMet zLM l yX12_nextOrder cX12_nextOrder 6 (some .boolean) 2 [.ref 0, .int x1] S (some (.int r)) S1 := by
  unfold f_X12_nextOrder at h
  refine zMet.of (by decide +kernel) (Nat.le_of_ble_eq_true rfl) ?_
  show WA zLM l RX12 cX12_nextOrder 6 (some .boolean) 2 (some (.int r)) S1 0 [(0, .ref 0), (1, .int x1)] [] S
  refine z_iload_n (pc := 0) (q := 1) dX12_nextOrder_0 rfl rfl ?_
  refine z_iconst (pc := 1) (v := 2) dX12_nextOrder_1 zci_2 ?_
  refine z_isub (pc := 2) dX12_nextOrder_2 ?_
  obtain ⟨v1, ev1, h⟩ := zl_some h
  refine z_top ev1 ?_
  refine z_istore_n (pc := 3) (lo' := [(2, .int v1), (0, .ref 0), (1, .int x1)]) dX12_nextOrder_3 rfl (by decide) rfl ?_
  exact z_sub [1, 2, 0] rfl (w_X12_nextOrder_L4 l zN x1 v1 S h)
def f_X12_isBehind (x1 : Int32) (x2 : Int32) (S : zS) : Option (Int32 × zS) :=
  if zin ((8 * x1) + x2) 99 then
  zlet (S.1 19 ((8 * x1) + x2).toNatClampNeg) fun v2 =>
  if v2 < 0 then
    some (1, S)
  else
    if zin x1 5 then
    if zin v2 5 then
    if (S.1 34 v2.toNatClampNeg) < (S.1 34 x1.toNatClampNeg) then
      some (1, S)
    else
      some (0, S) else none else none else none
set_option maxRecDepth 100000 in
theorem w_X12_isBehind (l : Launch) {x1 : Int32} {x2 : Int32} {S : zS} {r : Int32} {S1 : zS} (h : f_X12_isBehind x1 x2 S = some (r, S1)) : zMet zLM l yX12_isBehind cX12_isBehind 4 (some .boolean) 1 [.ref 0, .int x1, .int x2] S (some (.int r)) S1 := by
  unfold f_X12_isBehind at h
  refine zMet.of (by decide +kernel) (Nat.le_of_ble_eq_true rfl) ?_
  show WA zLM l RX12 cX12_isBehind 4 (some .boolean) 1 (some (.int r)) S1 0 [(0, .ref 0), (1, .int x1), (2, .int x2)] [] S
  refine z_aload_n (pc := 0) (q := 0) dX12_isBehind_0 rfl rfl ?_
  refine z_getR (pc := 1) dX12_isBehind_1 zf_X12_76 gM_0_53 ?_
  refine z_bipush (pc := 4) (v := 8) dX12_isBehind_4 zcb_8 ?_
  refine z_iload_n (pc := 6) (q := 1) dX12_isBehind_6 rfl rfl ?_
  refine z_imul (pc := 7) dX12_isBehind_7 ?_
  refine z_iload_n (pc := 8) (q := 2) dX12_isBehind_8 rfl rfl ?_
  refine z_iadd (pc := 9) dX12_isBehind_9 ?_
  obtain ⟨c1, h⟩ := zg_some h
  refine z_iald (pc := 10) dX12_isBehind_10 aM_19 c1 ?_
  obtain ⟨v2, ev2, h⟩ := zl_some h
  refine z_top ev2 ?_
  refine z_istore_n (pc := 11) (lo' := [(3, .int v2), (0, .ref 0), (1, .int x1), (2, .int x2)]) dX12_isBehind_11 rfl (by decide) rfl ?_
  refine z_iload_n (pc := 12) (q := 0) dX12_isBehind_12 rfl rfl ?_
  refine z_if_lt (pc := 13) (tgt := 31) dX12_isBehind_13 (by decide) (fun c3 => ?_) (fun c3 => ?_)
  · have h := zt_some c3 h
    refine z_iconst (pc := 31) (v := 1) dX12_isBehind_31 zci_1 ?_
    refine z_goto (pc := 32) (tgt := 36) dX12_isBehind_32 (by decide) ?_
    obtain ⟨rfl, rfl⟩ := zr_some h
    exact z_zret dX12_isBehind_36 rfl
  · have h := ze_some c3 h
    refine z_aload_n (pc := 16) (q := 1) dX12_isBehind_16 rfl rfl ?_
    refine z_getR (pc := 17) dX12_isBehind_17 zf_X12_121 gM_0_75 ?_
    refine z_iload_n (pc := 20) (q := 2) dX12_isBehind_20 rfl rfl ?_
    obtain ⟨c4, h⟩ := zg_some h
    refine z_iald (pc := 21) dX12_isBehind_21 aM_34 c4 ?_
    refine z_aload_n (pc := 22) (q := 1) dX12_isBehind_22 rfl rfl ?_
    refine z_getR (pc := 23) dX12_isBehind_23 zf_X12_121 gM_0_75 ?_
    refine z_iload_n (pc := 26) (q := 0) dX12_isBehind_26 rfl rfl ?_
    obtain ⟨c5, h⟩ := zg_some h
    refine z_iald (pc := 27) dX12_isBehind_27 aM_34 c5 ?_
    refine z_icmp_le (pc := 28) (tgt := 35) dX12_isBehind_28 (by decide) (fun c6 => ?_) (fun c6 => ?_)
    · have h := ze_some c6 h
      refine z_iconst (pc := 35) (v := 0) dX12_isBehind_35 zci_0 ?_
      obtain ⟨rfl, rfl⟩ := zr_some h
      exact z_zret dX12_isBehind_36 rfl
    · have h := zt_some c6 h
      refine z_iconst (pc := 31) (v := 1) dX12_isBehind_31 zci_1 ?_
      refine z_goto (pc := 32) (tgt := 36) dX12_isBehind_32 (by decide) ?_
      obtain ⟨rfl, rfl⟩ := zr_some h
      exact z_zret dX12_isBehind_36 rfl
def f_X12_isOrder_B179 (K77 : Int32 → Int32 → Int32 → Int32 → zS → Option (Int32 × zS)) (x1 : Int32) (x2 : Int32) (x4 : Int32) (s0 : Int32) (S : zS) : Option (Int32 × zS) :=
  if zin x4 30 then
  if s0 = (S.1 32 x4.toNatClampNeg) then
    zlet (x4 + 1) fun v3 =>
    K77 x1 x2 1 v3 S
  else
    zlet (x4 + 1) fun v3 =>
    K77 x1 x2 0 v3 S else none
def f_X12_isOrder_B122 (K77 : Int32 → Int32 → Int32 → Int32 → zS → Option (Int32 × zS)) (x1 : Int32) (x2 : Int32) (x3 : Int32) (x4 : Int32) (S : zS) : Option (Int32 × zS) :=
  if zin x4 30 then
  if (S.1 28 x4.toNatClampNeg) < x1 then
    if zin x4 30 then
    if (S.1 29 x4.toNatClampNeg) < x1 then
      if zin x4 30 then
      if zin (S.1 28 x4.toNatClampNeg) 5 then
      if zin x4 30 then
      if zin (S.1 29 x4.toNatClampNeg) 5 then
      if (S.1 34 (S.1 28 x4.toNatClampNeg).toNatClampNeg) < (S.1 34 (S.1 29 x4.toNatClampNeg).toNatClampNeg) then
        f_X12_isOrder_B179 K77 x1 x2 x4 1 S
      else
        f_X12_isOrder_B179 K77 x1 x2 x4 0 S else none else none else none else none
    else
      zlet (x4 + 1) fun v5 =>
      K77 x1 x2 x3 v5 S else none
  else
    zlet (x4 + 1) fun v3 =>
    K77 x1 x2 x3 v3 S else none
def f_X12_isOrder_L77 : Nat → Int32 → Int32 → Int32 → Int32 → zS → Option (Int32 × zS)
  | 0, _, _, _, _, _ => none
  | n + 1, x1, x2, x3, x4, S =>
    if x4 < (S.1 0 72) then
      if x3 = 0 then
        if znb x3 then some (x3, S) else none
      else
        if zin x4 30 then
        if x2 < (S.1 30 x4.toNatClampNeg) then
          zlet (x4 + 1) fun v5 =>
          (f_X12_isOrder_L77 n) x1 x2 x3 v5 S
        else
          if zin x4 30 then
          if (S.1 31 x4.toNatClampNeg) < 0 then
            f_X12_isOrder_B122 (f_X12_isOrder_L77 n) x1 x2 x3 x4 S
          else
            if zin x4 30 then
            if x2 < (S.1 31 x4.toNatClampNeg) then
              f_X12_isOrder_B122 (f_X12_isOrder_L77 n) x1 x2 x3 x4 S
            else
              zlet (x4 + 1) fun v9 =>
              (f_X12_isOrder_L77 n) x1 x2 x3 v9 S else none else none else none
    else
      if znb x3 then some (x3, S) else none
def f_X12_isOrder_L30 : Nat → Int32 → Int32 → Int32 → Int32 → zS → Option (Int32 × zS)
  | 0, _, _, _, _, _ => none
  | n + 1, x1, x2, x3, x4, S =>
    if x4 < x1 then
      if x3 = 0 then
        zlet (x4 + 1) fun v3 =>
        (f_X12_isOrder_L30 n) x1 x2 0 v3 S
      else
        zb (f_X12_isBehind x4 6 S) fun r5 T4 =>
        if r5 = 0 then
          zlet (x4 + 1) fun v7 =>
          (f_X12_isOrder_L30 n) x1 x2 0 v7 T4
        else
          zb (f_X12_isBehind x4 7 T4) fun r9 T8 =>
          if r9 = 0 then
            zlet (x4 + 1) fun v11 =>
            (f_X12_isOrder_L30 n) x1 x2 0 v11 T8
          else
            zlet (x4 + 1) fun v11 =>
            (f_X12_isOrder_L30 n) x1 x2 1 v11 T8
    else
      f_X12_isOrder_L77 zN x1 x2 x3 0 S
def f_X12_isOrder_L2 : Nat → Int32 → Int32 → Int32 → zS → Option (Int32 × zS)
  | 0, _, _, _, _ => none
  | n + 1, x1, x2, x3, S =>
    if x3 < x1 then
      if zin x3 5 then
      if zin (S.1 33 x3.toNatClampNeg) 5 then
      zlet (zput S 34 (S.1 33 x3.toNatClampNeg).toNatClampNeg x3) fun T4 =>
      zlet (x3 + 1) fun v5 =>
      (f_X12_isOrder_L2 n) x1 x2 v5 T4 else none else none
    else
      f_X12_isOrder_L30 zN x1 x2 1 0 S
def f_X12_isOrder (x1 : Int32) (x2 : Int32) (S : zS) : Option (Int32 × zS) :=
  f_X12_isOrder_L2 zN x1 x2 0 S
set_option maxRecDepth 100000 in
theorem w_X12_isOrder_B179 (l : Launch) {r : Int32} {S1 : zS} (K77 : Int32 → Int32 → Int32 → Int32 → zS → Option (Int32 × zS)) (hK77 : ∀ (x1 : Int32) (x2 : Int32) (x3 : Int32) (x4 : Int32) (S : zS), K77 x1 x2 x3 x4 S = some (r, S1) → WA zLM l RX12 cX12_isOrder 5 (some .boolean) 2 (some (.int r)) S1 77 [(0, .ref 0), (1, .int x1), (2, .int x2), (3, .int x3), (4, .int x4)] [] S) (x1 : Int32) (x2 : Int32) (x4 : Int32) (s0 : Int32) (S : zS) (h : f_X12_isOrder_B179 K77 x1 x2 x4 s0 S = some (r, S1)) : WA zLM l RX12 cX12_isOrder 5 (some .boolean) 2 (some (.int r)) S1 179 [(0, .ref 0), (1, .int x1), (2, .int x2), (4, .int x4)] [.int s0] S := by
  unfold f_X12_isOrder_B179 at h
  refine z_aload_n (pc := 179) (q := 0) dX12_isOrder_179 rfl rfl ?_
  refine z_getR (pc := 180) dX12_isOrder_180 zf_X12_115 gM_0_71 ?_
  refine z_iload (pc := 183) (q := 3) dX12_isOrder_183 rfl ?_
  obtain ⟨c1, h⟩ := zg_some h
  refine z_zald (pc := 185) dX12_isOrder_185 aM_32 c1 ?_
  refine z_icmp_ne (pc := 186) (tgt := 193) dX12_isOrder_186 (by decide) (fun c2 => ?_) (fun c2 => ?_)
  · have h := ze_some c2 h
    refine z_iconst (pc := 193) (v := 0) dX12_isOrder_193 zci_0 ?_
    refine z_istore_n (pc := 194) (lo' := [(3, .int 0), (0, .ref 0), (1, .int x1), (2, .int x2), (4, .int x4)]) dX12_isOrder_194 rfl (by decide) rfl ?_
    obtain ⟨v3, ev3, h⟩ := zl_some h
    refine z_iinc (pc := 195) (q := 4) (v := v3) (lo' := [(4, .int v3), (3, .int 0), (0, .ref 0), (1, .int x1), (2, .int x2)]) dX12_isOrder_195 rfl (by rw [ev3, zci_1]) (by decide) rfl ?_
    refine z_goto (pc := 198) (tgt := 77) dX12_isOrder_198 (by decide) ?_
    exact z_sub [2, 3, 4, 1, 0] rfl (hK77 x1 x2 0 v3 S h)
  · have h := zt_some c2 h
    refine z_iconst (pc := 189) (v := 1) dX12_isOrder_189 zci_1 ?_
    refine z_goto (pc := 190) (tgt := 194) dX12_isOrder_190 (by decide) ?_
    refine z_istore_n (pc := 194) (lo' := [(3, .int 1), (0, .ref 0), (1, .int x1), (2, .int x2), (4, .int x4)]) dX12_isOrder_194 rfl (by decide) rfl ?_
    obtain ⟨v3, ev3, h⟩ := zl_some h
    refine z_iinc (pc := 195) (q := 4) (v := v3) (lo' := [(4, .int v3), (3, .int 1), (0, .ref 0), (1, .int x1), (2, .int x2)]) dX12_isOrder_195 rfl (by rw [ev3, zci_1]) (by decide) rfl ?_
    refine z_goto (pc := 198) (tgt := 77) dX12_isOrder_198 (by decide) ?_
    exact z_sub [2, 3, 4, 1, 0] rfl (hK77 x1 x2 1 v3 S h)
set_option maxRecDepth 100000 in
theorem w_X12_isOrder_B122 (l : Launch) {r : Int32} {S1 : zS} (K77 : Int32 → Int32 → Int32 → Int32 → zS → Option (Int32 × zS)) (hK77 : ∀ (x1 : Int32) (x2 : Int32) (x3 : Int32) (x4 : Int32) (S : zS), K77 x1 x2 x3 x4 S = some (r, S1) → WA zLM l RX12 cX12_isOrder 5 (some .boolean) 2 (some (.int r)) S1 77 [(0, .ref 0), (1, .int x1), (2, .int x2), (3, .int x3), (4, .int x4)] [] S) (x1 : Int32) (x2 : Int32) (x3 : Int32) (x4 : Int32) (S : zS) (h : f_X12_isOrder_B122 K77 x1 x2 x3 x4 S = some (r, S1)) : WA zLM l RX12 cX12_isOrder 5 (some .boolean) 2 (some (.int r)) S1 122 [(0, .ref 0), (1, .int x1), (2, .int x2), (3, .int x3), (4, .int x4)] [] S := by
  unfold f_X12_isOrder_B122 at h
  refine z_aload_n (pc := 122) (q := 0) dX12_isOrder_122 rfl rfl ?_
  refine z_getR (pc := 123) dX12_isOrder_123 zf_X12_103 gM_0_67 ?_
  refine z_iload (pc := 126) (q := 4) dX12_isOrder_126 rfl ?_
  obtain ⟨c1, h⟩ := zg_some h
  refine z_iald (pc := 128) dX12_isOrder_128 aM_28 c1 ?_
  refine z_iload_n (pc := 129) (q := 1) dX12_isOrder_129 rfl rfl ?_
  refine z_icmp_ge (pc := 130) (tgt := 195) dX12_isOrder_130 (by decide) (fun c2 => ?_) (fun c2 => ?_)
  · have h := ze_some c2 h
    obtain ⟨v3, ev3, h⟩ := zl_some h
    refine z_iinc (pc := 195) (q := 4) (v := v3) (lo' := [(4, .int v3), (0, .ref 0), (1, .int x1), (2, .int x2), (3, .int x3)]) dX12_isOrder_195 rfl (by rw [ev3, zci_1]) (by decide) rfl ?_
    refine z_goto (pc := 198) (tgt := 77) dX12_isOrder_198 (by decide) ?_
    exact z_sub [1, 2, 3, 4, 0] rfl (hK77 x1 x2 x3 v3 S h)
  · have h := zt_some c2 h
    refine z_aload_n (pc := 133) (q := 0) dX12_isOrder_133 rfl rfl ?_
    refine z_getR (pc := 134) dX12_isOrder_134 zf_X12_106 gM_0_68 ?_
    refine z_iload (pc := 137) (q := 4) dX12_isOrder_137 rfl ?_
    obtain ⟨c3, h⟩ := zg_some h
    refine z_iald (pc := 139) dX12_isOrder_139 aM_29 c3 ?_
    refine z_iload_n (pc := 140) (q := 1) dX12_isOrder_140 rfl rfl ?_
    refine z_icmp_lt (pc := 141) (tgt := 147) dX12_isOrder_141 (by decide) (fun c4 => ?_) (fun c4 => ?_)
    · have h := zt_some c4 h
      refine z_aload_n (pc := 147) (q := 0) dX12_isOrder_147 rfl rfl ?_
      refine z_getR (pc := 148) dX12_isOrder_148 zf_X12_121 gM_0_75 ?_
      refine z_aload_n (pc := 151) (q := 0) dX12_isOrder_151 rfl rfl ?_
      refine z_getR (pc := 152) dX12_isOrder_152 zf_X12_103 gM_0_67 ?_
      refine z_iload (pc := 155) (q := 4) dX12_isOrder_155 rfl ?_
      obtain ⟨c5, h⟩ := zg_some h
      refine z_iald (pc := 157) dX12_isOrder_157 aM_28 c5 ?_
      obtain ⟨c6, h⟩ := zg_some h
      refine z_iald (pc := 158) dX12_isOrder_158 aM_34 c6 ?_
      refine z_aload_n (pc := 159) (q := 0) dX12_isOrder_159 rfl rfl ?_
      refine z_getR (pc := 160) dX12_isOrder_160 zf_X12_121 gM_0_75 ?_
      refine z_aload_n (pc := 163) (q := 0) dX12_isOrder_163 rfl rfl ?_
      refine z_getR (pc := 164) dX12_isOrder_164 zf_X12_106 gM_0_68 ?_
      refine z_iload (pc := 167) (q := 4) dX12_isOrder_167 rfl ?_
      obtain ⟨c7, h⟩ := zg_some h
      refine z_iald (pc := 169) dX12_isOrder_169 aM_29 c7 ?_
      obtain ⟨c8, h⟩ := zg_some h
      refine z_iald (pc := 170) dX12_isOrder_170 aM_34 c8 ?_
      refine z_icmp_ge (pc := 171) (tgt := 178) dX12_isOrder_171 (by decide) (fun c9 => ?_) (fun c9 => ?_)
      · have h := ze_some c9 h
        refine z_iconst (pc := 178) (v := 0) dX12_isOrder_178 zci_0 ?_
        exact z_sub [0, 1, 2, 4] rfl (w_X12_isOrder_B179 l K77 hK77 x1 x2 x4 0 S h)
      · have h := zt_some c9 h
        refine z_iconst (pc := 174) (v := 1) dX12_isOrder_174 zci_1 ?_
        refine z_goto (pc := 175) (tgt := 179) dX12_isOrder_175 (by decide) ?_
        exact z_sub [0, 1, 2, 4] rfl (w_X12_isOrder_B179 l K77 hK77 x1 x2 x4 1 S h)
    · have h := ze_some c4 h
      refine z_goto (pc := 144) (tgt := 195) dX12_isOrder_144 (by decide) ?_
      obtain ⟨v5, ev5, h⟩ := zl_some h
      refine z_iinc (pc := 195) (q := 4) (v := v5) (lo' := [(4, .int v5), (0, .ref 0), (1, .int x1), (2, .int x2), (3, .int x3)]) dX12_isOrder_195 rfl (by rw [ev5, zci_1]) (by decide) rfl ?_
      refine z_goto (pc := 198) (tgt := 77) dX12_isOrder_198 (by decide) ?_
      exact z_sub [1, 2, 3, 4, 0] rfl (hK77 x1 x2 x3 v5 S h)
set_option maxRecDepth 100000 in
theorem w_X12_isOrder_L77 (l : Launch) {r : Int32} {S1 : zS} : ∀ (n : Nat) (x1 : Int32) (x2 : Int32) (x3 : Int32) (x4 : Int32) (S : zS), f_X12_isOrder_L77 n x1 x2 x3 x4 S = some (r, S1) → WA zLM l RX12 cX12_isOrder 5 (some .boolean) 2 (some (.int r)) S1 77 [(0, .ref 0), (1, .int x1), (2, .int x2), (3, .int x3), (4, .int x4)] [] S := by
  intro n
  induction n with
  | zero =>
    intro x1 x2 x3 x4 S h
    exact nomatch h
  | succ n ih =>
    intro x1 x2 x3 x4 S h
    rw [f_X12_isOrder_L77] at h
    refine z_iload (pc := 77) (q := 4) dX12_isOrder_77 rfl ?_
    refine z_aload_n (pc := 79) (q := 0) dX12_isOrder_79 rfl rfl ?_
    refine z_getI (pc := 80) dX12_isOrder_80 zf_X12_416 gM_0_72 ?_
    refine z_icmp_ge (pc := 83) (tgt := 201) dX12_isOrder_83 (by decide) (fun c1 => ?_) (fun c1 => ?_)
    · have h := ze_some c1 h
      refine z_iload_n (pc := 201) (q := 3) dX12_isOrder_201 rfl rfl ?_
      obtain ⟨c2, h⟩ := zg_some h
      obtain ⟨rfl, rfl⟩ := zr_some h
      exact z_zret dX12_isOrder_202 (znb_n c2)
    · have h := zt_some c1 h
      refine z_iload_n (pc := 86) (q := 3) dX12_isOrder_86 rfl rfl ?_
      refine z_if_eq (pc := 87) (tgt := 201) dX12_isOrder_87 (by decide) (fun c2 => ?_) (fun c2 => ?_)
      · have h := zt_some c2 h
        refine z_iload_n (pc := 201) (q := 3) dX12_isOrder_201 rfl rfl ?_
        obtain ⟨c3, h⟩ := zg_some h
        obtain ⟨rfl, rfl⟩ := zr_some h
        exact z_zret dX12_isOrder_202 (znb_n c3)
      · have h := ze_some c2 h
        refine z_aload_n (pc := 90) (q := 0) dX12_isOrder_90 rfl rfl ?_
        refine z_getR (pc := 91) dX12_isOrder_91 zf_X12_109 gM_0_69 ?_
        refine z_iload (pc := 94) (q := 4) dX12_isOrder_94 rfl ?_
        obtain ⟨c3, h⟩ := zg_some h
        refine z_iald (pc := 96) dX12_isOrder_96 aM_30 c3 ?_
        refine z_iload_n (pc := 97) (q := 2) dX12_isOrder_97 rfl rfl ?_
        refine z_icmp_gt (pc := 98) (tgt := 195) dX12_isOrder_98 (by decide) (fun c4 => ?_) (fun c4 => ?_)
        · have h := zt_some c4 h
          obtain ⟨v5, ev5, h⟩ := zl_some h
          refine z_iinc (pc := 195) (q := 4) (v := v5) (lo' := [(4, .int v5), (0, .ref 0), (1, .int x1), (2, .int x2), (3, .int x3)]) dX12_isOrder_195 rfl (by rw [ev5, zci_1]) (by decide) rfl ?_
          refine z_goto (pc := 198) (tgt := 77) dX12_isOrder_198 (by decide) ?_
          exact z_sub [1, 2, 3, 4, 0] rfl (ih x1 x2 x3 v5 S h)
        · have h := ze_some c4 h
          refine z_aload_n (pc := 101) (q := 0) dX12_isOrder_101 rfl rfl ?_
          refine z_getR (pc := 102) dX12_isOrder_102 zf_X12_112 gM_0_70 ?_
          refine z_iload (pc := 105) (q := 4) dX12_isOrder_105 rfl ?_
          obtain ⟨c5, h⟩ := zg_some h
          refine z_iald (pc := 107) dX12_isOrder_107 aM_31 c5 ?_
          refine z_if_lt (pc := 108) (tgt := 122) dX12_isOrder_108 (by decide) (fun c6 => ?_) (fun c6 => ?_)
          · have h := zt_some c6 h
            exact w_X12_isOrder_B122 l (f_X12_isOrder_L77 n) ih x1 x2 x3 x4 S h
          · have h := ze_some c6 h
            refine z_aload_n (pc := 111) (q := 0) dX12_isOrder_111 rfl rfl ?_
            refine z_getR (pc := 112) dX12_isOrder_112 zf_X12_112 gM_0_70 ?_
            refine z_iload (pc := 115) (q := 4) dX12_isOrder_115 rfl ?_
            obtain ⟨c7, h⟩ := zg_some h
            refine z_iald (pc := 117) dX12_isOrder_117 aM_31 c7 ?_
            refine z_iload_n (pc := 118) (q := 2) dX12_isOrder_118 rfl rfl ?_
            refine z_icmp_le (pc := 119) (tgt := 195) dX12_isOrder_119 (by decide) (fun c8 => ?_) (fun c8 => ?_)
            · have h := ze_some c8 h
              obtain ⟨v9, ev9, h⟩ := zl_some h
              refine z_iinc (pc := 195) (q := 4) (v := v9) (lo' := [(4, .int v9), (0, .ref 0), (1, .int x1), (2, .int x2), (3, .int x3)]) dX12_isOrder_195 rfl (by rw [ev9, zci_1]) (by decide) rfl ?_
              refine z_goto (pc := 198) (tgt := 77) dX12_isOrder_198 (by decide) ?_
              exact z_sub [1, 2, 3, 4, 0] rfl (ih x1 x2 x3 v9 S h)
            · have h := zt_some c8 h
              exact w_X12_isOrder_B122 l (f_X12_isOrder_L77 n) ih x1 x2 x3 x4 S h
set_option maxRecDepth 100000 in
theorem w_X12_isOrder_L30 (l : Launch) {r : Int32} {S1 : zS} : ∀ (n : Nat) (x1 : Int32) (x2 : Int32) (x3 : Int32) (x4 : Int32) (S : zS), f_X12_isOrder_L30 n x1 x2 x3 x4 S = some (r, S1) → WA zLM l RX12 cX12_isOrder 5 (some .boolean) 2 (some (.int r)) S1 30 [(0, .ref 0), (1, .int x1), (2, .int x2), (3, .int x3), (4, .int x4)] [] S := by
  intro n
  induction n with
  | zero =>
    intro x1 x2 x3 x4 S h
    exact nomatch h
  | succ n ih =>
    intro x1 x2 x3 x4 S h
    rw [f_X12_isOrder_L30] at h
    refine z_iload (pc := 30) (q := 4) dX12_isOrder_30 rfl ?_
    refine z_iload_n (pc := 32) (q := 1) dX12_isOrder_32 rfl rfl ?_
    refine z_icmp_ge (pc := 33) (tgt := 74) dX12_isOrder_33 (by decide) (fun c1 => ?_) (fun c1 => ?_)
    · have h := ze_some c1 h
      refine z_iconst (pc := 74) (v := 0) dX12_isOrder_74 zci_0 ?_
      refine z_istore (pc := 75) (lo' := [(4, .int 0), (0, .ref 0), (1, .int x1), (2, .int x2), (3, .int x3)]) dX12_isOrder_75 (by decide) rfl ?_
      exact z_sub [1, 2, 3, 4, 0] rfl (w_X12_isOrder_L77 l zN x1 x2 x3 0 S h)
    · have h := zt_some c1 h
      refine z_iload_n (pc := 36) (q := 3) dX12_isOrder_36 rfl rfl ?_
      refine z_if_eq (pc := 37) (tgt := 66) dX12_isOrder_37 (by decide) (fun c2 => ?_) (fun c2 => ?_)
      · have h := zt_some c2 h
        refine z_iconst (pc := 66) (v := 0) dX12_isOrder_66 zci_0 ?_
        refine z_istore_n (pc := 67) (lo' := [(3, .int 0), (0, .ref 0), (1, .int x1), (2, .int x2), (4, .int x4)]) dX12_isOrder_67 rfl (by decide) rfl ?_
        obtain ⟨v3, ev3, h⟩ := zl_some h
        refine z_iinc (pc := 68) (q := 4) (v := v3) (lo' := [(4, .int v3), (3, .int 0), (0, .ref 0), (1, .int x1), (2, .int x2)]) dX12_isOrder_68 rfl (by rw [ev3, zci_1]) (by decide) rfl ?_
        refine z_goto (pc := 71) (tgt := 30) dX12_isOrder_71 (by decide) ?_
        exact z_sub [2, 3, 4, 1, 0] rfl (ih x1 x2 0 v3 S h)
      · have h := ze_some c2 h
        refine z_aload_n (pc := 40) (q := 0) dX12_isOrder_40 rfl rfl ?_
        refine z_iload (pc := 41) (q := 4) dX12_isOrder_41 rfl ?_
        refine z_bipush (pc := 43) (v := 6) dX12_isOrder_43 zcb_6 ?_
        obtain ⟨r5, T4, q3, h⟩ := zb_some h
        refine z_callVi (pc := 45) (st := []) [.int x4, .int 6] dX12_isOrder_45 zm_X12_580 zM_X12_isBehind (by decide) oM_0 rfl (w_X12_isBehind l q3) rfl rfl (Nat.le_of_ble_eq_true rfl) ?_
        refine z_if_eq (pc := 48) (tgt := 66) dX12_isOrder_48 (by decide) (fun c6 => ?_) (fun c6 => ?_)
        · have h := zt_some c6 h
          refine z_iconst (pc := 66) (v := 0) dX12_isOrder_66 zci_0 ?_
          refine z_istore_n (pc := 67) (lo' := [(3, .int 0), (0, .ref 0), (1, .int x1), (2, .int x2), (4, .int x4)]) dX12_isOrder_67 rfl (by decide) rfl ?_
          obtain ⟨v7, ev7, h⟩ := zl_some h
          refine z_iinc (pc := 68) (q := 4) (v := v7) (lo' := [(4, .int v7), (3, .int 0), (0, .ref 0), (1, .int x1), (2, .int x2)]) dX12_isOrder_68 rfl (by rw [ev7, zci_1]) (by decide) rfl ?_
          refine z_goto (pc := 71) (tgt := 30) dX12_isOrder_71 (by decide) ?_
          exact z_sub [2, 3, 4, 1, 0] rfl (ih x1 x2 0 v7 T4 h)
        · have h := ze_some c6 h
          refine z_aload_n (pc := 51) (q := 0) dX12_isOrder_51 rfl rfl ?_
          refine z_iload (pc := 52) (q := 4) dX12_isOrder_52 rfl ?_
          refine z_bipush (pc := 54) (v := 7) dX12_isOrder_54 zcb_7 ?_
          obtain ⟨r9, T8, q7, h⟩ := zb_some h
          refine z_callVi (pc := 56) (st := []) [.int x4, .int 7] dX12_isOrder_56 zm_X12_580 zM_X12_isBehind (by decide) oM_0 rfl (w_X12_isBehind l q7) rfl rfl (Nat.le_of_ble_eq_true rfl) ?_
          refine z_if_eq (pc := 59) (tgt := 66) dX12_isOrder_59 (by decide) (fun c10 => ?_) (fun c10 => ?_)
          · have h := zt_some c10 h
            refine z_iconst (pc := 66) (v := 0) dX12_isOrder_66 zci_0 ?_
            refine z_istore_n (pc := 67) (lo' := [(3, .int 0), (0, .ref 0), (1, .int x1), (2, .int x2), (4, .int x4)]) dX12_isOrder_67 rfl (by decide) rfl ?_
            obtain ⟨v11, ev11, h⟩ := zl_some h
            refine z_iinc (pc := 68) (q := 4) (v := v11) (lo' := [(4, .int v11), (3, .int 0), (0, .ref 0), (1, .int x1), (2, .int x2)]) dX12_isOrder_68 rfl (by rw [ev11, zci_1]) (by decide) rfl ?_
            refine z_goto (pc := 71) (tgt := 30) dX12_isOrder_71 (by decide) ?_
            exact z_sub [2, 3, 4, 1, 0] rfl (ih x1 x2 0 v11 T8 h)
          · have h := ze_some c10 h
            refine z_iconst (pc := 62) (v := 1) dX12_isOrder_62 zci_1 ?_
            refine z_goto (pc := 63) (tgt := 67) dX12_isOrder_63 (by decide) ?_
            refine z_istore_n (pc := 67) (lo' := [(3, .int 1), (0, .ref 0), (1, .int x1), (2, .int x2), (4, .int x4)]) dX12_isOrder_67 rfl (by decide) rfl ?_
            obtain ⟨v11, ev11, h⟩ := zl_some h
            refine z_iinc (pc := 68) (q := 4) (v := v11) (lo' := [(4, .int v11), (3, .int 1), (0, .ref 0), (1, .int x1), (2, .int x2)]) dX12_isOrder_68 rfl (by rw [ev11, zci_1]) (by decide) rfl ?_
            refine z_goto (pc := 71) (tgt := 30) dX12_isOrder_71 (by decide) ?_
            exact z_sub [2, 3, 4, 1, 0] rfl (ih x1 x2 1 v11 T8 h)
set_option maxRecDepth 100000 in
theorem w_X12_isOrder_L2 (l : Launch) {r : Int32} {S1 : zS} : ∀ (n : Nat) (x1 : Int32) (x2 : Int32) (x3 : Int32) (S : zS), f_X12_isOrder_L2 n x1 x2 x3 S = some (r, S1) → WA zLM l RX12 cX12_isOrder 5 (some .boolean) 2 (some (.int r)) S1 2 [(0, .ref 0), (1, .int x1), (2, .int x2), (3, .int x3)] [] S := by
  intro n
  induction n with
  | zero =>
    intro x1 x2 x3 S h
    exact nomatch h
  | succ n ih =>
    intro x1 x2 x3 S h
    rw [f_X12_isOrder_L2] at h
    refine z_iload_n (pc := 2) (q := 3) dX12_isOrder_2 rfl rfl ?_
    refine z_iload_n (pc := 3) (q := 1) dX12_isOrder_3 rfl rfl ?_
    refine z_icmp_ge (pc := 4) (tgt := 25) dX12_isOrder_4 (by decide) (fun c1 => ?_) (fun c1 => ?_)
    · have h := ze_some c1 h
      refine z_iconst (pc := 25) (v := 1) dX12_isOrder_25 zci_1 ?_
      refine z_istore_n (pc := 26) (lo' := [(3, .int 1), (0, .ref 0), (1, .int x1), (2, .int x2)]) dX12_isOrder_26 rfl (by decide) rfl ?_
      refine z_iconst (pc := 27) (v := 0) dX12_isOrder_27 zci_0 ?_
      refine z_istore (pc := 28) (lo' := [(4, .int 0), (3, .int 1), (0, .ref 0), (1, .int x1), (2, .int x2)]) dX12_isOrder_28 (by decide) rfl ?_
      exact z_sub [2, 3, 4, 1, 0] rfl (w_X12_isOrder_L30 l zN x1 x2 1 0 S h)
    · have h := zt_some c1 h
      refine z_aload_n (pc := 7) (q := 0) dX12_isOrder_7 rfl rfl ?_
      refine z_getR (pc := 8) dX12_isOrder_8 zf_X12_121 gM_0_75 ?_
      refine z_aload_n (pc := 11) (q := 0) dX12_isOrder_11 rfl rfl ?_
      refine z_getR (pc := 12) dX12_isOrder_12 zf_X12_118 gM_0_74 ?_
      refine z_iload_n (pc := 15) (q := 3) dX12_isOrder_15 rfl rfl ?_
      obtain ⟨c2, h⟩ := zg_some h
      refine z_iald (pc := 16) dX12_isOrder_16 aM_33 c2 ?_
      refine z_iload_n (pc := 17) (q := 3) dX12_isOrder_17 rfl rfl ?_
      obtain ⟨c3, h⟩ := zg_some h
      obtain ⟨T4, eT4, h⟩ := zl_some h
      refine z_iast (pc := 18) dX12_isOrder_18 aM_34 c3 eT4 ?_
      obtain ⟨v5, ev5, h⟩ := zl_some h
      refine z_iinc (pc := 19) (q := 3) (v := v5) (lo' := [(3, .int v5), (0, .ref 0), (1, .int x1), (2, .int x2)]) dX12_isOrder_19 rfl (by rw [ev5, zci_1]) (by decide) rfl ?_
      refine z_goto (pc := 22) (tgt := 2) dX12_isOrder_22 (by decide) ?_
      exact z_sub [1, 2, 3, 0] rfl (ih x1 x2 v5 T4 h)
set_option maxRecDepth 100000 in
theorem w_X12_isOrder (l : Launch) {x1 : Int32} {x2 : Int32} {S : zS} {r : Int32} {S1 : zS} (h : f_X12_isOrder x1 x2 S = some (r, S1)) : zMet zLM l yX12_isOrder cX12_isOrder 5 (some .boolean) 2 [.ref 0, .int x1, .int x2] S (some (.int r)) S1 := by
  unfold f_X12_isOrder at h
  refine zMet.of (by decide +kernel) (Nat.le_of_ble_eq_true rfl) ?_
  show WA zLM l RX12 cX12_isOrder 5 (some .boolean) 2 (some (.int r)) S1 0 [(0, .ref 0), (1, .int x1), (2, .int x2)] [] S
  refine z_iconst (pc := 0) (v := 0) dX12_isOrder_0 zci_0 ?_
  refine z_istore_n (pc := 1) (lo' := [(3, .int 0), (0, .ref 0), (1, .int x1), (2, .int x2)]) dX12_isOrder_1 rfl (by decide) rfl ?_
  exact z_sub [1, 2, 3, 0] rfl (w_X12_isOrder_L2 l zN x1 x2 0 S h)
def f_X12_layOrders_B104 (K51 : Int32 → Int32 → Int32 → Int32 → zS → Option (Int32 × zS)) (x1 : Int32) (x2 : Int32) (x3 : Int32) (S : zS) : Option (Int32 × zS) :=
  zb (f_X12_nextOrder x2 S) fun r3 T2 =>
  K51 x1 x2 x3 r3 T2
def f_X12_layOrders_L71 (K51 : Int32 → Int32 → Int32 → Int32 → zS → Option (Int32 × zS)) : Nat → Int32 → Int32 → Int32 → Int32 → zS → Option (Int32 × zS)
  | 0, _, _, _, _, _ => none
  | n + 1, x1, x2, x3, x5, S =>
    if x5 < x2 then
      if zin x5 5 then
      if zin ((5 * (S.1 33 x5.toNatClampNeg)) + x5) 25 then
      if zin ((5 * (S.1 33 x5.toNatClampNeg)) + x5) 25 then
      zlet (zput S 35 ((5 * (S.1 33 x5.toNatClampNeg)) + x5).toNatClampNeg ((S.1 35 ((5 * (S.1 33 x5.toNatClampNeg)) + x5).toNatClampNeg) + 1)) fun T5 =>
      zlet (x5 + 1) fun v6 =>
      (f_X12_layOrders_L71 K51 n) x1 x2 x3 v6 T5 else none else none else none
    else
      f_X12_layOrders_B104 K51 x1 x2 x3 S
def f_X12_layOrders_L51 : Nat → Int32 → Int32 → Int32 → Int32 → zS → Option (Int32 × zS)
  | 0, _, _, _, _, _ => none
  | n + 1, x1, x2, x3, x4, S =>
    if x4 = 0 then
      some (x3, S)
    else
      zb (f_X12_isOrder x2 x1 S) fun r4 T3 =>
      if r4 = 0 then
        f_X12_layOrders_B104 (f_X12_layOrders_L51 n) x1 x2 x3 T3
      else
        zlet (x3 + 1) fun v6 =>
        f_X12_layOrders_L71 (f_X12_layOrders_L51 n) zN x1 x2 v6 0 T3
def f_X12_layOrders_L28 : Nat → Int32 → Int32 → Int32 → zS → Option (Int32 × zS)
  | 0, _, _, _, _ => none
  | n + 1, x1, x2, x3, S =>
    if x3 < x2 then
      if zin x3 5 then
      zlet (zput S 33 x3.toNatClampNeg x3) fun T3 =>
      zlet (x3 + 1) fun v4 =>
      (f_X12_layOrders_L28 n) x1 x2 v4 T3 else none
    else
      f_X12_layOrders_L51 zN x1 x2 0 1 S
def f_X12_layOrders_L7 : Nat → Int32 → Int32 → Int32 → zS → Option (Int32 × zS)
  | 0, _, _, _, _ => none
  | n + 1, x1, x2, x3, S =>
    if x3 < 25 then
      if zin x3 25 then
      zlet (zput S 35 x3.toNatClampNeg 0) fun T3 =>
      zlet (x3 + 1) fun v4 =>
      (f_X12_layOrders_L7 n) x1 x2 v4 T3 else none
    else
      f_X12_layOrders_L28 zN x1 x2 0 S
def f_X12_layOrders (x1 : Int32) (S : zS) : Option (Int32 × zS) :=
  zb (f_X12_firstBills S) fun r3 T2 =>
  f_X12_layOrders_L7 zN x1 r3 0 T2
set_option maxRecDepth 100000 in
theorem w_X12_layOrders_B104 (l : Launch) {r : Int32} {S1 : zS} (K51 : Int32 → Int32 → Int32 → Int32 → zS → Option (Int32 × zS)) (hK51 : ∀ (x1 : Int32) (x2 : Int32) (x3 : Int32) (x4 : Int32) (S : zS), K51 x1 x2 x3 x4 S = some (r, S1) → WA zLM l RX12 cX12_layOrders 6 (some .int) 3 (some (.int r)) S1 51 [(0, .ref 0), (1, .int x1), (2, .int x2), (3, .int x3), (4, .int x4)] [] S) (x1 : Int32) (x2 : Int32) (x3 : Int32) (S : zS) (h : f_X12_layOrders_B104 K51 x1 x2 x3 S = some (r, S1)) : WA zLM l RX12 cX12_layOrders 6 (some .int) 3 (some (.int r)) S1 104 [(0, .ref 0), (1, .int x1), (2, .int x2), (3, .int x3)] [] S := by
  unfold f_X12_layOrders_B104 at h
  refine z_aload_n (pc := 104) (q := 0) dX12_layOrders_104 rfl rfl ?_
  refine z_iload_n (pc := 105) (q := 2) dX12_layOrders_105 rfl rfl ?_
  obtain ⟨r3, T2, q1, h⟩ := zb_some h
  refine z_callVi (pc := 106) (st := []) [.int x2] dX12_layOrders_106 zm_X12_586 zM_X12_nextOrder (by decide) oM_0 rfl (w_X12_nextOrder l q1) rfl rfl (Nat.le_of_ble_eq_true rfl) ?_
  refine z_istore (pc := 109) (lo' := [(4, .int r3), (0, .ref 0), (1, .int x1), (2, .int x2), (3, .int x3)]) dX12_layOrders_109 (by decide) rfl ?_
  refine z_goto (pc := 111) (tgt := 51) dX12_layOrders_111 (by decide) ?_
  exact z_sub [1, 2, 3, 4, 0] rfl (hK51 x1 x2 x3 r3 T2 h)
set_option maxRecDepth 100000 in
theorem w_X12_layOrders_L71 (l : Launch) {r : Int32} {S1 : zS} (K51 : Int32 → Int32 → Int32 → Int32 → zS → Option (Int32 × zS)) (hK51 : ∀ (x1 : Int32) (x2 : Int32) (x3 : Int32) (x4 : Int32) (S : zS), K51 x1 x2 x3 x4 S = some (r, S1) → WA zLM l RX12 cX12_layOrders 6 (some .int) 3 (some (.int r)) S1 51 [(0, .ref 0), (1, .int x1), (2, .int x2), (3, .int x3), (4, .int x4)] [] S) : ∀ (n : Nat) (x1 : Int32) (x2 : Int32) (x3 : Int32) (x5 : Int32) (S : zS), f_X12_layOrders_L71 K51 n x1 x2 x3 x5 S = some (r, S1) → WA zLM l RX12 cX12_layOrders 6 (some .int) 3 (some (.int r)) S1 71 [(0, .ref 0), (1, .int x1), (2, .int x2), (3, .int x3), (5, .int x5)] [] S := by
  intro n
  induction n with
  | zero =>
    intro x1 x2 x3 x5 S h
    exact nomatch h
  | succ n ih =>
    intro x1 x2 x3 x5 S h
    rw [f_X12_layOrders_L71] at h
    refine z_iload (pc := 71) (q := 4) dX12_layOrders_71 rfl ?_
    refine z_iload_n (pc := 73) (q := 2) dX12_layOrders_73 rfl rfl ?_
    refine z_icmp_ge (pc := 74) (tgt := 104) dX12_layOrders_74 (by decide) (fun c1 => ?_) (fun c1 => ?_)
    · have h := ze_some c1 h
      exact z_sub [0, 1, 2, 3] rfl (w_X12_layOrders_B104 l K51 hK51 x1 x2 x3 S h)
    · have h := zt_some c1 h
      refine z_aload_n (pc := 77) (q := 0) dX12_layOrders_77 rfl rfl ?_
      refine z_getR (pc := 78) dX12_layOrders_78 zf_X12_124 gM_0_76 ?_
      refine z_iconst (pc := 81) (v := 5) dX12_layOrders_81 zci_5 ?_
      refine z_aload_n (pc := 82) (q := 0) dX12_layOrders_82 rfl rfl ?_
      refine z_getR (pc := 83) dX12_layOrders_83 zf_X12_118 gM_0_74 ?_
      refine z_iload (pc := 86) (q := 4) dX12_layOrders_86 rfl ?_
      obtain ⟨c2, h⟩ := zg_some h
      refine z_iald (pc := 88) dX12_layOrders_88 aM_33 c2 ?_
      refine z_imul (pc := 89) dX12_layOrders_89 ?_
      refine z_iload (pc := 90) (q := 4) dX12_layOrders_90 rfl ?_
      refine z_iadd (pc := 92) dX12_layOrders_92 ?_
      refine z_dup2 (pc := 93) dX12_layOrders_93 rfl rfl ?_
      obtain ⟨c3, h⟩ := zg_some h
      refine z_iald (pc := 94) dX12_layOrders_94 aM_35 c3 ?_
      refine z_iconst (pc := 95) (v := 1) dX12_layOrders_95 zci_1 ?_
      refine z_iadd (pc := 96) dX12_layOrders_96 ?_
      obtain ⟨c4, h⟩ := zg_some h
      obtain ⟨T5, eT5, h⟩ := zl_some h
      refine z_iast (pc := 97) dX12_layOrders_97 aM_35 c4 eT5 ?_
      obtain ⟨v6, ev6, h⟩ := zl_some h
      refine z_iinc (pc := 98) (q := 4) (v := v6) (lo' := [(5, .int v6), (0, .ref 0), (1, .int x1), (2, .int x2), (3, .int x3)]) dX12_layOrders_98 rfl (by rw [ev6, zci_1]) (by decide) rfl ?_
      refine z_goto (pc := 101) (tgt := 71) dX12_layOrders_101 (by decide) ?_
      exact z_sub [1, 2, 3, 4, 0] rfl (ih x1 x2 x3 v6 T5 h)
set_option maxRecDepth 100000 in
theorem w_X12_layOrders_L51 (l : Launch) {r : Int32} {S1 : zS} : ∀ (n : Nat) (x1 : Int32) (x2 : Int32) (x3 : Int32) (x4 : Int32) (S : zS), f_X12_layOrders_L51 n x1 x2 x3 x4 S = some (r, S1) → WA zLM l RX12 cX12_layOrders 6 (some .int) 3 (some (.int r)) S1 51 [(0, .ref 0), (1, .int x1), (2, .int x2), (3, .int x3), (4, .int x4)] [] S := by
  intro n
  induction n with
  | zero =>
    intro x1 x2 x3 x4 S h
    exact nomatch h
  | succ n ih =>
    intro x1 x2 x3 x4 S h
    rw [f_X12_layOrders_L51] at h
    refine z_iload (pc := 51) (q := 4) dX12_layOrders_51 rfl ?_
    refine z_if_eq (pc := 53) (tgt := 114) dX12_layOrders_53 (by decide) (fun c1 => ?_) (fun c1 => ?_)
    · have h := zt_some c1 h
      refine z_iload_n (pc := 114) (q := 3) dX12_layOrders_114 rfl rfl ?_
      obtain ⟨rfl, rfl⟩ := zr_some h
      exact z_iret dX12_layOrders_115
    · have h := ze_some c1 h
      refine z_aload_n (pc := 56) (q := 0) dX12_layOrders_56 rfl rfl ?_
      refine z_iload_n (pc := 57) (q := 2) dX12_layOrders_57 rfl rfl ?_
      refine z_iload_n (pc := 58) (q := 1) dX12_layOrders_58 rfl rfl ?_
      obtain ⟨r4, T3, q2, h⟩ := zb_some h
      refine z_callVi (pc := 59) (st := []) [.int x2, .int x1] dX12_layOrders_59 zm_X12_583 zM_X12_isOrder (by decide) oM_0 rfl (w_X12_isOrder l q2) rfl rfl (Nat.le_of_ble_eq_true rfl) ?_
      refine z_if_eq (pc := 62) (tgt := 104) dX12_layOrders_62 (by decide) (fun c5 => ?_) (fun c5 => ?_)
      · have h := zt_some c5 h
        exact z_sub [0, 1, 2, 3] rfl (w_X12_layOrders_B104 l (f_X12_layOrders_L51 n) ih x1 x2 x3 T3 h)
      · have h := ze_some c5 h
        obtain ⟨v6, ev6, h⟩ := zl_some h
        refine z_iinc (pc := 65) (q := 3) (v := v6) (lo' := [(3, .int v6), (0, .ref 0), (1, .int x1), (2, .int x2), (4, .int x4)]) dX12_layOrders_65 rfl (by rw [ev6, zci_1]) (by decide) rfl ?_
        refine z_iconst (pc := 68) (v := 0) dX12_layOrders_68 zci_0 ?_
        refine z_istore (pc := 69) (lo' := [(5, .int 0), (3, .int v6), (0, .ref 0), (1, .int x1), (2, .int x2), (4, .int x4)]) dX12_layOrders_69 (by decide) rfl ?_
        exact z_sub [2, 3, 4, 1, 0] rfl (w_X12_layOrders_L71 l (f_X12_layOrders_L51 n) ih zN x1 x2 v6 0 T3 h)
set_option maxRecDepth 100000 in
theorem w_X12_layOrders_L28 (l : Launch) {r : Int32} {S1 : zS} : ∀ (n : Nat) (x1 : Int32) (x2 : Int32) (x3 : Int32) (S : zS), f_X12_layOrders_L28 n x1 x2 x3 S = some (r, S1) → WA zLM l RX12 cX12_layOrders 6 (some .int) 3 (some (.int r)) S1 28 [(0, .ref 0), (1, .int x1), (2, .int x2), (3, .int x3)] [] S := by
  intro n
  induction n with
  | zero =>
    intro x1 x2 x3 S h
    exact nomatch h
  | succ n ih =>
    intro x1 x2 x3 S h
    rw [f_X12_layOrders_L28] at h
    refine z_iload_n (pc := 28) (q := 3) dX12_layOrders_28 rfl rfl ?_
    refine z_iload_n (pc := 29) (q := 2) dX12_layOrders_29 rfl rfl ?_
    refine z_icmp_ge (pc := 30) (tgt := 46) dX12_layOrders_30 (by decide) (fun c1 => ?_) (fun c1 => ?_)
    · have h := ze_some c1 h
      refine z_iconst (pc := 46) (v := 0) dX12_layOrders_46 zci_0 ?_
      refine z_istore_n (pc := 47) (lo' := [(3, .int 0), (0, .ref 0), (1, .int x1), (2, .int x2)]) dX12_layOrders_47 rfl (by decide) rfl ?_
      refine z_iconst (pc := 48) (v := 1) dX12_layOrders_48 zci_1 ?_
      refine z_istore (pc := 49) (lo' := [(4, .int 1), (3, .int 0), (0, .ref 0), (1, .int x1), (2, .int x2)]) dX12_layOrders_49 (by decide) rfl ?_
      exact z_sub [2, 3, 4, 1, 0] rfl (w_X12_layOrders_L51 l zN x1 x2 0 1 S h)
    · have h := zt_some c1 h
      refine z_aload_n (pc := 33) (q := 0) dX12_layOrders_33 rfl rfl ?_
      refine z_getR (pc := 34) dX12_layOrders_34 zf_X12_118 gM_0_74 ?_
      refine z_iload_n (pc := 37) (q := 3) dX12_layOrders_37 rfl rfl ?_
      refine z_iload_n (pc := 38) (q := 3) dX12_layOrders_38 rfl rfl ?_
      obtain ⟨c2, h⟩ := zg_some h
      obtain ⟨T3, eT3, h⟩ := zl_some h
      refine z_iast (pc := 39) dX12_layOrders_39 aM_33 c2 eT3 ?_
      obtain ⟨v4, ev4, h⟩ := zl_some h
      refine z_iinc (pc := 40) (q := 3) (v := v4) (lo' := [(3, .int v4), (0, .ref 0), (1, .int x1), (2, .int x2)]) dX12_layOrders_40 rfl (by rw [ev4, zci_1]) (by decide) rfl ?_
      refine z_goto (pc := 43) (tgt := 28) dX12_layOrders_43 (by decide) ?_
      exact z_sub [1, 2, 3, 0] rfl (ih x1 x2 v4 T3 h)
set_option maxRecDepth 100000 in
theorem w_X12_layOrders_L7 (l : Launch) {r : Int32} {S1 : zS} : ∀ (n : Nat) (x1 : Int32) (x2 : Int32) (x3 : Int32) (S : zS), f_X12_layOrders_L7 n x1 x2 x3 S = some (r, S1) → WA zLM l RX12 cX12_layOrders 6 (some .int) 3 (some (.int r)) S1 7 [(0, .ref 0), (1, .int x1), (2, .int x2), (3, .int x3)] [] S := by
  intro n
  induction n with
  | zero =>
    intro x1 x2 x3 S h
    exact nomatch h
  | succ n ih =>
    intro x1 x2 x3 S h
    rw [f_X12_layOrders_L7] at h
    refine z_iload_n (pc := 7) (q := 3) dX12_layOrders_7 rfl rfl ?_
    refine z_bipush (pc := 8) (v := 25) dX12_layOrders_8 zcb_25 ?_
    refine z_icmp_ge (pc := 10) (tgt := 26) dX12_layOrders_10 (by decide) (fun c1 => ?_) (fun c1 => ?_)
    · have h := ze_some c1 h
      refine z_iconst (pc := 26) (v := 0) dX12_layOrders_26 zci_0 ?_
      refine z_istore_n (pc := 27) (lo' := [(3, .int 0), (0, .ref 0), (1, .int x1), (2, .int x2)]) dX12_layOrders_27 rfl (by decide) rfl ?_
      exact z_sub [1, 2, 3, 0] rfl (w_X12_layOrders_L28 l zN x1 x2 0 S h)
    · have h := zt_some c1 h
      refine z_aload_n (pc := 13) (q := 0) dX12_layOrders_13 rfl rfl ?_
      refine z_getR (pc := 14) dX12_layOrders_14 zf_X12_124 gM_0_76 ?_
      refine z_iload_n (pc := 17) (q := 3) dX12_layOrders_17 rfl rfl ?_
      refine z_iconst (pc := 18) (v := 0) dX12_layOrders_18 zci_0 ?_
      obtain ⟨c2, h⟩ := zg_some h
      obtain ⟨T3, eT3, h⟩ := zl_some h
      refine z_iast (pc := 19) dX12_layOrders_19 aM_35 c2 eT3 ?_
      obtain ⟨v4, ev4, h⟩ := zl_some h
      refine z_iinc (pc := 20) (q := 3) (v := v4) (lo' := [(3, .int v4), (0, .ref 0), (1, .int x1), (2, .int x2)]) dX12_layOrders_20 rfl (by rw [ev4, zci_1]) (by decide) rfl ?_
      refine z_goto (pc := 23) (tgt := 7) dX12_layOrders_23 (by decide) ?_
      exact z_sub [1, 2, 3, 0] rfl (ih x1 x2 v4 T3 h)
set_option maxRecDepth 100000 in
theorem w_X12_layOrders (l : Launch) {x1 : Int32} {S : zS} {r : Int32} {S1 : zS} (h : f_X12_layOrders x1 S = some (r, S1)) : zMet zLM l yX12_layOrders cX12_layOrders 6 (some .int) 3 [.ref 0, .int x1] S (some (.int r)) S1 := by
  unfold f_X12_layOrders at h
  refine zMet.of (by decide +kernel) (Nat.le_of_ble_eq_true rfl) ?_
  show WA zLM l RX12 cX12_layOrders 6 (some .int) 3 (some (.int r)) S1 0 [(0, .ref 0), (1, .int x1)] [] S
  refine z_aload_n (pc := 0) (q := 0) dX12_layOrders_0 rfl rfl ?_
  obtain ⟨r3, T2, q1, h⟩ := zb_some h
  refine z_callVi (pc := 1) (st := []) [] dX12_layOrders_1 zm_X12_567 zM_X12_firstBills (by decide) oM_0 rfl (w_X12_firstBills l q1) rfl rfl (Nat.le_of_ble_eq_true rfl) ?_
  refine z_istore_n (pc := 4) (lo' := [(2, .int r3), (0, .ref 0), (1, .int x1)]) dX12_layOrders_4 rfl (by decide) rfl ?_
  refine z_iconst (pc := 5) (v := 0) dX12_layOrders_5 zci_0 ?_
  refine z_istore_n (pc := 6) (lo' := [(3, .int 0), (2, .int r3), (0, .ref 0), (1, .int x1)]) dX12_layOrders_6 rfl (by decide) rfl ?_
  exact z_sub [2, 3, 1, 0] rfl (w_X12_layOrders_L7 l zN x1 r3 0 T2 h)
def f_X12_orders (x1 : Int32) (S : zS) : Option (Int32 × zS) :=
  zb (f_X12_layOrders x1 S) fun r3 T2 =>
  some (r3, T2)
set_option maxRecDepth 100000 in
theorem w_X12_orders (l : Launch) {x1 : Int32} {S : zS} {r : Int32} {S1 : zS} (h : f_X12_orders x1 S = some (r, S1)) : zMet zLM l yX12_orders cX12_orders 2 (some .int) 4 [.ref 0, .int x1] S (some (.int r)) S1 := by
  unfold f_X12_orders at h
  refine zMet.of (by decide +kernel) (Nat.le_of_ble_eq_true rfl) ?_
  show WA zLM l RX12 cX12_orders 2 (some .int) 4 (some (.int r)) S1 0 [(0, .ref 0), (1, .int x1)] [] S
  refine z_aload_n (pc := 0) (q := 0) dX12_orders_0 rfl rfl ?_
  refine z_iload_n (pc := 1) (q := 1) dX12_orders_1 rfl rfl ?_
  obtain ⟨r3, T2, q1, h⟩ := zb_some h
  refine z_callVi (pc := 2) (st := []) [.int x1] dX12_orders_2 zm_X12_589 zM_X12_layOrders (by decide) oM_0 rfl (w_X12_layOrders l q1) rfl rfl (Nat.le_of_ble_eq_true rfl) ?_
  obtain ⟨rfl, rfl⟩ := zr_some h
  exact z_iret dX12_orders_5
def f_X12_mostOf_L4 : Nat → Int32 → Int32 → Int32 → zS → Option (Int32 × zS)
  | 0, _, _, _, _ => none
  | n + 1, x1, x2, x3, S =>
    if x3 < 5 then
      if zin ((5 * x1) + x3) 25 then
      if x2 < (S.1 35 ((5 * x1) + x3).toNatClampNeg) then
        if zin ((5 * x1) + x3) 25 then
        zlet (S.1 35 ((5 * x1) + x3).toNatClampNeg) fun v5 =>
        zlet (x3 + 1) fun v6 =>
        (f_X12_mostOf_L4 n) x1 v5 v6 S else none
      else
        zlet (x3 + 1) fun v4 =>
        (f_X12_mostOf_L4 n) x1 x2 v4 S else none
    else
      some (x2, S)
def f_X12_mostOf (x1 : Int32) (S : zS) : Option (Int32 × zS) :=
  f_X12_mostOf_L4 zN x1 0 0 S
set_option maxRecDepth 100000 in
theorem w_X12_mostOf_L4 (l : Launch) {r : Int32} {S1 : zS} : ∀ (n : Nat) (x1 : Int32) (x2 : Int32) (x3 : Int32) (S : zS), f_X12_mostOf_L4 n x1 x2 x3 S = some (r, S1) → WA zLM l RX12 cX12_mostOf 4 (some .int) 1 (some (.int r)) S1 4 [(0, .ref 0), (1, .int x1), (2, .int x2), (3, .int x3)] [] S := by
  intro n
  induction n with
  | zero =>
    intro x1 x2 x3 S h
    exact nomatch h
  | succ n ih =>
    intro x1 x2 x3 S h
    rw [f_X12_mostOf_L4] at h
    refine z_iload_n (pc := 4) (q := 3) dX12_mostOf_4 rfl rfl ?_
    refine z_iconst (pc := 5) (v := 5) dX12_mostOf_5 zci_5 ?_
    refine z_icmp_ge (pc := 6) (tgt := 44) dX12_mostOf_6 (by decide) (fun c1 => ?_) (fun c1 => ?_)
    · have h := ze_some c1 h
      refine z_iload_n (pc := 44) (q := 2) dX12_mostOf_44 rfl rfl ?_
      obtain ⟨rfl, rfl⟩ := zr_some h
      exact z_iret dX12_mostOf_45
    · have h := zt_some c1 h
      refine z_aload_n (pc := 9) (q := 0) dX12_mostOf_9 rfl rfl ?_
      refine z_getR (pc := 10) dX12_mostOf_10 zf_X12_124 gM_0_76 ?_
      refine z_iconst (pc := 13) (v := 5) dX12_mostOf_13 zci_5 ?_
      refine z_iload_n (pc := 14) (q := 1) dX12_mostOf_14 rfl rfl ?_
      refine z_imul (pc := 15) dX12_mostOf_15 ?_
      refine z_iload_n (pc := 16) (q := 3) dX12_mostOf_16 rfl rfl ?_
      refine z_iadd (pc := 17) dX12_mostOf_17 ?_
      obtain ⟨c2, h⟩ := zg_some h
      refine z_iald (pc := 18) dX12_mostOf_18 aM_35 c2 ?_
      refine z_iload_n (pc := 19) (q := 2) dX12_mostOf_19 rfl rfl ?_
      refine z_icmp_le (pc := 20) (tgt := 36) dX12_mostOf_20 (by decide) (fun c3 => ?_) (fun c3 => ?_)
      · have h := ze_some c3 h
        refine z_iload_n (pc := 36) (q := 2) dX12_mostOf_36 rfl rfl ?_
        refine z_istore_n (pc := 37) (lo' := [(2, .int x2), (0, .ref 0), (1, .int x1), (3, .int x3)]) dX12_mostOf_37 rfl (by decide) rfl ?_
        obtain ⟨v4, ev4, h⟩ := zl_some h
        refine z_iinc (pc := 38) (q := 3) (v := v4) (lo' := [(3, .int v4), (2, .int x2), (0, .ref 0), (1, .int x1)]) dX12_mostOf_38 rfl (by rw [ev4, zci_1]) (by decide) rfl ?_
        refine z_goto (pc := 41) (tgt := 4) dX12_mostOf_41 (by decide) ?_
        exact z_sub [2, 3, 1, 0] rfl (ih x1 x2 v4 S h)
      · have h := zt_some c3 h
        refine z_aload_n (pc := 23) (q := 0) dX12_mostOf_23 rfl rfl ?_
        refine z_getR (pc := 24) dX12_mostOf_24 zf_X12_124 gM_0_76 ?_
        refine z_iconst (pc := 27) (v := 5) dX12_mostOf_27 zci_5 ?_
        refine z_iload_n (pc := 28) (q := 1) dX12_mostOf_28 rfl rfl ?_
        refine z_imul (pc := 29) dX12_mostOf_29 ?_
        refine z_iload_n (pc := 30) (q := 3) dX12_mostOf_30 rfl rfl ?_
        refine z_iadd (pc := 31) dX12_mostOf_31 ?_
        obtain ⟨c4, h⟩ := zg_some h
        refine z_iald (pc := 32) dX12_mostOf_32 aM_35 c4 ?_
        refine z_goto (pc := 33) (tgt := 37) dX12_mostOf_33 (by decide) ?_
        obtain ⟨v5, ev5, h⟩ := zl_some h
        refine z_top ev5 ?_
        refine z_istore_n (pc := 37) (lo' := [(2, .int v5), (0, .ref 0), (1, .int x1), (3, .int x3)]) dX12_mostOf_37 rfl (by decide) rfl ?_
        obtain ⟨v6, ev6, h⟩ := zl_some h
        refine z_iinc (pc := 38) (q := 3) (v := v6) (lo' := [(3, .int v6), (2, .int v5), (0, .ref 0), (1, .int x1)]) dX12_mostOf_38 rfl (by rw [ev6, zci_1]) (by decide) rfl ?_
        refine z_goto (pc := 41) (tgt := 4) dX12_mostOf_41 (by decide) ?_
        exact z_sub [2, 3, 1, 0] rfl (ih x1 v5 v6 S h)
set_option maxRecDepth 100000 in
theorem w_X12_mostOf (l : Launch) {x1 : Int32} {S : zS} {r : Int32} {S1 : zS} (h : f_X12_mostOf x1 S = some (r, S1)) : zMet zLM l yX12_mostOf cX12_mostOf 4 (some .int) 1 [.ref 0, .int x1] S (some (.int r)) S1 := by
  unfold f_X12_mostOf at h
  refine zMet.of (by decide +kernel) (Nat.le_of_ble_eq_true rfl) ?_
  show WA zLM l RX12 cX12_mostOf 4 (some .int) 1 (some (.int r)) S1 0 [(0, .ref 0), (1, .int x1)] [] S
  refine z_iconst (pc := 0) (v := 0) dX12_mostOf_0 zci_0 ?_
  refine z_istore_n (pc := 1) (lo' := [(2, .int 0), (0, .ref 0), (1, .int x1)]) dX12_mostOf_1 rfl (by decide) rfl ?_
  refine z_iconst (pc := 2) (v := 0) dX12_mostOf_2 zci_0 ?_
  refine z_istore_n (pc := 3) (lo' := [(3, .int 0), (2, .int 0), (0, .ref 0), (1, .int x1)]) dX12_mostOf_3 rfl (by decide) rfl ?_
  exact z_sub [2, 3, 1, 0] rfl (w_X12_mostOf_L4 l zN x1 0 0 S h)
def f_X12_sure_B53 (x3 : Int32) (S : zS) : Option (Int32 × zS) :=
  if x3 = 0 then
    some ((-1), S)
  else
    some ((-2), S)
def f_X12_sure_L19 : Nat → Int32 → Int32 → Int32 → zS → Option (Int32 × zS)
  | 0, _, _, _, _ => none
  | n + 1, x1, x3, x4, S =>
    if x4 < 5 then
      if (0 : Int32) < x3 then
        if zin ((5 * x1) + x4) 25 then
        if (S.1 35 ((5 * x1) + x4).toNatClampNeg) = x3 then
          some (x4, S)
        else
          zlet (x4 + 1) fun v5 =>
          (f_X12_sure_L19 n) x1 x3 v5 S else none
      else
        f_X12_sure_B53 x3 S
    else
      f_X12_sure_B53 x3 S
def f_X12_sure (x1 : Int32) (x2 : Int32) (S : zS) : Option (Int32 × zS) :=
  zb (f_X12_isFirst x1 S) fun r3 T2 =>
  if r3 = 0 then
    some ((-1), T2)
  else
    zb (f_X12_layOrders x2 T2) fun r7 T6 =>
    f_X12_sure_L19 zN x1 r7 0 T6
set_option maxRecDepth 100000 in
theorem w_X12_sure_B53 (l : Launch) {r : Int32} {S1 : zS} (x3 : Int32) (S : zS) (h : f_X12_sure_B53 x3 S = some (r, S1)) : WA zLM l RX12 cX12_sure 5 (some .int) 4 (some (.int r)) S1 53 [(3, .int x3)] [] S := by
  unfold f_X12_sure_B53 at h
  refine z_iload_n (pc := 53) (q := 0) dX12_sure_53 rfl rfl ?_
  refine z_if_ne (pc := 54) (tgt := 61) dX12_sure_54 (by decide) (fun c1 => ?_) (fun c1 => ?_)
  · have h := ze_some c1 h
    refine z_bipush (pc := 61) (v := (-2)) dX12_sure_61 zcb_m2 ?_
    obtain ⟨rfl, rfl⟩ := zr_some h
    exact z_iret dX12_sure_63
  · have h := zt_some c1 h
    refine z_iconst (pc := 57) (v := (-1)) dX12_sure_57 zci_m1 ?_
    refine z_goto (pc := 58) (tgt := 63) dX12_sure_58 (by decide) ?_
    obtain ⟨rfl, rfl⟩ := zr_some h
    exact z_iret dX12_sure_63
set_option maxRecDepth 100000 in
theorem w_X12_sure_L19 (l : Launch) {r : Int32} {S1 : zS} : ∀ (n : Nat) (x1 : Int32) (x3 : Int32) (x4 : Int32) (S : zS), f_X12_sure_L19 n x1 x3 x4 S = some (r, S1) → WA zLM l RX12 cX12_sure 5 (some .int) 4 (some (.int r)) S1 19 [(0, .ref 0), (1, .int x1), (3, .int x3), (4, .int x4)] [] S := by
  intro n
  induction n with
  | zero =>
    intro x1 x3 x4 S h
    exact nomatch h
  | succ n ih =>
    intro x1 x3 x4 S h
    rw [f_X12_sure_L19] at h
    refine z_iload (pc := 19) (q := 3) dX12_sure_19 rfl ?_
    refine z_iconst (pc := 21) (v := 5) dX12_sure_21 zci_5 ?_
    refine z_icmp_ge (pc := 22) (tgt := 53) dX12_sure_22 (by decide) (fun c1 => ?_) (fun c1 => ?_)
    · have h := ze_some c1 h
      exact z_sub [2] rfl (w_X12_sure_B53 l x3 S h)
    · have h := zt_some c1 h
      refine z_iload_n (pc := 25) (q := 2) dX12_sure_25 rfl rfl ?_
      refine z_if_le (pc := 26) (tgt := 53) dX12_sure_26 (by decide) (fun c2 => ?_) (fun c2 => ?_)
      · have h := ze_some c2 h
        exact z_sub [2] rfl (w_X12_sure_B53 l x3 S h)
      · have h := zt_some c2 h
        refine z_aload_n (pc := 29) (q := 0) dX12_sure_29 rfl rfl ?_
        refine z_getR (pc := 30) dX12_sure_30 zf_X12_124 gM_0_76 ?_
        refine z_iconst (pc := 33) (v := 5) dX12_sure_33 zci_5 ?_
        refine z_iload_n (pc := 34) (q := 1) dX12_sure_34 rfl rfl ?_
        refine z_imul (pc := 35) dX12_sure_35 ?_
        refine z_iload (pc := 36) (q := 3) dX12_sure_36 rfl ?_
        refine z_iadd (pc := 38) dX12_sure_38 ?_
        obtain ⟨c3, h⟩ := zg_some h
        refine z_iald (pc := 39) dX12_sure_39 aM_35 c3 ?_
        refine z_iload_n (pc := 40) (q := 2) dX12_sure_40 rfl rfl ?_
        refine z_icmp_ne (pc := 41) (tgt := 47) dX12_sure_41 (by decide) (fun c4 => ?_) (fun c4 => ?_)
        · have h := ze_some c4 h
          obtain ⟨v5, ev5, h⟩ := zl_some h
          refine z_iinc (pc := 47) (q := 3) (v := v5) (lo' := [(4, .int v5), (0, .ref 0), (1, .int x1), (3, .int x3)]) dX12_sure_47 rfl (by rw [ev5, zci_1]) (by decide) rfl ?_
          refine z_goto (pc := 50) (tgt := 19) dX12_sure_50 (by decide) ?_
          exact z_sub [1, 2, 3, 0] rfl (ih x1 x3 v5 S h)
        · have h := zt_some c4 h
          refine z_iload (pc := 44) (q := 3) dX12_sure_44 rfl ?_
          obtain ⟨rfl, rfl⟩ := zr_some h
          exact z_iret dX12_sure_46
set_option maxRecDepth 100000 in
theorem w_X12_sure (l : Launch) {x1 : Int32} {x2 : Int32} {S : zS} {r : Int32} {S1 : zS} (h : f_X12_sure x1 x2 S = some (r, S1)) : zMet zLM l yX12_sure cX12_sure 5 (some .int) 4 [.ref 0, .int x1, .int x2] S (some (.int r)) S1 := by
  unfold f_X12_sure at h
  refine zMet.of (by decide +kernel) (Nat.le_of_ble_eq_true rfl) ?_
  show WA zLM l RX12 cX12_sure 5 (some .int) 4 (some (.int r)) S1 0 [(0, .ref 0), (1, .int x1), (2, .int x2)] [] S
  refine z_aload_n (pc := 0) (q := 0) dX12_sure_0 rfl rfl ?_
  refine z_iload_n (pc := 1) (q := 1) dX12_sure_1 rfl rfl ?_
  obtain ⟨r3, T2, q1, h⟩ := zb_some h
  refine z_callVi (pc := 2) (st := []) [.int x1] dX12_sure_2 zm_X12_570 zM_X12_isFirst (by decide) oM_0 rfl (w_X12_isFirst l q1) rfl rfl (Nat.le_of_ble_eq_true rfl) ?_
  refine z_if_ne (pc := 5) (tgt := 10) dX12_sure_5 (by decide) (fun c4 => ?_) (fun c4 => ?_)
  · have h := ze_some c4 h
    refine z_aload_n (pc := 10) (q := 0) dX12_sure_10 rfl rfl ?_
    refine z_iload_n (pc := 11) (q := 2) dX12_sure_11 rfl rfl ?_
    obtain ⟨r7, T6, q5, h⟩ := zb_some h
    refine z_callVi (pc := 12) (st := []) [.int x2] dX12_sure_12 zm_X12_589 zM_X12_layOrders (by decide) oM_0 rfl (w_X12_layOrders l q5) rfl rfl (Nat.le_of_ble_eq_true rfl) ?_
    refine z_istore_n (pc := 15) (lo' := [(3, .int r7), (0, .ref 0), (1, .int x1), (2, .int x2)]) dX12_sure_15 rfl (by decide) rfl ?_
    refine z_iconst (pc := 16) (v := 0) dX12_sure_16 zci_0 ?_
    refine z_istore (pc := 17) (lo' := [(4, .int 0), (3, .int r7), (0, .ref 0), (1, .int x1), (2, .int x2)]) dX12_sure_17 (by decide) rfl ?_
    exact z_sub [2, 3, 1, 0] rfl (w_X12_sure_L19 l zN x1 r7 0 T6 h)
  · have h := zt_some c4 h
    refine z_iconst (pc := 8) (v := (-1)) dX12_sure_8 zci_m1 ?_
    obtain ⟨rfl, rfl⟩ := zr_some h
    exact z_iret dX12_sure_9
def f_X12_ask_L34 : Nat → Int32 → Int32 → Int32 → zS → Option (Int32 × zS)
  | 0, _, _, _, _ => none
  | n + 1, x1, x4, x5, S =>
    zb (f_X12_firstBills S) fun r3 T2 =>
    if x5 < r3 then
      zb (f_X12_mostOf x5 T2) fun r7 T6 =>
      zb (f_X12_mostOf x4 T6) fun r10 T9 =>
      if r7 < r10 then
        zlet (x5 + 1) fun v12 =>
        (f_X12_ask_L34 n) x1 x5 v12 T9
      else
        zlet (x5 + 1) fun v12 =>
        (f_X12_ask_L34 n) x1 x4 v12 T9
    else
      if x1 = 0 then
        some (x4, T2)
      else
        zb (f_X12_mostOf x4 T2) fun r8 T7 =>
        some (r8, T7)
def f_X12_ask (x1 : Int32) (x2 : Int32) (S : zS) : Option (Int32 × zS) :=
  zb (f_X12_layOrders x2 S) fun r3 T2 =>
  zb (f_X12_isIn x1 0 1 T2) fun r6 T5 =>
  if r6 = 0 then
    some ((-1), T5)
  else
    if r3 = 0 then
      some ((-1), T5)
    else
      zb (f_X12_firstBills T5) fun r11 T10 =>
      if r11 = 0 then
        some ((-1), T10)
      else
        f_X12_ask_L34 zN x1 0 1 T10
set_option maxRecDepth 100000 in
theorem w_X12_ask_L34 (l : Launch) {r : Int32} {S1 : zS} : ∀ (n : Nat) (x1 : Int32) (x4 : Int32) (x5 : Int32) (S : zS), f_X12_ask_L34 n x1 x4 x5 S = some (r, S1) → WA zLM l RX12 cX12_ask 6 (some .int) 4 (some (.int r)) S1 34 [(0, .ref 0), (1, .int x1), (4, .int x4), (5, .int x5)] [] S := by
  intro n
  induction n with
  | zero =>
    intro x1 x4 x5 S h
    exact nomatch h
  | succ n ih =>
    intro x1 x4 x5 S h
    rw [f_X12_ask_L34] at h
    refine z_iload (pc := 34) (q := 3) dX12_ask_34 rfl ?_
    refine z_aload_n (pc := 36) (q := 0) dX12_ask_36 rfl rfl ?_
    obtain ⟨r3, T2, q1, h⟩ := zb_some h
    refine z_callVi (pc := 37) (st := [.int x5]) [] dX12_ask_37 zm_X12_567 zM_X12_firstBills (by decide) oM_0 rfl (w_X12_firstBills l q1) rfl rfl (Nat.le_of_ble_eq_true rfl) ?_
    refine z_icmp_ge (pc := 40) (tgt := 73) dX12_ask_40 (by decide) (fun c4 => ?_) (fun c4 => ?_)
    · have h := ze_some c4 h
      refine z_iload_n (pc := 73) (q := 1) dX12_ask_73 rfl rfl ?_
      refine z_if_ne (pc := 74) (tgt := 82) dX12_ask_74 (by decide) (fun c5 => ?_) (fun c5 => ?_)
      · have h := ze_some c5 h
        refine z_aload_n (pc := 82) (q := 0) dX12_ask_82 rfl rfl ?_
        refine z_iload (pc := 83) (q := 2) dX12_ask_83 rfl ?_
        obtain ⟨r8, T7, q6, h⟩ := zb_some h
        refine z_callVi (pc := 85) (st := []) [.int x4] dX12_ask_85 zm_X12_592 zM_X12_mostOf (by decide) oM_0 rfl (w_X12_mostOf l q6) rfl rfl (Nat.le_of_ble_eq_true rfl) ?_
        obtain ⟨rfl, rfl⟩ := zr_some h
        exact z_iret dX12_ask_88
      · have h := zt_some c5 h
        refine z_iload (pc := 77) (q := 2) dX12_ask_77 rfl ?_
        refine z_goto (pc := 79) (tgt := 88) dX12_ask_79 (by decide) ?_
        obtain ⟨rfl, rfl⟩ := zr_some h
        exact z_iret dX12_ask_88
    · have h := zt_some c4 h
      refine z_aload_n (pc := 43) (q := 0) dX12_ask_43 rfl rfl ?_
      refine z_iload (pc := 44) (q := 3) dX12_ask_44 rfl ?_
      obtain ⟨r7, T6, q5, h⟩ := zb_some h
      refine z_callVi (pc := 46) (st := []) [.int x5] dX12_ask_46 zm_X12_592 zM_X12_mostOf (by decide) oM_0 rfl (w_X12_mostOf l q5) rfl rfl (Nat.le_of_ble_eq_true rfl) ?_
      refine z_aload_n (pc := 49) (q := 0) dX12_ask_49 rfl rfl ?_
      refine z_iload (pc := 50) (q := 2) dX12_ask_50 rfl ?_
      obtain ⟨r10, T9, q8, h⟩ := zb_some h
      refine z_callVi (pc := 52) (st := [.int r7]) [.int x4] dX12_ask_52 zm_X12_592 zM_X12_mostOf (by decide) oM_0 rfl (w_X12_mostOf l q8) rfl rfl (Nat.le_of_ble_eq_true rfl) ?_
      refine z_icmp_ge (pc := 55) (tgt := 63) dX12_ask_55 (by decide) (fun c11 => ?_) (fun c11 => ?_)
      · have h := ze_some c11 h
        refine z_iload (pc := 63) (q := 2) dX12_ask_63 rfl ?_
        refine z_istore (pc := 65) (lo' := [(4, .int x4), (0, .ref 0), (1, .int x1), (5, .int x5)]) dX12_ask_65 (by decide) rfl ?_
        obtain ⟨v12, ev12, h⟩ := zl_some h
        refine z_iinc (pc := 67) (q := 3) (v := v12) (lo' := [(5, .int v12), (4, .int x4), (0, .ref 0), (1, .int x1)]) dX12_ask_67 rfl (by rw [ev12, zci_1]) (by decide) rfl ?_
        refine z_goto (pc := 70) (tgt := 34) dX12_ask_70 (by decide) ?_
        exact z_sub [2, 3, 1, 0] rfl (ih x1 x4 v12 T9 h)
      · have h := zt_some c11 h
        refine z_iload (pc := 58) (q := 3) dX12_ask_58 rfl ?_
        refine z_goto (pc := 60) (tgt := 65) dX12_ask_60 (by decide) ?_
        refine z_istore (pc := 65) (lo' := [(4, .int x5), (0, .ref 0), (1, .int x1), (5, .int x5)]) dX12_ask_65 (by decide) rfl ?_
        obtain ⟨v12, ev12, h⟩ := zl_some h
        refine z_iinc (pc := 67) (q := 3) (v := v12) (lo' := [(5, .int v12), (4, .int x5), (0, .ref 0), (1, .int x1)]) dX12_ask_67 rfl (by rw [ev12, zci_1]) (by decide) rfl ?_
        refine z_goto (pc := 70) (tgt := 34) dX12_ask_70 (by decide) ?_
        exact z_sub [2, 3, 1, 0] rfl (ih x1 x5 v12 T9 h)
set_option maxRecDepth 100000 in
theorem w_X12_ask (l : Launch) {x1 : Int32} {x2 : Int32} {S : zS} {r : Int32} {S1 : zS} (h : f_X12_ask x1 x2 S = some (r, S1)) : zMet zLM l yX12_ask cX12_ask 6 (some .int) 4 [.ref 0, .int x1, .int x2] S (some (.int r)) S1 := by
  unfold f_X12_ask at h
  refine zMet.of (by decide +kernel) (Nat.le_of_ble_eq_true rfl) ?_
  show WA zLM l RX12 cX12_ask 6 (some .int) 4 (some (.int r)) S1 0 [(0, .ref 0), (1, .int x1), (2, .int x2)] [] S
  refine z_aload_n (pc := 0) (q := 0) dX12_ask_0 rfl rfl ?_
  refine z_iload_n (pc := 1) (q := 2) dX12_ask_1 rfl rfl ?_
  obtain ⟨r3, T2, q1, h⟩ := zb_some h
  refine z_callVi (pc := 2) (st := []) [.int x2] dX12_ask_2 zm_X12_589 zM_X12_layOrders (by decide) oM_0 rfl (w_X12_layOrders l q1) rfl rfl (Nat.le_of_ble_eq_true rfl) ?_
  refine z_istore_n (pc := 5) (lo' := [(3, .int r3), (0, .ref 0), (1, .int x1), (2, .int x2)]) dX12_ask_5 rfl (by decide) rfl ?_
  refine z_iload_n (pc := 6) (q := 2) dX12_ask_6 rfl rfl ?_
  refine z_iconst (pc := 7) (v := 0) dX12_ask_7 zci_0 ?_
  refine z_iconst (pc := 8) (v := 1) dX12_ask_8 zci_1 ?_
  obtain ⟨r6, T5, q4, h⟩ := zb_some h
  refine z_callSi (pc := 9) (st := []) [.int x1, .int 0, .int 1] dX12_ask_9 zm_X12_422 zM_X12_isIn (by decide) (w_X12_isIn l q4) rfl rfl (Nat.le_of_ble_eq_true rfl) ?_
  refine z_if_eq (pc := 12) (tgt := 26) dX12_ask_12 (by decide) (fun c7 => ?_) (fun c7 => ?_)
  · have h := zt_some c7 h
    refine z_iconst (pc := 26) (v := (-1)) dX12_ask_26 zci_m1 ?_
    obtain ⟨rfl, rfl⟩ := zr_some h
    exact z_iret dX12_ask_27
  · have h := ze_some c7 h
    refine z_iload_n (pc := 15) (q := 0) dX12_ask_15 rfl rfl ?_
    refine z_if_eq (pc := 16) (tgt := 26) dX12_ask_16 (by decide) (fun c8 => ?_) (fun c8 => ?_)
    · have h := zt_some c8 h
      refine z_iconst (pc := 26) (v := (-1)) dX12_ask_26 zci_m1 ?_
      obtain ⟨rfl, rfl⟩ := zr_some h
      exact z_iret dX12_ask_27
    · have h := ze_some c8 h
      refine z_aload_n (pc := 19) (q := 1) dX12_ask_19 rfl rfl ?_
      obtain ⟨r11, T10, q9, h⟩ := zb_some h
      refine z_callVi (pc := 20) (st := []) [] dX12_ask_20 zm_X12_567 zM_X12_firstBills (by decide) oM_0 rfl (w_X12_firstBills l q9) rfl rfl (Nat.le_of_ble_eq_true rfl) ?_
      refine z_if_ne (pc := 23) (tgt := 28) dX12_ask_23 (by decide) (fun c12 => ?_) (fun c12 => ?_)
      · have h := ze_some c12 h
        refine z_iconst (pc := 28) (v := 0) dX12_ask_28 zci_0 ?_
        refine z_istore (pc := 29) (lo' := [(4, .int 0), (3, .int r3), (0, .ref 0), (1, .int x1), (2, .int x2)]) dX12_ask_29 (by decide) rfl ?_
        refine z_iconst (pc := 31) (v := 1) dX12_ask_31 zci_1 ?_
        refine z_istore (pc := 32) (lo' := [(5, .int 1), (4, .int 0), (3, .int r3), (0, .ref 0), (1, .int x1), (2, .int x2)]) dX12_ask_32 (by decide) rfl ?_
        exact z_sub [3, 4, 1, 0] rfl (w_X12_ask_L34 l zN x1 0 1 T10 h)
      · have h := zt_some c12 h
        refine z_iconst (pc := 26) (v := (-1)) dX12_ask_26 zci_m1 ?_
        obtain ⟨rfl, rfl⟩ := zr_some h
        exact z_iret dX12_ask_27
def f_X12_isBox (x0 : Int32) (S : zS) : Option (Int32 × zS) :=
  if x0 < 0 then
    some (0, S)
  else
    if x0 < 3 then
      some (1, S)
    else
      some (0, S)
set_option maxRecDepth 100000 in
theorem w_X12_isBox (l : Launch) {x0 : Int32} {S : zS} {r : Int32} {S1 : zS} (h : f_X12_isBox x0 S = some (r, S1)) : zMet zLM l yX12_isBox cX12_isBox 1 (some .boolean) 1 [.int x0] S (some (.int r)) S1 := by
  unfold f_X12_isBox at h
  refine zMet.of (by decide +kernel) (Nat.le_of_ble_eq_true rfl) ?_
  show WA zLM l RX12 cX12_isBox 1 (some .boolean) 1 (some (.int r)) S1 0 [(0, .int x0)] [] S
  refine z_iload_n (pc := 0) (q := 0) dX12_isBox_0 rfl rfl ?_
  refine z_if_lt (pc := 1) (tgt := 13) dX12_isBox_1 (by decide) (fun c1 => ?_) (fun c1 => ?_)
  · have h := zt_some c1 h
    refine z_iconst (pc := 13) (v := 0) dX12_isBox_13 zci_0 ?_
    obtain ⟨rfl, rfl⟩ := zr_some h
    exact z_zret dX12_isBox_14 rfl
  · have h := ze_some c1 h
    refine z_iload_n (pc := 4) (q := 0) dX12_isBox_4 rfl rfl ?_
    refine z_iconst (pc := 5) (v := 3) dX12_isBox_5 zci_3 ?_
    refine z_icmp_ge (pc := 6) (tgt := 13) dX12_isBox_6 (by decide) (fun c2 => ?_) (fun c2 => ?_)
    · have h := ze_some c2 h
      refine z_iconst (pc := 13) (v := 0) dX12_isBox_13 zci_0 ?_
      obtain ⟨rfl, rfl⟩ := zr_some h
      exact z_zret dX12_isBox_14 rfl
    · have h := zt_some c2 h
      refine z_iconst (pc := 9) (v := 1) dX12_isBox_9 zci_1 ?_
      refine z_goto (pc := 10) (tgt := 14) dX12_isBox_10 (by decide) ?_
      obtain ⟨rfl, rfl⟩ := zr_some h
      exact z_zret dX12_isBox_14 rfl
def f_X12_image_L18 : Nat → Int32 → Int32 → zS → Option (Int32 × zS)
  | 0, _, _, _ => none
  | n + 1, x1, x2, S =>
    if x2 < 99 then
      if zin x2 99 then
      if zin ((99 * x1) + x2) 297 then
      zlet (zput S 37 ((99 * x1) + x2).toNatClampNeg (S.1 19 x2.toNatClampNeg)) fun T4 =>
      zlet (x2 + 1) fun v5 =>
      (f_X12_image_L18 n) x1 v5 T4 else none else none
    else
      some (S.1 19 (Int32.toNatClampNeg 97), S)
def f_X12_image (x1 : Int32) (S : zS) : Option (Int32 × zS) :=
  zb (f_X12_isBox x1 S) fun r3 T2 =>
  if r3 = 0 then
    some ((-1), T2)
  else
    if zin x1 3 then
    zlet (zput T2 36 x1.toNatClampNeg (vp_nar .boolean 1)) fun T6 =>
    f_X12_image_L18 zN x1 0 T6 else none
set_option maxRecDepth 100000 in
theorem w_X12_image_L18 (l : Launch) {r : Int32} {S1 : zS} : ∀ (n : Nat) (x1 : Int32) (x2 : Int32) (S : zS), f_X12_image_L18 n x1 x2 S = some (r, S1) → WA zLM l RX12 cX12_image 3 (some .int) 2 (some (.int r)) S1 18 [(0, .ref 0), (1, .int x1), (2, .int x2)] [] S := by
  intro n
  induction n with
  | zero =>
    intro x1 x2 S h
    exact nomatch h
  | succ n ih =>
    intro x1 x2 S h
    rw [f_X12_image_L18] at h
    refine z_iload_n (pc := 18) (q := 2) dX12_image_18 rfl rfl ?_
    refine z_bipush (pc := 19) (v := 99) dX12_image_19 zcb_99 ?_
    refine z_icmp_ge (pc := 21) (tgt := 47) dX12_image_21 (by decide) (fun c1 => ?_) (fun c1 => ?_)
    · have h := ze_some c1 h
      refine z_aload_n (pc := 47) (q := 0) dX12_image_47 rfl rfl ?_
      refine z_getR (pc := 48) dX12_image_48 zf_X12_76 gM_0_53 ?_
      refine z_bipush (pc := 51) (v := 97) dX12_image_51 zcb_97 ?_
      refine z_iald (pc := 53) dX12_image_53 aM_19 (by decide) ?_
      obtain ⟨rfl, rfl⟩ := zr_some h
      exact z_iret dX12_image_54
    · have h := zt_some c1 h
      refine z_aload_n (pc := 24) (q := 0) dX12_image_24 rfl rfl ?_
      refine z_getR (pc := 25) dX12_image_25 zf_X12_130 gM_0_78 ?_
      refine z_bipush (pc := 28) (v := 99) dX12_image_28 zcb_99 ?_
      refine z_iload_n (pc := 30) (q := 1) dX12_image_30 rfl rfl ?_
      refine z_imul (pc := 31) dX12_image_31 ?_
      refine z_iload_n (pc := 32) (q := 2) dX12_image_32 rfl rfl ?_
      refine z_iadd (pc := 33) dX12_image_33 ?_
      refine z_aload_n (pc := 34) (q := 0) dX12_image_34 rfl rfl ?_
      refine z_getR (pc := 35) dX12_image_35 zf_X12_76 gM_0_53 ?_
      refine z_iload_n (pc := 38) (q := 2) dX12_image_38 rfl rfl ?_
      obtain ⟨c2, h⟩ := zg_some h
      refine z_iald (pc := 39) dX12_image_39 aM_19 c2 ?_
      obtain ⟨c3, h⟩ := zg_some h
      obtain ⟨T4, eT4, h⟩ := zl_some h
      refine z_iast (pc := 40) dX12_image_40 aM_37 c3 eT4 ?_
      obtain ⟨v5, ev5, h⟩ := zl_some h
      refine z_iinc (pc := 41) (q := 2) (v := v5) (lo' := [(2, .int v5), (0, .ref 0), (1, .int x1)]) dX12_image_41 rfl (by rw [ev5, zci_1]) (by decide) rfl ?_
      refine z_goto (pc := 44) (tgt := 18) dX12_image_44 (by decide) ?_
      exact z_sub [1, 2, 0] rfl (ih x1 v5 T4 h)
set_option maxRecDepth 100000 in
theorem w_X12_image (l : Launch) {x1 : Int32} {S : zS} {r : Int32} {S1 : zS} (h : f_X12_image x1 S = some (r, S1)) : zMet zLM l yX12_image cX12_image 3 (some .int) 2 [.ref 0, .int x1] S (some (.int r)) S1 := by
  unfold f_X12_image at h
  refine zMet.of (by decide +kernel) (Nat.le_of_ble_eq_true rfl) ?_
  show WA zLM l RX12 cX12_image 3 (some .int) 2 (some (.int r)) S1 0 [(0, .ref 0), (1, .int x1)] [] S
  refine z_iload_n (pc := 0) (q := 1) dX12_image_0 rfl rfl ?_
  obtain ⟨r3, T2, q1, h⟩ := zb_some h
  refine z_callSi (pc := 1) (st := []) [.int x1] dX12_image_1 zm_X12_595 zM_X12_isBox (by decide) (w_X12_isBox l q1) rfl rfl (Nat.le_of_ble_eq_true rfl) ?_
  refine z_if_ne (pc := 4) (tgt := 9) dX12_image_4 (by decide) (fun c4 => ?_) (fun c4 => ?_)
  · have h := ze_some c4 h
    refine z_aload_n (pc := 9) (q := 0) dX12_image_9 rfl rfl ?_
    refine z_getR (pc := 10) dX12_image_10 zf_X12_127 gM_0_77 ?_
    refine z_iload_n (pc := 13) (q := 1) dX12_image_13 rfl rfl ?_
    refine z_iconst (pc := 14) (v := 1) dX12_image_14 zci_1 ?_
    obtain ⟨c5, h⟩ := zg_some h
    obtain ⟨T6, eT6, h⟩ := zl_some h
    refine z_zast (pc := 15) dX12_image_15 aM_36 c5 eT6 ?_
    refine z_iconst (pc := 16) (v := 0) dX12_image_16 zci_0 ?_
    refine z_istore_n (pc := 17) (lo' := [(2, .int 0), (0, .ref 0), (1, .int x1)]) dX12_image_17 rfl (by decide) rfl ?_
    exact z_sub [1, 2, 0] rfl (w_X12_image_L18 l zN x1 0 T6 h)
  · have h := zt_some c4 h
    refine z_iconst (pc := 7) (v := (-1)) dX12_image_7 zci_m1 ?_
    obtain ⟨rfl, rfl⟩ := zr_some h
    exact z_iret dX12_image_8
def f_X12_back_L20 : Nat → Int32 → Int32 → zS → Option (Int32 × zS)
  | 0, _, _, _ => none
  | n + 1, x1, x2, S =>
    if x2 < 99 then
      if zin ((99 * x1) + x2) 297 then
      if zin x2 99 then
      zlet (zput S 19 x2.toNatClampNeg (S.1 37 ((99 * x1) + x2).toNatClampNeg)) fun T4 =>
      zlet (x2 + 1) fun v5 =>
      (f_X12_back_L20 n) x1 v5 T4 else none else none
    else
      zlet (zput S 0 56 0) fun T2 =>
      zlet (zput T2 0 57 0) fun T3 =>
      some (T3.1 19 (Int32.toNatClampNeg 97), T3)
def f_X12_back (x1 : Int32) (S : zS) : Option (Int32 × zS) :=
  zb (f_X12_isBox x1 S) fun r3 T2 =>
  if r3 = 0 then
    some ((-1), T2)
  else
    if zin x1 3 then
    if (T2.1 36 x1.toNatClampNeg) = 0 then
      some ((-1), T2)
    else
      f_X12_back_L20 zN x1 0 T2 else none
set_option maxRecDepth 100000 in
theorem w_X12_back_L20 (l : Launch) {r : Int32} {S1 : zS} : ∀ (n : Nat) (x1 : Int32) (x2 : Int32) (S : zS), f_X12_back_L20 n x1 x2 S = some (r, S1) → WA zLM l RX12 cX12_back 3 (some .int) 2 (some (.int r)) S1 20 [(0, .ref 0), (1, .int x1), (2, .int x2)] [] S := by
  intro n
  induction n with
  | zero =>
    intro x1 x2 S h
    exact nomatch h
  | succ n ih =>
    intro x1 x2 S h
    rw [f_X12_back_L20] at h
    refine z_iload_n (pc := 20) (q := 2) dX12_back_20 rfl rfl ?_
    refine z_bipush (pc := 21) (v := 99) dX12_back_21 zcb_99 ?_
    refine z_icmp_ge (pc := 23) (tgt := 49) dX12_back_23 (by decide) (fun c1 => ?_) (fun c1 => ?_)
    · have h := ze_some c1 h
      refine z_aload_n (pc := 49) (q := 0) dX12_back_49 rfl rfl ?_
      refine z_iconst (pc := 50) (v := 0) dX12_back_50 zci_0 ?_
      obtain ⟨T2, eT2, h⟩ := zl_some h
      refine z_putI (pc := 51) dX12_back_51 zp_X12_410 gM_0_56 rfl rfl eT2 ?_
      refine z_aload_n (pc := 54) (q := 0) dX12_back_54 rfl rfl ?_
      refine z_iconst (pc := 55) (v := 0) dX12_back_55 zci_0 ?_
      obtain ⟨T3, eT3, h⟩ := zl_some h
      refine z_putI (pc := 56) dX12_back_56 zp_X12_413 gM_0_57 rfl rfl eT3 ?_
      refine z_aload_n (pc := 59) (q := 0) dX12_back_59 rfl rfl ?_
      refine z_getR (pc := 60) dX12_back_60 zf_X12_76 gM_0_53 ?_
      refine z_bipush (pc := 63) (v := 97) dX12_back_63 zcb_97 ?_
      refine z_iald (pc := 65) dX12_back_65 aM_19 (by decide) ?_
      obtain ⟨rfl, rfl⟩ := zr_some h
      exact z_iret dX12_back_66
    · have h := zt_some c1 h
      refine z_aload_n (pc := 26) (q := 0) dX12_back_26 rfl rfl ?_
      refine z_getR (pc := 27) dX12_back_27 zf_X12_76 gM_0_53 ?_
      refine z_iload_n (pc := 30) (q := 2) dX12_back_30 rfl rfl ?_
      refine z_aload_n (pc := 31) (q := 0) dX12_back_31 rfl rfl ?_
      refine z_getR (pc := 32) dX12_back_32 zf_X12_130 gM_0_78 ?_
      refine z_bipush (pc := 35) (v := 99) dX12_back_35 zcb_99 ?_
      refine z_iload_n (pc := 37) (q := 1) dX12_back_37 rfl rfl ?_
      refine z_imul (pc := 38) dX12_back_38 ?_
      refine z_iload_n (pc := 39) (q := 2) dX12_back_39 rfl rfl ?_
      refine z_iadd (pc := 40) dX12_back_40 ?_
      obtain ⟨c2, h⟩ := zg_some h
      refine z_iald (pc := 41) dX12_back_41 aM_37 c2 ?_
      obtain ⟨c3, h⟩ := zg_some h
      obtain ⟨T4, eT4, h⟩ := zl_some h
      refine z_iast (pc := 42) dX12_back_42 aM_19 c3 eT4 ?_
      obtain ⟨v5, ev5, h⟩ := zl_some h
      refine z_iinc (pc := 43) (q := 2) (v := v5) (lo' := [(2, .int v5), (0, .ref 0), (1, .int x1)]) dX12_back_43 rfl (by rw [ev5, zci_1]) (by decide) rfl ?_
      refine z_goto (pc := 46) (tgt := 20) dX12_back_46 (by decide) ?_
      exact z_sub [1, 2, 0] rfl (ih x1 v5 T4 h)
set_option maxRecDepth 100000 in
theorem w_X12_back (l : Launch) {x1 : Int32} {S : zS} {r : Int32} {S1 : zS} (h : f_X12_back x1 S = some (r, S1)) : zMet zLM l yX12_back cX12_back 3 (some .int) 2 [.ref 0, .int x1] S (some (.int r)) S1 := by
  unfold f_X12_back at h
  refine zMet.of (by decide +kernel) (Nat.le_of_ble_eq_true rfl) ?_
  show WA zLM l RX12 cX12_back 3 (some .int) 2 (some (.int r)) S1 0 [(0, .ref 0), (1, .int x1)] [] S
  refine z_iload_n (pc := 0) (q := 1) dX12_back_0 rfl rfl ?_
  obtain ⟨r3, T2, q1, h⟩ := zb_some h
  refine z_callSi (pc := 1) (st := []) [.int x1] dX12_back_1 zm_X12_595 zM_X12_isBox (by decide) (w_X12_isBox l q1) rfl rfl (Nat.le_of_ble_eq_true rfl) ?_
  refine z_if_eq (pc := 4) (tgt := 16) dX12_back_4 (by decide) (fun c4 => ?_) (fun c4 => ?_)
  · have h := zt_some c4 h
    refine z_iconst (pc := 16) (v := (-1)) dX12_back_16 zci_m1 ?_
    obtain ⟨rfl, rfl⟩ := zr_some h
    exact z_iret dX12_back_17
  · have h := ze_some c4 h
    refine z_aload_n (pc := 7) (q := 0) dX12_back_7 rfl rfl ?_
    refine z_getR (pc := 8) dX12_back_8 zf_X12_127 gM_0_77 ?_
    refine z_iload_n (pc := 11) (q := 1) dX12_back_11 rfl rfl ?_
    obtain ⟨c5, h⟩ := zg_some h
    refine z_zald (pc := 12) dX12_back_12 aM_36 c5 ?_
    refine z_if_ne (pc := 13) (tgt := 18) dX12_back_13 (by decide) (fun c6 => ?_) (fun c6 => ?_)
    · have h := ze_some c6 h
      refine z_iconst (pc := 18) (v := 0) dX12_back_18 zci_0 ?_
      refine z_istore_n (pc := 19) (lo' := [(2, .int 0), (0, .ref 0), (1, .int x1)]) dX12_back_19 rfl (by decide) rfl ?_
      exact z_sub [1, 2, 0] rfl (w_X12_back_L20 l zN x1 0 T2 h)
    · have h := zt_some c6 h
      refine z_iconst (pc := 16) (v := (-1)) dX12_back_16 zci_m1 ?_
      obtain ⟨rfl, rfl⟩ := zr_some h
      exact z_iret dX12_back_17
def f_X12_allLife_L4 : Nat → Int32 → Int32 → zS → Option (Int32 × zS)
  | 0, _, _, _ => none
  | n + 1, x1, x2, S =>
    if x2 < (S.1 19 (Int32.toNatClampNeg 96)) then
      if zin ((8 * x2) + 0) 99 then
      zlet (x1 + (S.1 19 ((8 * x2) + 0).toNatClampNeg)) fun v3 =>
      zlet (x2 + 1) fun v4 =>
      (f_X12_allLife_L4 n) v3 v4 S else none
    else
      some (x1, S)
def f_X12_allLife  (S : zS) : Option (Int32 × zS) :=
  f_X12_allLife_L4 zN 0 0 S
set_option maxRecDepth 100000 in
theorem w_X12_allLife_L4 (l : Launch) {r : Int32} {S1 : zS} : ∀ (n : Nat) (x1 : Int32) (x2 : Int32) (S : zS), f_X12_allLife_L4 n x1 x2 S = some (r, S1) → WA zLM l RX12 cX12_allLife 3 (some .int) 1 (some (.int r)) S1 4 [(0, .ref 0), (1, .int x1), (2, .int x2)] [] S := by
  intro n
  induction n with
  | zero =>
    intro x1 x2 S h
    exact nomatch h
  | succ n ih =>
    intro x1 x2 S h
    rw [f_X12_allLife_L4] at h
    refine z_iload_n (pc := 4) (q := 2) dX12_allLife_4 rfl rfl ?_
    refine z_aload_n (pc := 5) (q := 0) dX12_allLife_5 rfl rfl ?_
    refine z_getR (pc := 6) dX12_allLife_6 zf_X12_76 gM_0_53 ?_
    refine z_bipush (pc := 9) (v := 96) dX12_allLife_9 zcb_96 ?_
    refine z_iald (pc := 11) dX12_allLife_11 aM_19 (by decide) ?_
    refine z_icmp_ge (pc := 12) (tgt := 35) dX12_allLife_12 (by decide) (fun c1 => ?_) (fun c1 => ?_)
    · have h := ze_some c1 h
      refine z_iload_n (pc := 35) (q := 1) dX12_allLife_35 rfl rfl ?_
      obtain ⟨rfl, rfl⟩ := zr_some h
      exact z_iret dX12_allLife_36
    · have h := zt_some c1 h
      refine z_iload_n (pc := 15) (q := 1) dX12_allLife_15 rfl rfl ?_
      refine z_aload_n (pc := 16) (q := 0) dX12_allLife_16 rfl rfl ?_
      refine z_getR (pc := 17) dX12_allLife_17 zf_X12_76 gM_0_53 ?_
      refine z_bipush (pc := 20) (v := 8) dX12_allLife_20 zcb_8 ?_
      refine z_iload_n (pc := 22) (q := 2) dX12_allLife_22 rfl rfl ?_
      refine z_imul (pc := 23) dX12_allLife_23 ?_
      refine z_iconst (pc := 24) (v := 0) dX12_allLife_24 zci_0 ?_
      refine z_iadd (pc := 25) dX12_allLife_25 ?_
      obtain ⟨c2, h⟩ := zg_some h
      refine z_iald (pc := 26) dX12_allLife_26 aM_19 c2 ?_
      refine z_iadd (pc := 27) dX12_allLife_27 ?_
      obtain ⟨v3, ev3, h⟩ := zl_some h
      refine z_top ev3 ?_
      refine z_istore_n (pc := 28) (lo' := [(1, .int v3), (0, .ref 0), (2, .int x2)]) dX12_allLife_28 rfl (by decide) rfl ?_
      obtain ⟨v4, ev4, h⟩ := zl_some h
      refine z_iinc (pc := 29) (q := 2) (v := v4) (lo' := [(2, .int v4), (1, .int v3), (0, .ref 0)]) dX12_allLife_29 rfl (by rw [ev4, zci_1]) (by decide) rfl ?_
      refine z_goto (pc := 32) (tgt := 4) dX12_allLife_32 (by decide) ?_
      exact z_sub [2, 1, 0] rfl (ih v3 v4 S h)
set_option maxRecDepth 100000 in
theorem w_X12_allLife (l : Launch)  {S : zS} {r : Int32} {S1 : zS} (h : f_X12_allLife S = some (r, S1)) : zMet zLM l yX12_allLife cX12_allLife 3 (some .int) 1 [.ref 0] S (some (.int r)) S1 := by
  unfold f_X12_allLife at h
  refine zMet.of (by decide +kernel) (Nat.le_of_ble_eq_true rfl) ?_
  show WA zLM l RX12 cX12_allLife 3 (some .int) 1 (some (.int r)) S1 0 [(0, .ref 0)] [] S
  refine z_iconst (pc := 0) (v := 0) dX12_allLife_0 zci_0 ?_
  refine z_istore_n (pc := 1) (lo' := [(1, .int 0), (0, .ref 0)]) dX12_allLife_1 rfl (by decide) rfl ?_
  refine z_iconst (pc := 2) (v := 0) dX12_allLife_2 zci_0 ?_
  refine z_istore_n (pc := 3) (lo' := [(2, .int 0), (1, .int 0), (0, .ref 0)]) dX12_allLife_3 rfl (by decide) rfl ?_
  exact z_sub [2, 1, 0] rfl (w_X12_allLife_L4 l zN 0 0 S h)
def f_X12_about (x1 : Int32) (S : zS) : Option (Int32 × zS) :=
  if x1 = 0 then
    some (S.1 19 (Int32.toNatClampNeg 96), S)
  else
    if x1 = 1 then
      some (S.1 0 42, S)
    else
      if x1 = 2 then
        some (S.1 0 43, S)
      else
        if x1 = 3 then
          some (S.1 0 44, S)
        else
          if x1 = 4 then
            some (S.1 0 45, S)
          else
            if x1 = 5 then
              some (S.1 19 (Int32.toNatClampNeg 97), S)
            else
              if x1 = 6 then
                some (S.1 19 (Int32.toNatClampNeg 98), S)
              else
                if x1 = 7 then
                  zb (f_X12_allLife S) fun r11 T10 =>
                  some (r11, T10)
                else
                  if x1 = 8 then
                    some (S.1 0 56, S)
                  else
                    if x1 = 9 then
                      some (S.1 0 57, S)
                    else
                      if x1 = 10 then
                        some (S.1 0 72, S)
                      else
                        if x1 = 11 then
                          some (S.1 0 73, S)
                        else
                          if x1 = 12 then
                            some (S.1 0 1, S)
                          else
                            if x1 = 13 then
                              some (S.1 0 21, S)
                            else
                              if x1 = 14 then
                                some (S.1 0 60, S)
                              else
                                some ((-1), S)
set_option maxRecDepth 100000 in
theorem w_X12_about (l : Launch) {x1 : Int32} {S : zS} {r : Int32} {S1 : zS} (h : f_X12_about x1 S = some (r, S1)) : zMet zLM l yX12_about cX12_about 2 (some .int) 2 [.ref 0, .int x1] S (some (.int r)) S1 := by
  unfold f_X12_about at h
  refine zMet.of (by decide +kernel) (Nat.le_of_ble_eq_true rfl) ?_
  show WA zLM l RX12 cX12_about 2 (some .int) 2 (some (.int r)) S1 0 [(0, .ref 0), (1, .int x1)] [] S
  refine z_iload_n (pc := 0) (q := 1) dX12_about_0 rfl rfl ?_
  refine z_tsw (pc := 1) 160 [(0, 76), (1, 84), (2, 89), (3, 94), (4, 99), (5, 104), (6, 112), (7, 120), (8, 125), (9, 130), (10, 135), (11, 140), (12, 145), (13, 150), (14, 155)] dX12_about_1 (by decide) (by decide +kernel) (by decide +kernel) ?_
  refine zsw_c (fun c1 => ?_) (fun c1 => ?_)
  · have h := zt_some c1 h
    refine z_aload_n (pc := 76) (q := 0) dX12_about_76 rfl rfl ?_
    refine z_getR (pc := 77) dX12_about_77 zf_X12_76 gM_0_53 ?_
    refine z_bipush (pc := 80) (v := 96) dX12_about_80 zcb_96 ?_
    refine z_iald (pc := 82) dX12_about_82 aM_19 (by decide) ?_
    obtain ⟨rfl, rfl⟩ := zr_some h
    exact z_iret dX12_about_83
  · have h := ze_some c1 h
    refine zsw_c (fun c2 => ?_) (fun c2 => ?_)
    · have h := zt_some c2 h
      refine z_aload_n (pc := 84) (q := 0) dX12_about_84 rfl rfl ?_
      refine z_getI (pc := 85) dX12_about_85 zf_X12_70 gM_0_42 ?_
      obtain ⟨rfl, rfl⟩ := zr_some h
      exact z_iret dX12_about_88
    · have h := ze_some c2 h
      refine zsw_c (fun c3 => ?_) (fun c3 => ?_)
      · have h := zt_some c3 h
        refine z_aload_n (pc := 89) (q := 0) dX12_about_89 rfl rfl ?_
        refine z_getI (pc := 90) dX12_about_90 zf_X12_395 gM_0_43 ?_
        obtain ⟨rfl, rfl⟩ := zr_some h
        exact z_iret dX12_about_93
      · have h := ze_some c3 h
        refine zsw_c (fun c4 => ?_) (fun c4 => ?_)
        · have h := zt_some c4 h
          refine z_aload_n (pc := 94) (q := 0) dX12_about_94 rfl rfl ?_
          refine z_getI (pc := 95) dX12_about_95 zf_X12_398 gM_0_44 ?_
          obtain ⟨rfl, rfl⟩ := zr_some h
          exact z_iret dX12_about_98
        · have h := ze_some c4 h
          refine zsw_c (fun c5 => ?_) (fun c5 => ?_)
          · have h := zt_some c5 h
            refine z_aload_n (pc := 99) (q := 0) dX12_about_99 rfl rfl ?_
            refine z_getI (pc := 100) dX12_about_100 zf_X12_401 gM_0_45 ?_
            obtain ⟨rfl, rfl⟩ := zr_some h
            exact z_iret dX12_about_103
          · have h := ze_some c5 h
            refine zsw_c (fun c6 => ?_) (fun c6 => ?_)
            · have h := zt_some c6 h
              refine z_aload_n (pc := 104) (q := 0) dX12_about_104 rfl rfl ?_
              refine z_getR (pc := 105) dX12_about_105 zf_X12_76 gM_0_53 ?_
              refine z_bipush (pc := 108) (v := 97) dX12_about_108 zcb_97 ?_
              refine z_iald (pc := 110) dX12_about_110 aM_19 (by decide) ?_
              obtain ⟨rfl, rfl⟩ := zr_some h
              exact z_iret dX12_about_111
            · have h := ze_some c6 h
              refine zsw_c (fun c7 => ?_) (fun c7 => ?_)
              · have h := zt_some c7 h
                refine z_aload_n (pc := 112) (q := 0) dX12_about_112 rfl rfl ?_
                refine z_getR (pc := 113) dX12_about_113 zf_X12_76 gM_0_53 ?_
                refine z_bipush (pc := 116) (v := 98) dX12_about_116 zcb_98 ?_
                refine z_iald (pc := 118) dX12_about_118 aM_19 (by decide) ?_
                obtain ⟨rfl, rfl⟩ := zr_some h
                exact z_iret dX12_about_119
              · have h := ze_some c7 h
                refine zsw_c (fun c8 => ?_) (fun c8 => ?_)
                · have h := zt_some c8 h
                  refine z_aload_n (pc := 120) (q := 0) dX12_about_120 rfl rfl ?_
                  obtain ⟨r11, T10, q9, h⟩ := zb_some h
                  refine z_callVi (pc := 121) (st := []) [] dX12_about_121 zm_X12_598 zM_X12_allLife (by decide) oM_0 rfl (w_X12_allLife l q9) rfl rfl (Nat.le_of_ble_eq_true rfl) ?_
                  obtain ⟨rfl, rfl⟩ := zr_some h
                  exact z_iret dX12_about_124
                · have h := ze_some c8 h
                  refine zsw_c (fun c9 => ?_) (fun c9 => ?_)
                  · have h := zt_some c9 h
                    refine z_aload_n (pc := 125) (q := 0) dX12_about_125 rfl rfl ?_
                    refine z_getI (pc := 126) dX12_about_126 zf_X12_410 gM_0_56 ?_
                    obtain ⟨rfl, rfl⟩ := zr_some h
                    exact z_iret dX12_about_129
                  · have h := ze_some c9 h
                    refine zsw_c (fun c10 => ?_) (fun c10 => ?_)
                    · have h := zt_some c10 h
                      refine z_aload_n (pc := 130) (q := 0) dX12_about_130 rfl rfl ?_
                      refine z_getI (pc := 131) dX12_about_131 zf_X12_413 gM_0_57 ?_
                      obtain ⟨rfl, rfl⟩ := zr_some h
                      exact z_iret dX12_about_134
                    · have h := ze_some c10 h
                      refine zsw_c (fun c11 => ?_) (fun c11 => ?_)
                      · have h := zt_some c11 h
                        refine z_aload_n (pc := 135) (q := 0) dX12_about_135 rfl rfl ?_
                        refine z_getI (pc := 136) dX12_about_136 zf_X12_416 gM_0_72 ?_
                        obtain ⟨rfl, rfl⟩ := zr_some h
                        exact z_iret dX12_about_139
                      · have h := ze_some c11 h
                        refine zsw_c (fun c12 => ?_) (fun c12 => ?_)
                        · have h := zt_some c12 h
                          refine z_aload_n (pc := 140) (q := 0) dX12_about_140 rfl rfl ?_
                          refine z_getI (pc := 141) dX12_about_141 zf_X12_573 gM_0_73 ?_
                          obtain ⟨rfl, rfl⟩ := zr_some h
                          exact z_iret dX12_about_144
                        · have h := ze_some c12 h
                          refine zsw_c (fun c13 => ?_) (fun c13 => ?_)
                          · have h := zt_some c13 h
                            refine z_aload_n (pc := 145) (q := 0) dX12_about_145 rfl rfl ?_
                            refine z_getI (pc := 146) dX12_about_146 zf_X12_133 gM_0_1 ?_
                            obtain ⟨rfl, rfl⟩ := zr_some h
                            exact z_iret dX12_about_149
                          · have h := ze_some c13 h
                            refine zsw_c (fun c14 => ?_) (fun c14 => ?_)
                            · have h := zt_some c14 h
                              refine z_aload_n (pc := 150) (q := 0) dX12_about_150 rfl rfl ?_
                              refine z_getI (pc := 151) dX12_about_151 zf_X12_407 gM_0_21 ?_
                              obtain ⟨rfl, rfl⟩ := zr_some h
                              exact z_iret dX12_about_154
                            · have h := ze_some c14 h
                              refine zsw_c (fun c15 => ?_) (fun c15 => ?_)
                              · have h := zt_some c15 h
                                refine z_aload_n (pc := 155) (q := 0) dX12_about_155 rfl rfl ?_
                                refine z_getI (pc := 156) dX12_about_156 zf_X12_419 gM_0_60 ?_
                                obtain ⟨rfl, rfl⟩ := zr_some h
                                exact z_iret dX12_about_159
                              · have h := ze_some c15 h
                                refine zsw_n ?_
                                refine z_iconst (pc := 160) (v := (-1)) dX12_about_160 zci_m1 ?_
                                obtain ⟨rfl, rfl⟩ := zr_some h
                                exact z_iret dX12_about_161
