def f_X2_emit_25 (x1 : Int32) (S : zS) : Option zS :=
  if (S.1 25 1) < 272 then
    if zin (S.1 25 1) 272 then
    zlet (zput S 26 (S.1 25 1).toNatClampNeg x1) fun T3 =>
    zlet (zput T3 25 1 ((T3.1 25 1) + 1)) fun T4 =>
    some T4 else none
  else
    some S
set_option maxRecDepth 100000 in
theorem w_X2_emit_25 (l : Launch) {x1 : Int32} {S : zS} {S1 : zS} (h : f_X2_emit_25 x1 S = some S1) : zMet zLX l yX2_emit cX2_emit 2 none 1 [.ref 25, .int x1] S none S1 := by
  unfold f_X2_emit_25 at h
  refine zMet.of (by decide +kernel) (Nat.le_of_ble_eq_true rfl) ?_
  show WA zLX l RX2 cX2_emit 2 none 1 none S1 0 [(0, .ref 25), (1, .int x1)] [] S
  refine z_aload_n (pc := 0) (q := 0) dX2_emit_0 rfl rfl ?_
  refine z_getI (pc := 1) dX2_emit_1 zf_X2_23 gX_25_1 ?_
  refine z_aload_n (pc := 4) (q := 0) dX2_emit_4 rfl rfl ?_
  refine z_getR (pc := 5) dX2_emit_5 zf_X2_9 gX_25_2 ?_
  refine z_alen (pc := 8) (v := 272) dX2_emit_8 aX_26 (by decide) (by decide) ?_
  refine z_icmp_ge (pc := 9) (tgt := 32) dX2_emit_9 (by decide) (fun c1 => ?_) (fun c1 => ?_)
  · have h := ze_some c1 h
    cases h
    exact z_vret dX2_emit_32
  · have h := zt_some c1 h
    refine z_aload_n (pc := 12) (q := 0) dX2_emit_12 rfl rfl ?_
    refine z_getR (pc := 13) dX2_emit_13 zf_X2_9 gX_25_2 ?_
    refine z_aload_n (pc := 16) (q := 0) dX2_emit_16 rfl rfl ?_
    refine z_getI (pc := 17) dX2_emit_17 zf_X2_23 gX_25_1 ?_
    refine z_iload_n (pc := 20) (q := 1) dX2_emit_20 rfl rfl ?_
    obtain ⟨c2, h⟩ := zg_some h
    obtain ⟨T3, eT3, h⟩ := zl_some h
    refine z_iast (pc := 21) dX2_emit_21 aX_26 c2 eT3 ?_
    refine z_aload_n (pc := 22) (q := 0) dX2_emit_22 rfl rfl ?_
    refine z_dup (pc := 23) dX2_emit_23 rfl ?_
    refine z_getI (pc := 24) dX2_emit_24 zf_X2_23 gX_25_1 ?_
    refine z_iconst (pc := 27) (v := 1) dX2_emit_27 zci_1 ?_
    refine z_iadd (pc := 28) dX2_emit_28 ?_
    obtain ⟨T4, eT4, h⟩ := zl_some h
    refine z_putI (pc := 29) dX2_emit_29 zp_X2_23 gX_25_1 rfl rfl eT4 ?_
    cases h
    exact z_vret dX2_emit_32
def f_X7_readNot_2_25 (F : Int32 → Int32 → zS → Option (Int32 × zS)) (x2 : Int32) (S : zS) : Option (Int32 × zS) :=
  if (6 : Int32) < x2 then
    zb (f_X7_refuseToken_2 S) fun r4 T3 =>
    if znb r4 then some (r4, T3) else none
  else
    zu (f_X7_step_2 S) fun T3 =>
    zb (F 2 (x2 + 1) T3) fun r6 T5 =>
    if r6 = 0 then
      some (0, T5)
    else
      zu (f_X2_emit_25 (-6) T5) fun T9 =>
      some (1, T9)
set_option maxRecDepth 100000 in
theorem w_X7_readNot_2_25 (l : Launch) {kF : Nat} (hkF : 12 ≤ kF) {F : Int32 → Int32 → zS → Option (Int32 × zS)} (hF : ∀ (x2 : Int32) (x3 : Int32) (S : zS) (r : Int32) (S1 : zS), F x2 x3 S = some (r, S1) → zMet zLX l yX7_readLevel cX7_readLevel 7 (some .boolean) kF [.ref 2, .ref 25, .int x2, .int x3] S (some (.int r)) S1) {x2 : Int32} {S : zS} {r : Int32} {S1 : zS} (h : f_X7_readNot_2_25 F x2 S = some (r, S1)) : zMet zLX l yX7_readNot cX7_readNot 3 (some .boolean) (kF + 1) [.ref 2, .ref 25, .int x2] S (some (.int r)) S1 := by
  unfold f_X7_readNot_2_25 at h
  refine zMet.of (by decide +kernel) (Nat.le_of_ble_eq_true rfl) ?_
  show WA zLX l RX7 cX7_readNot 3 (some .boolean) (kF + 1) (some (.int r)) S1 0 [(0, .ref 2), (1, .ref 25), (2, .int x2)] [] S
  refine z_iload_n (pc := 0) (q := 2) dX7_readNot_0 rfl rfl ?_
  refine z_bipush (pc := 1) (v := 6) dX7_readNot_1 zcb_6 ?_
  refine z_icmp_le (pc := 3) (tgt := 11) dX7_readNot_3 (by decide) (fun c1 => ?_) (fun c1 => ?_)
  · have h := ze_some c1 h
    refine z_aload_n (pc := 11) (q := 0) dX7_readNot_11 rfl rfl ?_
    obtain ⟨T3, q2, h⟩ := zu_some h
    refine z_callVv (pc := 12) (st := []) [] dX7_readNot_12 zm_X7_62 zM_X7_step (by omega) oX_2 rfl (w_X7_step_2 l q2) rfl rfl (Nat.le_of_ble_eq_true rfl) ?_
    refine z_aload_n (pc := 15) (q := 0) dX7_readNot_15 rfl rfl ?_
    refine z_aload_n (pc := 16) (q := 1) dX7_readNot_16 rfl rfl ?_
    refine z_iconst (pc := 17) (v := 2) dX7_readNot_17 zci_2 ?_
    refine z_iload_n (pc := 18) (q := 2) dX7_readNot_18 rfl rfl ?_
    refine z_iconst (pc := 19) (v := 1) dX7_readNot_19 zci_1 ?_
    refine z_iadd (pc := 20) dX7_readNot_20 ?_
    obtain ⟨r6, T5, q4, h⟩ := zb_some h
    refine z_callVi (pc := 21) (st := []) [.ref 25, .int 2, .int (x2 + 1)] dX7_readNot_21 zm_X7_117 zM_X7_readLevel (by omega) oX_2 rfl (hF 2 (x2 + 1) _ _ _ q4) rfl rfl (Nat.le_of_ble_eq_true rfl) ?_
    refine z_if_ne (pc := 24) (tgt := 29) dX7_readNot_24 (by decide) (fun c7 => ?_) (fun c7 => ?_)
    · have h := ze_some c7 h
      refine z_aload_n (pc := 29) (q := 1) dX7_readNot_29 rfl rfl ?_
      refine z_bipush (pc := 30) (v := (-6)) dX7_readNot_30 zcb_m6 ?_
      obtain ⟨T9, q8, h⟩ := zu_some h
      refine z_callVv (pc := 32) (st := []) [.int (-6)] dX7_readNot_32 zm_X7_224 zM_X2_emit (by omega) oX_25 rfl (w_X2_emit_25 l q8) rfl rfl (Nat.le_of_ble_eq_true rfl) ?_
      refine z_iconst (pc := 35) (v := 1) dX7_readNot_35 zci_1 ?_
      obtain ⟨rfl, rfl⟩ := zr_some h
      exact z_zret dX7_readNot_36 rfl
    · have h := zt_some c7 h
      refine z_iconst (pc := 27) (v := 0) dX7_readNot_27 zci_0 ?_
      obtain ⟨rfl, rfl⟩ := zr_some h
      exact z_zret dX7_readNot_28 rfl
  · have h := zt_some c1 h
    refine z_aload_n (pc := 6) (q := 0) dX7_readNot_6 rfl rfl ?_
    obtain ⟨r4, T3, q2, h⟩ := zb_some h
    refine z_callVi (pc := 7) (st := []) [] dX7_readNot_7 zm_X7_127 zM_X7_refuseToken (by omega) oX_2 rfl (w_X7_refuseToken_2 l q2) rfl rfl (Nat.le_of_ble_eq_true rfl) ?_
    obtain ⟨c5, h⟩ := zg_some h
    obtain ⟨rfl, rfl⟩ := zr_some h
    exact z_zret dX7_readNot_10 (znb_n c5)
def f_X7_singleUnit_2_B29 (s0 : Int32) (S : zS) : Option (Int32 × zS) :=
  if s0 = 9 then
    some ((-1), S)
  else
    if s0 = 20 then
      some ((-2), S)
    else
      if s0 = 21 then
        some ((-3), S)
      else
        if s0 = 22 then
          some ((-4), S)
        else
          if s0 = 23 then
            some ((-5), S)
          else
            some ((-6), S)
def f_X7_singleUnit_2  (S : zS) : Option (Int32 × zS) :=
  if (S.1 2 6) = 2 then
    some (S.1 2 7, S)
  else
    if (S.1 2 6) = 1 then
      f_X7_singleUnit_2_B29 (S.1 2 7) S
    else
      f_X7_singleUnit_2_B29 (-1) S
set_option maxRecDepth 100000 in
theorem w_X7_singleUnit_2_B29 (l : Launch) {r : Int32} {S1 : zS} (s0 : Int32) (S : zS) (h : f_X7_singleUnit_2_B29 s0 S = some (r, S1)) : WA zLX l RX7 cX7_singleUnit 1 (some .int) 1 (some (.int r)) S1 29 [] [.int s0] S := by
  unfold f_X7_singleUnit_2_B29 at h
  refine z_tsw (pc := 29) 118 [(9, 104), (20, 106), (21, 109), (22, 112), (23, 115)] dX7_singleUnit_29 (by decide) (by decide +kernel) (by decide +kernel) ?_
  refine zsw_c (fun c1 => ?_) (fun c1 => ?_)
  · have h := zt_some c1 h
    refine z_iconst (pc := 104) (v := (-1)) dX7_singleUnit_104 zci_m1 ?_
    obtain ⟨rfl, rfl⟩ := zr_some h
    exact z_iret dX7_singleUnit_105
  · have h := ze_some c1 h
    refine zsw_c (fun c2 => ?_) (fun c2 => ?_)
    · have h := zt_some c2 h
      refine z_bipush (pc := 106) (v := (-2)) dX7_singleUnit_106 zcb_m2 ?_
      obtain ⟨rfl, rfl⟩ := zr_some h
      exact z_iret dX7_singleUnit_108
    · have h := ze_some c2 h
      refine zsw_c (fun c3 => ?_) (fun c3 => ?_)
      · have h := zt_some c3 h
        refine z_bipush (pc := 109) (v := (-3)) dX7_singleUnit_109 zcb_m3 ?_
        obtain ⟨rfl, rfl⟩ := zr_some h
        exact z_iret dX7_singleUnit_111
      · have h := ze_some c3 h
        refine zsw_c (fun c4 => ?_) (fun c4 => ?_)
        · have h := zt_some c4 h
          refine z_bipush (pc := 112) (v := (-4)) dX7_singleUnit_112 zcb_m4 ?_
          obtain ⟨rfl, rfl⟩ := zr_some h
          exact z_iret dX7_singleUnit_114
        · have h := ze_some c4 h
          refine zsw_c (fun c5 => ?_) (fun c5 => ?_)
          · have h := zt_some c5 h
            refine z_bipush (pc := 115) (v := (-5)) dX7_singleUnit_115 zcb_m5 ?_
            obtain ⟨rfl, rfl⟩ := zr_some h
            exact z_iret dX7_singleUnit_117
          · have h := ze_some c5 h
            refine zsw_n ?_
            refine z_bipush (pc := 118) (v := (-6)) dX7_singleUnit_118 zcb_m6 ?_
            obtain ⟨rfl, rfl⟩ := zr_some h
            exact z_iret dX7_singleUnit_120
set_option maxRecDepth 100000 in
theorem w_X7_singleUnit_2 (l : Launch)  {S : zS} {r : Int32} {S1 : zS} (h : f_X7_singleUnit_2 S = some (r, S1)) : zMet zLX l yX7_singleUnit cX7_singleUnit 1 (some .int) 1 [.ref 2] S (some (.int r)) S1 := by
  unfold f_X7_singleUnit_2 at h
  refine zMet.of (by decide +kernel) (Nat.le_of_ble_eq_true rfl) ?_
  show WA zLX l RX7 cX7_singleUnit 1 (some .int) 1 (some (.int r)) S1 0 [(0, .ref 2)] [] S
  refine z_aload_n (pc := 0) (q := 0) dX7_singleUnit_0 rfl rfl ?_
  refine z_getI (pc := 1) dX7_singleUnit_1 zf_X7_68 gX_2_6 ?_
  refine z_iconst (pc := 4) (v := 2) dX7_singleUnit_4 zci_2 ?_
  refine z_icmp_ne (pc := 5) (tgt := 13) dX7_singleUnit_5 (by decide) (fun c1 => ?_) (fun c1 => ?_)
  · have h := ze_some c1 h
    refine z_aload_n (pc := 13) (q := 0) dX7_singleUnit_13 rfl rfl ?_
    refine z_getI (pc := 14) dX7_singleUnit_14 zf_X7_68 gX_2_6 ?_
    refine z_iconst (pc := 17) (v := 1) dX7_singleUnit_17 zci_1 ?_
    refine z_icmp_ne (pc := 18) (tgt := 28) dX7_singleUnit_18 (by decide) (fun c2 => ?_) (fun c2 => ?_)
    · have h := ze_some c2 h
      refine z_iconst (pc := 28) (v := (-1)) dX7_singleUnit_28 zci_m1 ?_
      exact z_sub [] rfl (w_X7_singleUnit_2_B29 l (-1) S h)
    · have h := zt_some c2 h
      refine z_aload_n (pc := 21) (q := 0) dX7_singleUnit_21 rfl rfl ?_
      refine z_getI (pc := 22) dX7_singleUnit_22 zf_X7_88 gX_2_7 ?_
      refine z_goto (pc := 25) (tgt := 29) dX7_singleUnit_25 (by decide) ?_
      exact z_sub [] rfl (w_X7_singleUnit_2_B29 l (S.1 2 7) S h)
  · have h := zt_some c1 h
    refine z_aload_n (pc := 8) (q := 0) dX7_singleUnit_8 rfl rfl ?_
    refine z_getI (pc := 9) dX7_singleUnit_9 zf_X7_88 gX_2_7 ?_
    obtain ⟨rfl, rfl⟩ := zr_some h
    exact z_iret dX7_singleUnit_12
def f_X7_takeSign_2 (x1 : Int32) (S : zS) : Option (Int32 × zS) :=
  zb (f_X7_isSign_2 x1 S) fun r3 T2 =>
  if r3 = 0 then
    zb (f_X7_refuseToken_2 T2) fun r7 T6 =>
    if znb r7 then some (r7, T6) else none
  else
    zu (f_X7_step_2 T2) fun T6 =>
    some (1, T6)
set_option maxRecDepth 100000 in
theorem w_X7_takeSign_2 (l : Launch) {x1 : Int32} {S : zS} {r : Int32} {S1 : zS} (h : f_X7_takeSign_2 x1 S = some (r, S1)) : zMet zLX l yX7_takeSign cX7_takeSign 2 (some .boolean) 6 [.ref 2, .int x1] S (some (.int r)) S1 := by
  unfold f_X7_takeSign_2 at h
  refine zMet.of (by decide +kernel) (Nat.le_of_ble_eq_true rfl) ?_
  show WA zLX l RX7 cX7_takeSign 2 (some .boolean) 6 (some (.int r)) S1 0 [(0, .ref 2), (1, .int x1)] [] S
  refine z_aload_n (pc := 0) (q := 0) dX7_takeSign_0 rfl rfl ?_
  refine z_iload_n (pc := 1) (q := 1) dX7_takeSign_1 rfl rfl ?_
  obtain ⟨r3, T2, q1, h⟩ := zb_some h
  refine z_callVi (pc := 2) (st := []) [.int x1] dX7_takeSign_2 zm_X7_228 zM_X7_isSign (by decide) oX_2 rfl (w_X7_isSign_2 l q1) rfl rfl (Nat.le_of_ble_eq_true rfl) ?_
  refine z_if_ne (pc := 5) (tgt := 13) dX7_takeSign_5 (by decide) (fun c4 => ?_) (fun c4 => ?_)
  · have h := ze_some c4 h
    refine z_aload_n (pc := 13) (q := 0) dX7_takeSign_13 rfl rfl ?_
    obtain ⟨T6, q5, h⟩ := zu_some h
    refine z_callVv (pc := 14) (st := []) [] dX7_takeSign_14 zm_X7_62 zM_X7_step (by decide) oX_2 rfl (w_X7_step_2 l q5) rfl rfl (Nat.le_of_ble_eq_true rfl) ?_
    refine z_iconst (pc := 17) (v := 1) dX7_takeSign_17 zci_1 ?_
    obtain ⟨rfl, rfl⟩ := zr_some h
    exact z_zret dX7_takeSign_18 rfl
  · have h := zt_some c4 h
    refine z_aload_n (pc := 8) (q := 0) dX7_takeSign_8 rfl rfl ?_
    obtain ⟨r7, T6, q5, h⟩ := zb_some h
    refine z_callVi (pc := 9) (st := []) [] dX7_takeSign_9 zm_X7_127 zM_X7_refuseToken (by decide) oX_2 rfl (w_X7_refuseToken_2 l q5) rfl rfl (Nat.le_of_ble_eq_true rfl) ?_
    obtain ⟨c8, h⟩ := zg_some h
    obtain ⟨rfl, rfl⟩ := zr_some h
    exact z_zret dX7_takeSign_12 (znb_n c8)
def f_X7_readUnit_2_25_B57 (F : Int32 → Int32 → zS → Option (Int32 × zS))  (S : zS) : Option (Int32 × zS) :=
  zb (f_X7_refuseToken_2 S) fun r3 T2 =>
  if znb r3 then some (r3, T2) else none
def f_X7_readUnit_2_25_B62 (F : Int32 → Int32 → zS → Option (Int32 × zS)) (x2 : Int32) (x3 : Int32) (x4 : Int32) (S : zS) : Option (Int32 × zS) :=
  zlet (zput S 25 0 ((S.1 25 0) + 1)) fun T1 =>
  zu (f_X7_step_2 T1) fun T3 =>
  if x3 = 0 then
    zu (f_X2_emit_25 x4 T3) fun T6 =>
    some (1, T6)
  else
    zb (F 0 (x2 + 1) T3) fun r7 T6 =>
    if r7 = 0 then
      some (0, T6)
    else
      zb (f_X7_takeSign_2 41 T6) fun r11 T10 =>
      if r11 = 0 then
        some (0, T10)
      else
        some (1, T10)
def f_X7_readUnit_2_25_B38 (F : Int32 → Int32 → zS → Option (Int32 × zS)) (x2 : Int32) (x3 : Int32) (x4 : Int32) (S : zS) : Option (Int32 × zS) :=
  if (S.1 25 0) < 30 then
    if x3 = 0 then
      f_X7_readUnit_2_25_B62 F x2 x3 x4 S
    else
      if (6 : Int32) < x2 then
        f_X7_readUnit_2_25_B57 F S
      else
        f_X7_readUnit_2_25_B62 F x2 x3 x4 S
  else
    f_X7_readUnit_2_25_B57 F S
def f_X7_readUnit_2_25_B20 (F : Int32 → Int32 → zS → Option (Int32 × zS)) (x2 : Int32) (x3 : Int32) (s0 : Int32) (S : zS) : Option (Int32 × zS) :=
  if x3 = 0 then
    if s0 = (-6) then
      zb (f_X7_refuseToken_2 S) fun r5 T4 =>
      if znb r5 then some (r5, T4) else none
    else
      f_X7_readUnit_2_25_B38 F x2 x3 s0 S
  else
    f_X7_readUnit_2_25_B38 F x2 x3 s0 S
def f_X7_readUnit_2_25 (F : Int32 → Int32 → zS → Option (Int32 × zS)) (x2 : Int32) (S : zS) : Option (Int32 × zS) :=
  zb (f_X7_isSign_2 40 S) fun r3 T2 =>
  if r3 = 0 then
    zb (f_X7_singleUnit_2 T2) fun r7 T6 =>
    f_X7_readUnit_2_25_B20 F x2 r3 r7 T6
  else
    f_X7_readUnit_2_25_B20 F x2 r3 (-6) T2
set_option maxRecDepth 100000 in
theorem w_X7_readUnit_2_25_B57 (l : Launch) {kF : Nat} (hkF : 12 ≤ kF) {F : Int32 → Int32 → zS → Option (Int32 × zS)} (hF : ∀ (x2 : Int32) (x3 : Int32) (S : zS) (r : Int32) (S1 : zS), F x2 x3 S = some (r, S1) → zMet zLX l yX7_readLevel cX7_readLevel 7 (some .boolean) kF [.ref 2, .ref 25, .int x2, .int x3] S (some (.int r)) S1) {r : Int32} {S1 : zS}  (S : zS) (h : f_X7_readUnit_2_25_B57 F S = some (r, S1)) : WA zLX l RX7 cX7_readUnit 5 (some .boolean) (kF + 1) (some (.int r)) S1 57 [(0, .ref 2)] [] S := by
  unfold f_X7_readUnit_2_25_B57 at h
  refine z_aload_n (pc := 57) (q := 0) dX7_readUnit_57 rfl rfl ?_
  obtain ⟨r3, T2, q1, h⟩ := zb_some h
  refine z_callVi (pc := 58) (st := []) [] dX7_readUnit_58 zm_X7_127 zM_X7_refuseToken (by omega) oX_2 rfl (w_X7_refuseToken_2 l q1) rfl rfl (Nat.le_of_ble_eq_true rfl) ?_
  obtain ⟨c4, h⟩ := zg_some h
  obtain ⟨rfl, rfl⟩ := zr_some h
  exact z_zret dX7_readUnit_61 (znb_n c4)
set_option maxRecDepth 100000 in
theorem w_X7_readUnit_2_25_B62 (l : Launch) {kF : Nat} (hkF : 12 ≤ kF) {F : Int32 → Int32 → zS → Option (Int32 × zS)} (hF : ∀ (x2 : Int32) (x3 : Int32) (S : zS) (r : Int32) (S1 : zS), F x2 x3 S = some (r, S1) → zMet zLX l yX7_readLevel cX7_readLevel 7 (some .boolean) kF [.ref 2, .ref 25, .int x2, .int x3] S (some (.int r)) S1) {r : Int32} {S1 : zS} (x2 : Int32) (x3 : Int32) (x4 : Int32) (S : zS) (h : f_X7_readUnit_2_25_B62 F x2 x3 x4 S = some (r, S1)) : WA zLX l RX7 cX7_readUnit 5 (some .boolean) (kF + 1) (some (.int r)) S1 62 [(0, .ref 2), (1, .ref 25), (2, .int x2), (3, .int x3), (4, .int x4)] [] S := by
  unfold f_X7_readUnit_2_25_B62 at h
  refine z_aload_n (pc := 62) (q := 1) dX7_readUnit_62 rfl rfl ?_
  refine z_dup (pc := 63) dX7_readUnit_63 rfl ?_
  refine z_getI (pc := 64) dX7_readUnit_64 zf_X7_234 gX_25_0 ?_
  refine z_iconst (pc := 67) (v := 1) dX7_readUnit_67 zci_1 ?_
  refine z_iadd (pc := 68) dX7_readUnit_68 ?_
  obtain ⟨T1, eT1, h⟩ := zl_some h
  refine z_putI (pc := 69) dX7_readUnit_69 zp_X7_234 gX_25_0 rfl rfl eT1 ?_
  refine z_aload_n (pc := 72) (q := 0) dX7_readUnit_72 rfl rfl ?_
  obtain ⟨T3, q2, h⟩ := zu_some h
  refine z_callVv (pc := 73) (st := []) [] dX7_readUnit_73 zm_X7_62 zM_X7_step (by omega) oX_2 rfl (w_X7_step_2 l q2) rfl rfl (Nat.le_of_ble_eq_true rfl) ?_
  refine z_iload_n (pc := 76) (q := 3) dX7_readUnit_76 rfl rfl ?_
  refine z_if_eq (pc := 77) (tgt := 107) dX7_readUnit_77 (by decide) (fun c4 => ?_) (fun c4 => ?_)
  · have h := zt_some c4 h
    refine z_aload_n (pc := 107) (q := 1) dX7_readUnit_107 rfl rfl ?_
    refine z_iload (pc := 108) (q := 4) dX7_readUnit_108 rfl ?_
    obtain ⟨T6, q5, h⟩ := zu_some h
    refine z_callVv (pc := 110) (st := []) [.int x4] dX7_readUnit_110 zm_X7_224 zM_X2_emit (by omega) oX_25 rfl (w_X2_emit_25 l q5) rfl rfl (Nat.le_of_ble_eq_true rfl) ?_
    refine z_iconst (pc := 113) (v := 1) dX7_readUnit_113 zci_1 ?_
    obtain ⟨rfl, rfl⟩ := zr_some h
    exact z_zret dX7_readUnit_114 rfl
  · have h := ze_some c4 h
    refine z_aload_n (pc := 80) (q := 0) dX7_readUnit_80 rfl rfl ?_
    refine z_aload_n (pc := 81) (q := 1) dX7_readUnit_81 rfl rfl ?_
    refine z_iconst (pc := 82) (v := 0) dX7_readUnit_82 zci_0 ?_
    refine z_iload_n (pc := 83) (q := 2) dX7_readUnit_83 rfl rfl ?_
    refine z_iconst (pc := 84) (v := 1) dX7_readUnit_84 zci_1 ?_
    refine z_iadd (pc := 85) dX7_readUnit_85 ?_
    obtain ⟨r7, T6, q5, h⟩ := zb_some h
    refine z_callVi (pc := 86) (st := []) [.ref 25, .int 0, .int (x2 + 1)] dX7_readUnit_86 zm_X7_117 zM_X7_readLevel (by omega) oX_2 rfl (hF 0 (x2 + 1) _ _ _ q5) rfl rfl (Nat.le_of_ble_eq_true rfl) ?_
    refine z_if_eq (pc := 89) (tgt := 105) dX7_readUnit_89 (by decide) (fun c8 => ?_) (fun c8 => ?_)
    · have h := zt_some c8 h
      refine z_iconst (pc := 105) (v := 0) dX7_readUnit_105 zci_0 ?_
      obtain ⟨rfl, rfl⟩ := zr_some h
      exact z_zret dX7_readUnit_106 rfl
    · have h := ze_some c8 h
      refine z_aload_n (pc := 92) (q := 0) dX7_readUnit_92 rfl rfl ?_
      refine z_bipush (pc := 93) (v := 41) dX7_readUnit_93 zcb_41 ?_
      obtain ⟨r11, T10, q9, h⟩ := zb_some h
      refine z_callVi (pc := 95) (st := []) [.int 41] dX7_readUnit_95 zm_X7_75 zM_X7_takeSign (by omega) oX_2 rfl (w_X7_takeSign_2 l q9) rfl rfl (Nat.le_of_ble_eq_true rfl) ?_
      refine z_if_eq (pc := 98) (tgt := 105) dX7_readUnit_98 (by decide) (fun c12 => ?_) (fun c12 => ?_)
      · have h := zt_some c12 h
        refine z_iconst (pc := 105) (v := 0) dX7_readUnit_105 zci_0 ?_
        obtain ⟨rfl, rfl⟩ := zr_some h
        exact z_zret dX7_readUnit_106 rfl
      · have h := ze_some c12 h
        refine z_iconst (pc := 101) (v := 1) dX7_readUnit_101 zci_1 ?_
        refine z_goto (pc := 102) (tgt := 106) dX7_readUnit_102 (by decide) ?_
        obtain ⟨rfl, rfl⟩ := zr_some h
        exact z_zret dX7_readUnit_106 rfl
set_option maxRecDepth 100000 in
theorem w_X7_readUnit_2_25_B38 (l : Launch) {kF : Nat} (hkF : 12 ≤ kF) {F : Int32 → Int32 → zS → Option (Int32 × zS)} (hF : ∀ (x2 : Int32) (x3 : Int32) (S : zS) (r : Int32) (S1 : zS), F x2 x3 S = some (r, S1) → zMet zLX l yX7_readLevel cX7_readLevel 7 (some .boolean) kF [.ref 2, .ref 25, .int x2, .int x3] S (some (.int r)) S1) {r : Int32} {S1 : zS} (x2 : Int32) (x3 : Int32) (x4 : Int32) (S : zS) (h : f_X7_readUnit_2_25_B38 F x2 x3 x4 S = some (r, S1)) : WA zLX l RX7 cX7_readUnit 5 (some .boolean) (kF + 1) (some (.int r)) S1 38 [(0, .ref 2), (1, .ref 25), (2, .int x2), (3, .int x3), (4, .int x4)] [] S := by
  unfold f_X7_readUnit_2_25_B38 at h
  refine z_aload_n (pc := 38) (q := 1) dX7_readUnit_38 rfl rfl ?_
  refine z_getI (pc := 39) dX7_readUnit_39 zf_X7_234 gX_25_0 ?_
  refine z_bipush (pc := 42) (v := 30) dX7_readUnit_42 zcb_30 ?_
  refine z_icmp_ge (pc := 44) (tgt := 57) dX7_readUnit_44 (by decide) (fun c1 => ?_) (fun c1 => ?_)
  · have h := ze_some c1 h
    exact z_sub [0] rfl (w_X7_readUnit_2_25_B57 l hkF hF S h)
  · have h := zt_some c1 h
    refine z_iload_n (pc := 47) (q := 3) dX7_readUnit_47 rfl rfl ?_
    refine z_if_eq (pc := 48) (tgt := 62) dX7_readUnit_48 (by decide) (fun c2 => ?_) (fun c2 => ?_)
    · have h := zt_some c2 h
      exact w_X7_readUnit_2_25_B62 l hkF hF x2 x3 x4 S h
    · have h := ze_some c2 h
      refine z_iload_n (pc := 51) (q := 2) dX7_readUnit_51 rfl rfl ?_
      refine z_bipush (pc := 52) (v := 6) dX7_readUnit_52 zcb_6 ?_
      refine z_icmp_le (pc := 54) (tgt := 62) dX7_readUnit_54 (by decide) (fun c3 => ?_) (fun c3 => ?_)
      · have h := ze_some c3 h
        exact w_X7_readUnit_2_25_B62 l hkF hF x2 x3 x4 S h
      · have h := zt_some c3 h
        exact z_sub [0] rfl (w_X7_readUnit_2_25_B57 l hkF hF S h)
set_option maxRecDepth 100000 in
theorem w_X7_readUnit_2_25_B20 (l : Launch) {kF : Nat} (hkF : 12 ≤ kF) {F : Int32 → Int32 → zS → Option (Int32 × zS)} (hF : ∀ (x2 : Int32) (x3 : Int32) (S : zS) (r : Int32) (S1 : zS), F x2 x3 S = some (r, S1) → zMet zLX l yX7_readLevel cX7_readLevel 7 (some .boolean) kF [.ref 2, .ref 25, .int x2, .int x3] S (some (.int r)) S1) {r : Int32} {S1 : zS} (x2 : Int32) (x3 : Int32) (s0 : Int32) (S : zS) (h : f_X7_readUnit_2_25_B20 F x2 x3 s0 S = some (r, S1)) : WA zLX l RX7 cX7_readUnit 5 (some .boolean) (kF + 1) (some (.int r)) S1 20 [(0, .ref 2), (1, .ref 25), (2, .int x2), (3, .int x3)] [.int s0] S := by
  unfold f_X7_readUnit_2_25_B20 at h
  refine z_istore (pc := 20) (lo' := [(4, .int s0), (0, .ref 2), (1, .ref 25), (2, .int x2), (3, .int x3)]) dX7_readUnit_20 (by decide) rfl ?_
  refine z_iload_n (pc := 22) (q := 4) dX7_readUnit_22 rfl rfl ?_
  refine z_if_ne (pc := 23) (tgt := 38) dX7_readUnit_23 (by decide) (fun c1 => ?_) (fun c1 => ?_)
  · have h := ze_some c1 h
    exact z_sub [1, 2, 3, 4, 0] rfl (w_X7_readUnit_2_25_B38 l hkF hF x2 x3 s0 S h)
  · have h := zt_some c1 h
    refine z_iload (pc := 26) (q := 0) dX7_readUnit_26 rfl ?_
    refine z_bipush (pc := 28) (v := (-6)) dX7_readUnit_28 zcb_m6 ?_
    refine z_icmp_ne (pc := 30) (tgt := 38) dX7_readUnit_30 (by decide) (fun c2 => ?_) (fun c2 => ?_)
    · have h := ze_some c2 h
      exact z_sub [1, 2, 3, 4, 0] rfl (w_X7_readUnit_2_25_B38 l hkF hF x2 x3 s0 S h)
    · have h := zt_some c2 h
      refine z_aload_n (pc := 33) (q := 1) dX7_readUnit_33 rfl rfl ?_
      obtain ⟨r5, T4, q3, h⟩ := zb_some h
      refine z_callVi (pc := 34) (st := []) [] dX7_readUnit_34 zm_X7_127 zM_X7_refuseToken (by omega) oX_2 rfl (w_X7_refuseToken_2 l q3) rfl rfl (Nat.le_of_ble_eq_true rfl) ?_
      obtain ⟨c6, h⟩ := zg_some h
      obtain ⟨rfl, rfl⟩ := zr_some h
      exact z_zret dX7_readUnit_37 (znb_n c6)
set_option maxRecDepth 100000 in
theorem w_X7_readUnit_2_25 (l : Launch) {kF : Nat} (hkF : 12 ≤ kF) {F : Int32 → Int32 → zS → Option (Int32 × zS)} (hF : ∀ (x2 : Int32) (x3 : Int32) (S : zS) (r : Int32) (S1 : zS), F x2 x3 S = some (r, S1) → zMet zLX l yX7_readLevel cX7_readLevel 7 (some .boolean) kF [.ref 2, .ref 25, .int x2, .int x3] S (some (.int r)) S1) {x2 : Int32} {S : zS} {r : Int32} {S1 : zS} (h : f_X7_readUnit_2_25 F x2 S = some (r, S1)) : zMet zLX l yX7_readUnit cX7_readUnit 5 (some .boolean) (kF + 1) [.ref 2, .ref 25, .int x2] S (some (.int r)) S1 := by
  unfold f_X7_readUnit_2_25 at h
  refine zMet.of (by decide +kernel) (Nat.le_of_ble_eq_true rfl) ?_
  show WA zLX l RX7 cX7_readUnit 5 (some .boolean) (kF + 1) (some (.int r)) S1 0 [(0, .ref 2), (1, .ref 25), (2, .int x2)] [] S
  refine z_aload_n (pc := 0) (q := 0) dX7_readUnit_0 rfl rfl ?_
  refine z_bipush (pc := 1) (v := 40) dX7_readUnit_1 zcb_40 ?_
  obtain ⟨r3, T2, q1, h⟩ := zb_some h
  refine z_callVi (pc := 3) (st := []) [.int 40] dX7_readUnit_3 zm_X7_228 zM_X7_isSign (by omega) oX_2 rfl (w_X7_isSign_2 l q1) rfl rfl (Nat.le_of_ble_eq_true rfl) ?_
  refine z_istore_n (pc := 6) (lo' := [(3, .int r3), (0, .ref 2), (1, .ref 25), (2, .int x2)]) dX7_readUnit_6 rfl (by decide) rfl ?_
  refine z_iload_n (pc := 7) (q := 0) dX7_readUnit_7 rfl rfl ?_
  refine z_if_eq (pc := 8) (tgt := 16) dX7_readUnit_8 (by decide) (fun c4 => ?_) (fun c4 => ?_)
  · have h := zt_some c4 h
    refine z_aload_n (pc := 16) (q := 1) dX7_readUnit_16 rfl rfl ?_
    obtain ⟨r7, T6, q5, h⟩ := zb_some h
    refine z_callVi (pc := 17) (st := []) [] dX7_readUnit_17 zm_X7_231 zM_X7_singleUnit (by omega) oX_2 rfl (w_X7_singleUnit_2 l q5) rfl rfl (Nat.le_of_ble_eq_true rfl) ?_
    exact z_sub [1, 2, 3, 0] rfl (w_X7_readUnit_2_25_B20 l hkF hF x2 r3 r7 T6 h)
  · have h := ze_some c4 h
    refine z_bipush (pc := 11) (v := (-6)) dX7_readUnit_11 zcb_m6 ?_
    refine z_goto (pc := 13) (tgt := 20) dX7_readUnit_13 (by decide) ?_
    exact z_sub [1, 2, 3, 0] rfl (w_X7_readUnit_2_25_B20 l hkF hF x2 r3 (-6) T2 h)
def f_X7_readLevel_2_25_L70 (F : Int32 → Int32 → zS → Option (Int32 × zS)) : Nat → Int32 → Int32 → Int32 → Int32 → Int32 → zS → Option (Int32 × zS)
  | 0, _, _, _, _, _, _ => none
  | n + 1, x2, x3, x4, x5, x6, S =>
    if x6 < x4 then
      if x5 = 0 then
        some (1, S)
      else
        zu (f_X7_step_2 S) fun T4 =>
        zb (F (x2 + 1) x3 T4) fun r7 T6 =>
        if r7 = 0 then
          some (0, T6)
        else
          zu (f_X2_emit_25 x5 T6) fun T10 =>
          zb (f_X7_joinedBy_2 x2 T10) fun r13 T12 =>
          zlet (x6 + 1) fun v14 =>
          (f_X7_readLevel_2_25_L70 F n) x2 x3 x4 r13 v14 T12
    else
      some (1, S)
def f_X7_readLevel_2_25_B58 (F : Int32 → Int32 → zS → Option (Int32 × zS)) (x2 : Int32) (x3 : Int32) (s0 : Int32) (S : zS) : Option (Int32 × zS) :=
  zb (f_X7_joinedBy_2 x2 S) fun r3 T2 =>
  f_X7_readLevel_2_25_L70 F zN x2 x3 s0 r3 0 T2
def f_X7_readLevel_2_25_B33 (F : Int32 → Int32 → zS → Option (Int32 × zS)) (x2 : Int32) (x3 : Int32) (S : zS) : Option (Int32 × zS) :=
  zb (F (x2 + 1) x3 S) fun r3 T2 =>
  if r3 = 0 then
    some (0, T2)
  else
    if x2 = 2 then
      f_X7_readLevel_2_25_B58 F x2 x3 1 T2
    else
      f_X7_readLevel_2_25_B58 F x2 x3 30 T2
def fb_X7_readLevel_2_25 (F : Int32 → Int32 → zS → Option (Int32 × zS)) (x2 : Int32) (x3 : Int32) (S : zS) : Option (Int32 × zS) :=
  if (4 : Int32) < x2 then
    zb (f_X7_readUnit_2_25 F x3 S) fun r4 T3 =>
    if znb r4 then some (r4, T3) else none
  else
    if x2 = 2 then
      zb (f_X7_isWord_2 19 S) fun r5 T4 =>
      if r5 = 0 then
        f_X7_readLevel_2_25_B33 F x2 x3 T4
      else
        zb (f_X7_readNot_2_25 F x3 T4) fun r9 T8 =>
        if znb r9 then some (r9, T8) else none
    else
      f_X7_readLevel_2_25_B33 F x2 x3 S
set_option maxRecDepth 100000 in
theorem w_X7_readLevel_2_25_L70 (l : Launch) {kF : Nat} (hkF : 12 ≤ kF) {F : Int32 → Int32 → zS → Option (Int32 × zS)} (hF : ∀ (x2 : Int32) (x3 : Int32) (S : zS) (r : Int32) (S1 : zS), F x2 x3 S = some (r, S1) → zMet zLX l yX7_readLevel cX7_readLevel 7 (some .boolean) kF [.ref 2, .ref 25, .int x2, .int x3] S (some (.int r)) S1) {r : Int32} {S1 : zS} : ∀ (n : Nat) (x2 : Int32) (x3 : Int32) (x4 : Int32) (x5 : Int32) (x6 : Int32) (S : zS), f_X7_readLevel_2_25_L70 F n x2 x3 x4 x5 x6 S = some (r, S1) → WA zLX l RX7 cX7_readLevel 7 (some .boolean) (kF + 2) (some (.int r)) S1 70 [(0, .ref 2), (1, .ref 25), (2, .int x2), (3, .int x3), (4, .int x4), (5, .int x5), (6, .int x6)] [] S := by
  intro n
  induction n with
  | zero =>
    intro x2 x3 x4 x5 x6 S h
    exact nomatch h
  | succ n ih =>
    intro x2 x3 x4 x5 x6 S h
    rw [f_X7_readLevel_2_25_L70] at h
    refine z_iload (pc := 70) (q := 6) dX7_readLevel_70 rfl ?_
    refine z_iload (pc := 72) (q := 4) dX7_readLevel_72 rfl ?_
    refine z_icmp_ge (pc := 74) (tgt := 119) dX7_readLevel_74 (by decide) (fun c1 => ?_) (fun c1 => ?_)
    · have h := ze_some c1 h
      refine z_iconst (pc := 119) (v := 1) dX7_readLevel_119 zci_1 ?_
      obtain ⟨rfl, rfl⟩ := zr_some h
      exact z_zret dX7_readLevel_120 rfl
    · have h := zt_some c1 h
      refine z_iload (pc := 77) (q := 5) dX7_readLevel_77 rfl ?_
      refine z_if_eq (pc := 79) (tgt := 119) dX7_readLevel_79 (by decide) (fun c2 => ?_) (fun c2 => ?_)
      · have h := zt_some c2 h
        refine z_iconst (pc := 119) (v := 1) dX7_readLevel_119 zci_1 ?_
        obtain ⟨rfl, rfl⟩ := zr_some h
        exact z_zret dX7_readLevel_120 rfl
      · have h := ze_some c2 h
        refine z_aload_n (pc := 82) (q := 0) dX7_readLevel_82 rfl rfl ?_
        obtain ⟨T4, q3, h⟩ := zu_some h
        refine z_callVv (pc := 83) (st := []) [] dX7_readLevel_83 zm_X7_62 zM_X7_step (by omega) oX_2 rfl (w_X7_step_2 l q3) rfl rfl (Nat.le_of_ble_eq_true rfl) ?_
        refine z_aload_n (pc := 86) (q := 0) dX7_readLevel_86 rfl rfl ?_
        refine z_aload_n (pc := 87) (q := 1) dX7_readLevel_87 rfl rfl ?_
        refine z_iload_n (pc := 88) (q := 2) dX7_readLevel_88 rfl rfl ?_
        refine z_iconst (pc := 89) (v := 1) dX7_readLevel_89 zci_1 ?_
        refine z_iadd (pc := 90) dX7_readLevel_90 ?_
        refine z_iload_n (pc := 91) (q := 3) dX7_readLevel_91 rfl rfl ?_
        obtain ⟨r7, T6, q5, h⟩ := zb_some h
        refine z_callVi (pc := 92) (st := []) [.ref 25, .int (x2 + 1), .int x3] dX7_readLevel_92 zm_X7_117 zM_X7_readLevel (by omega) oX_2 rfl (hF (x2 + 1) x3 _ _ _ q5) rfl rfl (Nat.le_of_ble_eq_true rfl) ?_
        refine z_if_ne (pc := 95) (tgt := 100) dX7_readLevel_95 (by decide) (fun c8 => ?_) (fun c8 => ?_)
        · have h := ze_some c8 h
          refine z_aload_n (pc := 100) (q := 1) dX7_readLevel_100 rfl rfl ?_
          refine z_iload (pc := 101) (q := 5) dX7_readLevel_101 rfl ?_
          obtain ⟨T10, q9, h⟩ := zu_some h
          refine z_callVv (pc := 103) (st := []) [.int x5] dX7_readLevel_103 zm_X7_224 zM_X2_emit (by omega) oX_25 rfl (w_X2_emit_25 l q9) rfl rfl (Nat.le_of_ble_eq_true rfl) ?_
          refine z_aload_n (pc := 106) (q := 0) dX7_readLevel_106 rfl rfl ?_
          refine z_iload_n (pc := 107) (q := 2) dX7_readLevel_107 rfl rfl ?_
          obtain ⟨r13, T12, q11, h⟩ := zb_some h
          refine z_callVi (pc := 108) (st := []) [.int x2] dX7_readLevel_108 zm_X7_220 zM_X7_joinedBy (by omega) oX_2 rfl (w_X7_joinedBy_2 l q11) rfl rfl (Nat.le_of_ble_eq_true rfl) ?_
          refine z_istore (pc := 111) (lo' := [(5, .int r13), (0, .ref 2), (1, .ref 25), (2, .int x2), (3, .int x3), (4, .int x4), (6, .int x6)]) dX7_readLevel_111 (by decide) rfl ?_
          obtain ⟨v14, ev14, h⟩ := zl_some h
          refine z_iinc (pc := 113) (q := 6) (v := v14) (lo' := [(6, .int v14), (5, .int r13), (0, .ref 2), (1, .ref 25), (2, .int x2), (3, .int x3), (4, .int x4)]) dX7_readLevel_113 rfl (by rw [ev14, zci_1]) (by decide) rfl ?_
          refine z_goto (pc := 116) (tgt := 70) dX7_readLevel_116 (by decide) ?_
          exact z_sub [2, 3, 4, 5, 6, 1, 0] rfl (ih x2 x3 x4 r13 v14 T12 h)
        · have h := zt_some c8 h
          refine z_iconst (pc := 98) (v := 0) dX7_readLevel_98 zci_0 ?_
          obtain ⟨rfl, rfl⟩ := zr_some h
          exact z_zret dX7_readLevel_99 rfl
set_option maxRecDepth 100000 in
theorem w_X7_readLevel_2_25_B58 (l : Launch) {kF : Nat} (hkF : 12 ≤ kF) {F : Int32 → Int32 → zS → Option (Int32 × zS)} (hF : ∀ (x2 : Int32) (x3 : Int32) (S : zS) (r : Int32) (S1 : zS), F x2 x3 S = some (r, S1) → zMet zLX l yX7_readLevel cX7_readLevel 7 (some .boolean) kF [.ref 2, .ref 25, .int x2, .int x3] S (some (.int r)) S1) {r : Int32} {S1 : zS} (x2 : Int32) (x3 : Int32) (s0 : Int32) (S : zS) (h : f_X7_readLevel_2_25_B58 F x2 x3 s0 S = some (r, S1)) : WA zLX l RX7 cX7_readLevel 7 (some .boolean) (kF + 2) (some (.int r)) S1 58 [(0, .ref 2), (1, .ref 25), (2, .int x2), (3, .int x3)] [.int s0] S := by
  unfold f_X7_readLevel_2_25_B58 at h
  refine z_istore (pc := 58) (lo' := [(4, .int s0), (0, .ref 2), (1, .ref 25), (2, .int x2), (3, .int x3)]) dX7_readLevel_58 (by decide) rfl ?_
  refine z_aload_n (pc := 60) (q := 1) dX7_readLevel_60 rfl rfl ?_
  refine z_iload_n (pc := 61) (q := 3) dX7_readLevel_61 rfl rfl ?_
  obtain ⟨r3, T2, q1, h⟩ := zb_some h
  refine z_callVi (pc := 62) (st := []) [.int x2] dX7_readLevel_62 zm_X7_220 zM_X7_joinedBy (by omega) oX_2 rfl (w_X7_joinedBy_2 l q1) rfl rfl (Nat.le_of_ble_eq_true rfl) ?_
  refine z_istore (pc := 65) (lo' := [(5, .int r3), (4, .int s0), (0, .ref 2), (1, .ref 25), (2, .int x2), (3, .int x3)]) dX7_readLevel_65 (by decide) rfl ?_
  refine z_iconst (pc := 67) (v := 0) dX7_readLevel_67 zci_0 ?_
  refine z_istore (pc := 68) (lo' := [(6, .int 0), (5, .int r3), (4, .int s0), (0, .ref 2), (1, .ref 25), (2, .int x2), (3, .int x3)]) dX7_readLevel_68 (by decide) rfl ?_
  exact z_sub [3, 4, 5, 6, 2, 1, 0] rfl (w_X7_readLevel_2_25_L70 l hkF hF zN x2 x3 s0 r3 0 T2 h)
set_option maxRecDepth 100000 in
theorem w_X7_readLevel_2_25_B33 (l : Launch) {kF : Nat} (hkF : 12 ≤ kF) {F : Int32 → Int32 → zS → Option (Int32 × zS)} (hF : ∀ (x2 : Int32) (x3 : Int32) (S : zS) (r : Int32) (S1 : zS), F x2 x3 S = some (r, S1) → zMet zLX l yX7_readLevel cX7_readLevel 7 (some .boolean) kF [.ref 2, .ref 25, .int x2, .int x3] S (some (.int r)) S1) {r : Int32} {S1 : zS} (x2 : Int32) (x3 : Int32) (S : zS) (h : f_X7_readLevel_2_25_B33 F x2 x3 S = some (r, S1)) : WA zLX l RX7 cX7_readLevel 7 (some .boolean) (kF + 2) (some (.int r)) S1 33 [(0, .ref 2), (1, .ref 25), (2, .int x2), (3, .int x3)] [] S := by
  unfold f_X7_readLevel_2_25_B33 at h
  refine z_aload_n (pc := 33) (q := 0) dX7_readLevel_33 rfl rfl ?_
  refine z_aload_n (pc := 34) (q := 1) dX7_readLevel_34 rfl rfl ?_
  refine z_iload_n (pc := 35) (q := 2) dX7_readLevel_35 rfl rfl ?_
  refine z_iconst (pc := 36) (v := 1) dX7_readLevel_36 zci_1 ?_
  refine z_iadd (pc := 37) dX7_readLevel_37 ?_
  refine z_iload_n (pc := 38) (q := 3) dX7_readLevel_38 rfl rfl ?_
  obtain ⟨r3, T2, q1, h⟩ := zb_some h
  refine z_callVi (pc := 39) (st := []) [.ref 25, .int (x2 + 1), .int x3] dX7_readLevel_39 zm_X7_117 zM_X7_readLevel (by omega) oX_2 rfl (hF (x2 + 1) x3 _ _ _ q1) rfl rfl (Nat.le_of_ble_eq_true rfl) ?_
  refine z_if_ne (pc := 42) (tgt := 47) dX7_readLevel_42 (by decide) (fun c4 => ?_) (fun c4 => ?_)
  · have h := ze_some c4 h
    refine z_iload_n (pc := 47) (q := 2) dX7_readLevel_47 rfl rfl ?_
    refine z_iconst (pc := 48) (v := 2) dX7_readLevel_48 zci_2 ?_
    refine z_icmp_ne (pc := 49) (tgt := 56) dX7_readLevel_49 (by decide) (fun c5 => ?_) (fun c5 => ?_)
    · have h := ze_some c5 h
      refine z_bipush (pc := 56) (v := 30) dX7_readLevel_56 zcb_30 ?_
      exact w_X7_readLevel_2_25_B58 l hkF hF x2 x3 30 T2 h
    · have h := zt_some c5 h
      refine z_iconst (pc := 52) (v := 1) dX7_readLevel_52 zci_1 ?_
      refine z_goto (pc := 53) (tgt := 58) dX7_readLevel_53 (by decide) ?_
      exact w_X7_readLevel_2_25_B58 l hkF hF x2 x3 1 T2 h
  · have h := zt_some c4 h
    refine z_iconst (pc := 45) (v := 0) dX7_readLevel_45 zci_0 ?_
    obtain ⟨rfl, rfl⟩ := zr_some h
    exact z_zret dX7_readLevel_46 rfl
set_option maxRecDepth 100000 in
theorem wb_X7_readLevel_2_25 (l : Launch) {kF : Nat} (hkF : 12 ≤ kF) {F : Int32 → Int32 → zS → Option (Int32 × zS)} (hF : ∀ (x2 : Int32) (x3 : Int32) (S : zS) (r : Int32) (S1 : zS), F x2 x3 S = some (r, S1) → zMet zLX l yX7_readLevel cX7_readLevel 7 (some .boolean) kF [.ref 2, .ref 25, .int x2, .int x3] S (some (.int r)) S1) {x2 : Int32} {x3 : Int32} {S : zS} {r : Int32} {S1 : zS} (h : fb_X7_readLevel_2_25 F x2 x3 S = some (r, S1)) : zMet zLX l yX7_readLevel cX7_readLevel 7 (some .boolean) (kF + 2) [.ref 2, .ref 25, .int x2, .int x3] S (some (.int r)) S1 := by
  unfold fb_X7_readLevel_2_25 at h
  refine zMet.of (by decide +kernel) (Nat.le_of_ble_eq_true rfl) ?_
  show WA zLX l RX7 cX7_readLevel 7 (some .boolean) (kF + 2) (some (.int r)) S1 0 [(0, .ref 2), (1, .ref 25), (2, .int x2), (3, .int x3)] [] S
  refine z_iload_n (pc := 0) (q := 2) dX7_readLevel_0 rfl rfl ?_
  refine z_iconst (pc := 1) (v := 4) dX7_readLevel_1 zci_4 ?_
  refine z_icmp_le (pc := 2) (tgt := 12) dX7_readLevel_2 (by decide) (fun c1 => ?_) (fun c1 => ?_)
  · have h := ze_some c1 h
    refine z_iload_n (pc := 12) (q := 2) dX7_readLevel_12 rfl rfl ?_
    refine z_iconst (pc := 13) (v := 2) dX7_readLevel_13 zci_2 ?_
    refine z_icmp_ne (pc := 14) (tgt := 33) dX7_readLevel_14 (by decide) (fun c2 => ?_) (fun c2 => ?_)
    · have h := ze_some c2 h
      exact w_X7_readLevel_2_25_B33 l hkF hF x2 x3 S h
    · have h := zt_some c2 h
      refine z_aload_n (pc := 17) (q := 0) dX7_readLevel_17 rfl rfl ?_
      refine z_bipush (pc := 18) (v := 19) dX7_readLevel_18 zcb_19 ?_
      obtain ⟨r5, T4, q3, h⟩ := zb_some h
      refine z_callVi (pc := 20) (st := []) [.int 19] dX7_readLevel_20 zm_X7_154 zM_X7_isWord (by omega) oX_2 rfl (w_X7_isWord_2 l q3) rfl rfl (Nat.le_of_ble_eq_true rfl) ?_
      refine z_if_eq (pc := 23) (tgt := 33) dX7_readLevel_23 (by decide) (fun c6 => ?_) (fun c6 => ?_)
      · have h := zt_some c6 h
        exact w_X7_readLevel_2_25_B33 l hkF hF x2 x3 T4 h
      · have h := ze_some c6 h
        refine z_aload_n (pc := 26) (q := 0) dX7_readLevel_26 rfl rfl ?_
        refine z_aload_n (pc := 27) (q := 1) dX7_readLevel_27 rfl rfl ?_
        refine z_iload_n (pc := 28) (q := 3) dX7_readLevel_28 rfl rfl ?_
        obtain ⟨r9, T8, q7, h⟩ := zb_some h
        refine z_callVi (pc := 29) (st := []) [.ref 25, .int x3] dX7_readLevel_29 zm_X7_217 zM_X7_readNot (by omega) oX_2 rfl (w_X7_readNot_2_25 l (Nat.le_trans (by decide) hkF) hF q7) rfl rfl (Nat.le_of_ble_eq_true rfl) ?_
        obtain ⟨c10, h⟩ := zg_some h
        obtain ⟨rfl, rfl⟩ := zr_some h
        exact z_zret dX7_readLevel_32 (znb_n c10)
  · have h := zt_some c1 h
    refine z_aload_n (pc := 5) (q := 0) dX7_readLevel_5 rfl rfl ?_
    refine z_aload_n (pc := 6) (q := 1) dX7_readLevel_6 rfl rfl ?_
    refine z_iload_n (pc := 7) (q := 3) dX7_readLevel_7 rfl rfl ?_
    obtain ⟨r4, T3, q2, h⟩ := zb_some h
    refine z_callVi (pc := 8) (st := []) [.ref 25, .int x3] dX7_readLevel_8 zm_X7_213 zM_X7_readUnit (by omega) oX_2 rfl (w_X7_readUnit_2_25 l (Nat.le_trans (by decide) hkF) hF q2) rfl rfl (Nat.le_of_ble_eq_true rfl) ?_
    obtain ⟨c5, h⟩ := zg_some h
    obtain ⟨rfl, rfl⟩ := zr_some h
    exact z_zret dX7_readLevel_11 (znb_n c5)
def f_X7_readLevel_2_25 : Nat → Int32 → Int32 → zS → Option (Int32 × zS)
  | 0, _, _, _ => none
  | d + 1, x2, x3, S => fb_X7_readLevel_2_25 (f_X7_readLevel_2_25 d) x2 x3 S
theorem wd_X7_readLevel_2_25 (l : Launch) : ∀ (d : Nat) (x2 : Int32) (x3 : Int32) (S : zS) (r : Int32) (S1 : zS), f_X7_readLevel_2_25 d x2 x3 S = some (r, S1) → zMet zLX l yX7_readLevel cX7_readLevel 7 (some .boolean) (12 + 2 * d) [.ref 2, .ref 25, .int x2, .int x3] S (some (.int r)) S1 := by
  intro d
  induction d with
  | zero =>
    intro x2 x3 S r S1 h
    exact nomatch h
  | succ d ih =>
    intro x2 x3 S r S1 h
    rw [f_X7_readLevel_2_25] at h
    exact wb_X7_readLevel_2_25 l (kF := 12 + 2 * d) (by omega) ih h
theorem w_X7_readLevel_2_25 (l : Launch) (d : Nat) {x2 : Int32} {x3 : Int32} {S : zS} {r : Int32} {S1 : zS} (h : f_X7_readLevel_2_25 d x2 x3 S = some (r, S1)) : zMet zLX l yX7_readLevel cX7_readLevel 7 (some .boolean) (12 + 2 * d) [.ref 2, .ref 25, .int x2, .int x3] S (some (.int r)) S1 := wd_X7_readLevel_2_25 l d x2 x3 S r S1 h
def f_X7_readFrost_2_21  (S : zS) : Option (Int32 × zS) :=
  zb (f_X7_beginOnce_2 S) fun r3 T2 =>
  if r3 = 0 then
    some (0, T2)
  else
    zb (f_X7_takeNumber_2 0 100 T2) fun r7 T6 =>
    if r7 = 0 then
      some (0, T6)
    else
      zlet (zput T6 21 9 (T6.1 2 11)) fun T9 =>
      zb (f_X7_takeWord_2 11 T9) fun r12 T11 =>
      if r12 = 0 then
        some (0, T11)
      else
        zb (f_X7_takeNumber_2 1 99 T11) fun r16 T15 =>
        if r16 = 0 then
          some (0, T15)
        else
          zlet (zput T15 21 10 (T15.1 2 11)) fun T18 =>
          some (1, T18)
set_option maxRecDepth 100000 in
theorem w_X7_readFrost_2_21 (l : Launch)  {S : zS} {r : Int32} {S1 : zS} (h : f_X7_readFrost_2_21 S = some (r, S1)) : zMet zLX l yX7_readFrost cX7_readFrost 2 (some .boolean) 7 [.ref 2, .ref 21] S (some (.int r)) S1 := by
  unfold f_X7_readFrost_2_21 at h
  refine zMet.of (by decide +kernel) (Nat.le_of_ble_eq_true rfl) ?_
  show WA zLX l RX7 cX7_readFrost 2 (some .boolean) 7 (some (.int r)) S1 0 [(0, .ref 2), (1, .ref 21)] [] S
  refine z_aload_n (pc := 0) (q := 0) dX7_readFrost_0 rfl rfl ?_
  obtain ⟨r3, T2, q1, h⟩ := zb_some h
  refine z_callVi (pc := 1) (st := []) [] dX7_readFrost_1 zm_X7_109 zM_X7_beginOnce (by decide) oX_2 rfl (w_X7_beginOnce_2 l q1) rfl rfl (Nat.le_of_ble_eq_true rfl) ?_
  refine z_if_eq (pc := 4) (tgt := 17) dX7_readFrost_4 (by decide) (fun c4 => ?_) (fun c4 => ?_)
  · have h := zt_some c4 h
    refine z_iconst (pc := 17) (v := 0) dX7_readFrost_17 zci_0 ?_
    obtain ⟨rfl, rfl⟩ := zr_some h
    exact z_zret dX7_readFrost_18 rfl
  · have h := ze_some c4 h
    refine z_aload_n (pc := 7) (q := 0) dX7_readFrost_7 rfl rfl ?_
    refine z_iconst (pc := 8) (v := 0) dX7_readFrost_8 zci_0 ?_
    refine z_bipush (pc := 9) (v := 100) dX7_readFrost_9 zcb_100 ?_
    obtain ⟨r7, T6, q5, h⟩ := zb_some h
    refine z_callVi (pc := 11) (st := []) [.int 0, .int 100] dX7_readFrost_11 zm_X7_130 zM_X7_takeNumber (by decide) oX_2 rfl (w_X7_takeNumber_2 l q5) rfl rfl (Nat.le_of_ble_eq_true rfl) ?_
    refine z_if_ne (pc := 14) (tgt := 19) dX7_readFrost_14 (by decide) (fun c8 => ?_) (fun c8 => ?_)
    · have h := ze_some c8 h
      refine z_aload_n (pc := 19) (q := 1) dX7_readFrost_19 rfl rfl ?_
      refine z_aload_n (pc := 20) (q := 0) dX7_readFrost_20 rfl rfl ?_
      refine z_getI (pc := 21) dX7_readFrost_21 zf_X7_134 gX_2_11 ?_
      obtain ⟨T9, eT9, h⟩ := zl_some h
      refine z_putI (pc := 24) dX7_readFrost_24 zp_X7_194 gX_21_9 rfl rfl eT9 ?_
      refine z_aload_n (pc := 27) (q := 0) dX7_readFrost_27 rfl rfl ?_
      refine z_bipush (pc := 28) (v := 11) dX7_readFrost_28 zcb_11 ?_
      obtain ⟨r12, T11, q10, h⟩ := zb_some h
      refine z_callVi (pc := 30) (st := []) [.int 11] dX7_readFrost_30 zm_X7_147 zM_X7_takeWord (by decide) oX_2 rfl (w_X7_takeWord_2 l q10) rfl rfl (Nat.le_of_ble_eq_true rfl) ?_
      refine z_if_eq (pc := 33) (tgt := 46) dX7_readFrost_33 (by decide) (fun c13 => ?_) (fun c13 => ?_)
      · have h := zt_some c13 h
        refine z_iconst (pc := 46) (v := 0) dX7_readFrost_46 zci_0 ?_
        obtain ⟨rfl, rfl⟩ := zr_some h
        exact z_zret dX7_readFrost_47 rfl
      · have h := ze_some c13 h
        refine z_aload_n (pc := 36) (q := 0) dX7_readFrost_36 rfl rfl ?_
        refine z_iconst (pc := 37) (v := 1) dX7_readFrost_37 zci_1 ?_
        refine z_bipush (pc := 38) (v := 99) dX7_readFrost_38 zcb_99 ?_
        obtain ⟨r16, T15, q14, h⟩ := zb_some h
        refine z_callVi (pc := 40) (st := []) [.int 1, .int 99] dX7_readFrost_40 zm_X7_130 zM_X7_takeNumber (by decide) oX_2 rfl (w_X7_takeNumber_2 l q14) rfl rfl (Nat.le_of_ble_eq_true rfl) ?_
        refine z_if_ne (pc := 43) (tgt := 48) dX7_readFrost_43 (by decide) (fun c17 => ?_) (fun c17 => ?_)
        · have h := ze_some c17 h
          refine z_aload_n (pc := 48) (q := 1) dX7_readFrost_48 rfl rfl ?_
          refine z_aload_n (pc := 49) (q := 0) dX7_readFrost_49 rfl rfl ?_
          refine z_getI (pc := 50) dX7_readFrost_50 zf_X7_134 gX_2_11 ?_
          obtain ⟨T18, eT18, h⟩ := zl_some h
          refine z_putI (pc := 53) dX7_readFrost_53 zp_X7_197 gX_21_10 rfl rfl eT18 ?_
          refine z_iconst (pc := 56) (v := 1) dX7_readFrost_56 zci_1 ?_
          obtain ⟨rfl, rfl⟩ := zr_some h
          exact z_zret dX7_readFrost_57 rfl
        · have h := zt_some c17 h
          refine z_iconst (pc := 46) (v := 0) dX7_readFrost_46 zci_0 ?_
          obtain ⟨rfl, rfl⟩ := zr_some h
          exact z_zret dX7_readFrost_47 rfl
    · have h := zt_some c8 h
      refine z_iconst (pc := 17) (v := 0) dX7_readFrost_17 zci_0 ?_
      obtain ⟨rfl, rfl⟩ := zr_some h
      exact z_zret dX7_readFrost_18 rfl
def f_X7_readDraw_2_21  (S : zS) : Option (Int32 × zS) :=
  zb (f_X7_beginOnce_2 S) fun r3 T2 =>
  if r3 = 0 then
    some (0, T2)
  else
    zb (f_X7_takeNumber_2 0 999 T2) fun r7 T6 =>
    if r7 = 0 then
      some (0, T6)
    else
      zlet (zput T6 21 11 (T6.1 2 11)) fun T9 =>
      some (1, T9)
set_option maxRecDepth 100000 in
theorem w_X7_readDraw_2_21 (l : Launch)  {S : zS} {r : Int32} {S1 : zS} (h : f_X7_readDraw_2_21 S = some (r, S1)) : zMet zLX l yX7_readDraw cX7_readDraw 2 (some .boolean) 7 [.ref 2, .ref 21] S (some (.int r)) S1 := by
  unfold f_X7_readDraw_2_21 at h
  refine zMet.of (by decide +kernel) (Nat.le_of_ble_eq_true rfl) ?_
  show WA zLX l RX7 cX7_readDraw 2 (some .boolean) 7 (some (.int r)) S1 0 [(0, .ref 2), (1, .ref 21)] [] S
  refine z_aload_n (pc := 0) (q := 0) dX7_readDraw_0 rfl rfl ?_
  obtain ⟨r3, T2, q1, h⟩ := zb_some h
  refine z_callVi (pc := 1) (st := []) [] dX7_readDraw_1 zm_X7_109 zM_X7_beginOnce (by decide) oX_2 rfl (w_X7_beginOnce_2 l q1) rfl rfl (Nat.le_of_ble_eq_true rfl) ?_
  refine z_if_eq (pc := 4) (tgt := 18) dX7_readDraw_4 (by decide) (fun c4 => ?_) (fun c4 => ?_)
  · have h := zt_some c4 h
    refine z_iconst (pc := 18) (v := 0) dX7_readDraw_18 zci_0 ?_
    obtain ⟨rfl, rfl⟩ := zr_some h
    exact z_zret dX7_readDraw_19 rfl
  · have h := ze_some c4 h
    refine z_aload_n (pc := 7) (q := 0) dX7_readDraw_7 rfl rfl ?_
    refine z_iconst (pc := 8) (v := 0) dX7_readDraw_8 zci_0 ?_
    refine z_sipush (pc := 9) (v := 999) dX7_readDraw_9 zcs_999 ?_
    obtain ⟨r7, T6, q5, h⟩ := zb_some h
    refine z_callVi (pc := 12) (st := []) [.int 0, .int 999] dX7_readDraw_12 zm_X7_130 zM_X7_takeNumber (by decide) oX_2 rfl (w_X7_takeNumber_2 l q5) rfl rfl (Nat.le_of_ble_eq_true rfl) ?_
    refine z_if_ne (pc := 15) (tgt := 20) dX7_readDraw_15 (by decide) (fun c8 => ?_) (fun c8 => ?_)
    · have h := ze_some c8 h
      refine z_aload_n (pc := 20) (q := 1) dX7_readDraw_20 rfl rfl ?_
      refine z_aload_n (pc := 21) (q := 0) dX7_readDraw_21 rfl rfl ?_
      refine z_getI (pc := 22) dX7_readDraw_22 zf_X7_134 gX_2_11 ?_
      obtain ⟨T9, eT9, h⟩ := zl_some h
      refine z_putI (pc := 25) dX7_readDraw_25 zp_X7_200 gX_21_11 rfl rfl eT9 ?_
      refine z_iconst (pc := 28) (v := 1) dX7_readDraw_28 zci_1 ?_
      obtain ⟨rfl, rfl⟩ := zr_some h
      exact z_zret dX7_readDraw_29 rfl
    · have h := zt_some c8 h
      refine z_iconst (pc := 18) (v := 0) dX7_readDraw_18 zci_0 ?_
      obtain ⟨rfl, rfl⟩ := zr_some h
      exact z_zret dX7_readDraw_19 rfl
def f_X7_readLine_2_21_B16 (s0 : Int32) (S : zS) : Option (Int32 × zS) :=
  if s0 = 0 then
    zb (f_X7_readStakes_2_21 S) fun r4 T3 =>
    if znb r4 then some (r4, T3) else none
  else
    if s0 = 1 then
      zb (f_X7_readPlant_2_21 S) fun r5 T4 =>
      if znb r5 then some (r5, T4) else none
    else
      if s0 = 2 then
        zb (f_X7_readTopic_2_21 S) fun r6 T5 =>
        if znb r6 then some (r6, T5) else none
      else
        if s0 = 3 then
          zb (f_X7_readBill_2_21 S) fun r7 T6 =>
          if znb r7 then some (r7, T6) else none
        else
          if s0 = 4 then
            zb (f_X7_readParty_2_21 S) fun r8 T7 =>
            if znb r8 then some (r8, T7) else none
          else
            if s0 = 5 then
              zb (f_X7_readWants_2_21 S) fun r9 T8 =>
              if znb r9 then some (r9, T8) else none
            else
              if s0 = 6 then
                zb (f_X7_beginOnce_2 S) fun r10 T9 =>
                if r10 = 0 then
                  some (0, T9)
                else
                  zb (f_X7_readLevel_2_25 zRD 0 0 T9) fun r14 T13 =>
                  if r14 = 0 then
                    some (0, T13)
                  else
                    some (1, T13)
              else
                if s0 = 7 then
                  zb (f_X7_readFrost_2_21 S) fun r11 T10 =>
                  if znb r11 then some (r11, T10) else none
                else
                  if s0 = 8 then
                    zb (f_X7_readDraw_2_21 S) fun r12 T11 =>
                    if znb r12 then some (r12, T11) else none
                  else
                    zb (f_X7_refuseToken_2 S) fun r12 T11 =>
                    if znb r12 then some (r12, T11) else none
def f_X7_readLine_2_21  (S : zS) : Option (Int32 × zS) :=
  if (S.1 2 6) = 1 then
    f_X7_readLine_2_21_B16 (S.1 2 7) S
  else
    f_X7_readLine_2_21_B16 (-1) S
set_option maxRecDepth 100000 in
theorem w_X7_readLine_2_21_B16 (l : Launch) {r : Int32} {S1 : zS} (s0 : Int32) (S : zS) (h : f_X7_readLine_2_21_B16 s0 S = some (r, S1)) : WA zLX l RX7 cX7_readLine 2 (some .boolean) 173 (some (.int r)) S1 16 [(0, .ref 2), (1, .ref 21)] [.int s0] S := by
  unfold f_X7_readLine_2_21_B16 at h
  refine z_tsw (pc := 16) 142 [(0, 68), (1, 74), (2, 80), (3, 86), (4, 92), (5, 98), (6, 104), (7, 130), (8, 136)] dX7_readLine_16 (by decide) (by decide +kernel) (by decide +kernel) ?_
  refine zsw_c (fun c1 => ?_) (fun c1 => ?_)
  · have h := zt_some c1 h
    refine z_aload_n (pc := 68) (q := 0) dX7_readLine_68 rfl rfl ?_
    refine z_aload_n (pc := 69) (q := 1) dX7_readLine_69 rfl rfl ?_
    obtain ⟨r4, T3, q2, h⟩ := zb_some h
    refine z_callVi (pc := 70) (st := []) [.ref 21] dX7_readLine_70 zm_X7_91 zM_X7_readStakes (by decide) oX_2 rfl (w_X7_readStakes_2_21 l q2) rfl rfl (Nat.le_of_ble_eq_true rfl) ?_
    obtain ⟨c5, h⟩ := zg_some h
    obtain ⟨rfl, rfl⟩ := zr_some h
    exact z_zret dX7_readLine_73 (znb_n c5)
  · have h := ze_some c1 h
    refine zsw_c (fun c2 => ?_) (fun c2 => ?_)
    · have h := zt_some c2 h
      refine z_aload_n (pc := 74) (q := 0) dX7_readLine_74 rfl rfl ?_
      refine z_aload_n (pc := 75) (q := 1) dX7_readLine_75 rfl rfl ?_
      obtain ⟨r5, T4, q3, h⟩ := zb_some h
      refine z_callVi (pc := 76) (st := []) [.ref 21] dX7_readLine_76 zm_X7_94 zM_X7_readPlant (by decide) oX_2 rfl (w_X7_readPlant_2_21 l q3) rfl rfl (Nat.le_of_ble_eq_true rfl) ?_
      obtain ⟨c6, h⟩ := zg_some h
      obtain ⟨rfl, rfl⟩ := zr_some h
      exact z_zret dX7_readLine_79 (znb_n c6)
    · have h := ze_some c2 h
      refine zsw_c (fun c3 => ?_) (fun c3 => ?_)
      · have h := zt_some c3 h
        refine z_aload_n (pc := 80) (q := 0) dX7_readLine_80 rfl rfl ?_
        refine z_aload_n (pc := 81) (q := 1) dX7_readLine_81 rfl rfl ?_
        obtain ⟨r6, T5, q4, h⟩ := zb_some h
        refine z_callVi (pc := 82) (st := []) [.ref 21] dX7_readLine_82 zm_X7_97 zM_X7_readTopic (by decide) oX_2 rfl (w_X7_readTopic_2_21 l q4) rfl rfl (Nat.le_of_ble_eq_true rfl) ?_
        obtain ⟨c7, h⟩ := zg_some h
        obtain ⟨rfl, rfl⟩ := zr_some h
        exact z_zret dX7_readLine_85 (znb_n c7)
      · have h := ze_some c3 h
        refine zsw_c (fun c4 => ?_) (fun c4 => ?_)
        · have h := zt_some c4 h
          refine z_aload_n (pc := 86) (q := 0) dX7_readLine_86 rfl rfl ?_
          refine z_aload_n (pc := 87) (q := 1) dX7_readLine_87 rfl rfl ?_
          obtain ⟨r7, T6, q5, h⟩ := zb_some h
          refine z_callVi (pc := 88) (st := []) [.ref 21] dX7_readLine_88 zm_X7_100 zM_X7_readBill (by decide) oX_2 rfl (w_X7_readBill_2_21 l q5) rfl rfl (Nat.le_of_ble_eq_true rfl) ?_
          obtain ⟨c8, h⟩ := zg_some h
          obtain ⟨rfl, rfl⟩ := zr_some h
          exact z_zret dX7_readLine_91 (znb_n c8)
        · have h := ze_some c4 h
          refine zsw_c (fun c5 => ?_) (fun c5 => ?_)
          · have h := zt_some c5 h
            refine z_aload_n (pc := 92) (q := 0) dX7_readLine_92 rfl rfl ?_
            refine z_aload_n (pc := 93) (q := 1) dX7_readLine_93 rfl rfl ?_
            obtain ⟨r8, T7, q6, h⟩ := zb_some h
            refine z_callVi (pc := 94) (st := []) [.ref 21] dX7_readLine_94 zm_X7_103 zM_X7_readParty (by decide) oX_2 rfl (w_X7_readParty_2_21 l q6) rfl rfl (Nat.le_of_ble_eq_true rfl) ?_
            obtain ⟨c9, h⟩ := zg_some h
            obtain ⟨rfl, rfl⟩ := zr_some h
            exact z_zret dX7_readLine_97 (znb_n c9)
          · have h := ze_some c5 h
            refine zsw_c (fun c6 => ?_) (fun c6 => ?_)
            · have h := zt_some c6 h
              refine z_aload_n (pc := 98) (q := 0) dX7_readLine_98 rfl rfl ?_
              refine z_aload_n (pc := 99) (q := 1) dX7_readLine_99 rfl rfl ?_
              obtain ⟨r9, T8, q7, h⟩ := zb_some h
              refine z_callVi (pc := 100) (st := []) [.ref 21] dX7_readLine_100 zm_X7_106 zM_X7_readWants (by decide) oX_2 rfl (w_X7_readWants_2_21 l q7) rfl rfl (Nat.le_of_ble_eq_true rfl) ?_
              obtain ⟨c10, h⟩ := zg_some h
              obtain ⟨rfl, rfl⟩ := zr_some h
              exact z_zret dX7_readLine_103 (znb_n c10)
            · have h := ze_some c6 h
              refine zsw_c (fun c7 => ?_) (fun c7 => ?_)
              · have h := zt_some c7 h
                refine z_aload_n (pc := 104) (q := 0) dX7_readLine_104 rfl rfl ?_
                obtain ⟨r10, T9, q8, h⟩ := zb_some h
                refine z_callVi (pc := 105) (st := []) [] dX7_readLine_105 zm_X7_109 zM_X7_beginOnce (by decide) oX_2 rfl (w_X7_beginOnce_2 l q8) rfl rfl (Nat.le_of_ble_eq_true rfl) ?_
                refine z_if_eq (pc := 108) (tgt := 128) dX7_readLine_108 (by decide) (fun c11 => ?_) (fun c11 => ?_)
                · have h := zt_some c11 h
                  refine z_iconst (pc := 128) (v := 0) dX7_readLine_128 zci_0 ?_
                  obtain ⟨rfl, rfl⟩ := zr_some h
                  exact z_zret dX7_readLine_129 rfl
                · have h := ze_some c11 h
                  refine z_aload_n (pc := 111) (q := 0) dX7_readLine_111 rfl rfl ?_
                  refine z_aload_n (pc := 112) (q := 1) dX7_readLine_112 rfl rfl ?_
                  refine z_getR (pc := 113) dX7_readLine_113 zf_X7_113 gX_21_12 ?_
                  refine z_iconst (pc := 116) (v := 0) dX7_readLine_116 zci_0 ?_
                  refine z_iconst (pc := 117) (v := 0) dX7_readLine_117 zci_0 ?_
                  obtain ⟨r14, T13, q12, h⟩ := zb_some h
                  refine z_callVi (pc := 118) (st := []) [.ref 25, .int 0, .int 0] dX7_readLine_118 zm_X7_117 zM_X7_readLevel (by decide) oX_2 rfl (w_X7_readLevel_2_25 l zRD q12) rfl rfl (Nat.le_of_ble_eq_true rfl) ?_
                  refine z_if_eq (pc := 121) (tgt := 128) dX7_readLine_121 (by decide) (fun c15 => ?_) (fun c15 => ?_)
                  · have h := zt_some c15 h
                    refine z_iconst (pc := 128) (v := 0) dX7_readLine_128 zci_0 ?_
                    obtain ⟨rfl, rfl⟩ := zr_some h
                    exact z_zret dX7_readLine_129 rfl
                  · have h := ze_some c15 h
                    refine z_iconst (pc := 124) (v := 1) dX7_readLine_124 zci_1 ?_
                    refine z_goto (pc := 125) (tgt := 129) dX7_readLine_125 (by decide) ?_
                    obtain ⟨rfl, rfl⟩ := zr_some h
                    exact z_zret dX7_readLine_129 rfl
              · have h := ze_some c7 h
                refine zsw_c (fun c8 => ?_) (fun c8 => ?_)
                · have h := zt_some c8 h
                  refine z_aload_n (pc := 130) (q := 0) dX7_readLine_130 rfl rfl ?_
                  refine z_aload_n (pc := 131) (q := 1) dX7_readLine_131 rfl rfl ?_
                  obtain ⟨r11, T10, q9, h⟩ := zb_some h
                  refine z_callVi (pc := 132) (st := []) [.ref 21] dX7_readLine_132 zm_X7_121 zM_X7_readFrost (by decide) oX_2 rfl (w_X7_readFrost_2_21 l q9) rfl rfl (Nat.le_of_ble_eq_true rfl) ?_
                  obtain ⟨c12, h⟩ := zg_some h
                  obtain ⟨rfl, rfl⟩ := zr_some h
                  exact z_zret dX7_readLine_135 (znb_n c12)
                · have h := ze_some c8 h
                  refine zsw_c (fun c9 => ?_) (fun c9 => ?_)
                  · have h := zt_some c9 h
                    refine z_aload_n (pc := 136) (q := 0) dX7_readLine_136 rfl rfl ?_
                    refine z_aload_n (pc := 137) (q := 1) dX7_readLine_137 rfl rfl ?_
                    obtain ⟨r12, T11, q10, h⟩ := zb_some h
                    refine z_callVi (pc := 138) (st := []) [.ref 21] dX7_readLine_138 zm_X7_124 zM_X7_readDraw (by decide) oX_2 rfl (w_X7_readDraw_2_21 l q10) rfl rfl (Nat.le_of_ble_eq_true rfl) ?_
                    obtain ⟨c13, h⟩ := zg_some h
                    obtain ⟨rfl, rfl⟩ := zr_some h
                    exact z_zret dX7_readLine_141 (znb_n c13)
                  · have h := ze_some c9 h
                    refine zsw_n ?_
                    refine z_aload_n (pc := 142) (q := 0) dX7_readLine_142 rfl rfl ?_
                    obtain ⟨r12, T11, q10, h⟩ := zb_some h
                    refine z_callVi (pc := 143) (st := []) [] dX7_readLine_143 zm_X7_127 zM_X7_refuseToken (by decide) oX_2 rfl (w_X7_refuseToken_2 l q10) rfl rfl (Nat.le_of_ble_eq_true rfl) ?_
                    obtain ⟨c13, h⟩ := zg_some h
                    obtain ⟨rfl, rfl⟩ := zr_some h
                    exact z_zret dX7_readLine_146 (znb_n c13)
set_option maxRecDepth 100000 in
theorem w_X7_readLine_2_21 (l : Launch)  {S : zS} {r : Int32} {S1 : zS} (h : f_X7_readLine_2_21 S = some (r, S1)) : zMet zLX l yX7_readLine cX7_readLine 2 (some .boolean) 173 [.ref 2, .ref 21] S (some (.int r)) S1 := by
  unfold f_X7_readLine_2_21 at h
  refine zMet.of (by decide +kernel) (Nat.le_of_ble_eq_true rfl) ?_
  show WA zLX l RX7 cX7_readLine 2 (some .boolean) 173 (some (.int r)) S1 0 [(0, .ref 2), (1, .ref 21)] [] S
  refine z_aload_n (pc := 0) (q := 0) dX7_readLine_0 rfl rfl ?_
  refine z_getI (pc := 1) dX7_readLine_1 zf_X7_68 gX_2_6 ?_
  refine z_iconst (pc := 4) (v := 1) dX7_readLine_4 zci_1 ?_
  refine z_icmp_ne (pc := 5) (tgt := 15) dX7_readLine_5 (by decide) (fun c1 => ?_) (fun c1 => ?_)
  · have h := ze_some c1 h
    refine z_iconst (pc := 15) (v := (-1)) dX7_readLine_15 zci_m1 ?_
    exact w_X7_readLine_2_21_B16 l (-1) S h
  · have h := zt_some c1 h
    refine z_aload_n (pc := 8) (q := 0) dX7_readLine_8 rfl rfl ?_
    refine z_getI (pc := 9) dX7_readLine_9 zf_X7_88 gX_2_7 ?_
    refine z_goto (pc := 12) (tgt := 16) dX7_readLine_12 (by decide) ?_
    exact w_X7_readLine_2_21_B16 l (S.1 2 7) S h
def f_X7_readAll_2_21_B95  (S : zS) : Option (Int32 × zS) :=
  zu (f_X1_sortForReading_29 S) fun T2 =>
  some (1, T2)
def f_X7_readAll_2_21_L46 : Nat → zS → Option (Int32 × zS)
  | 0, _ => none
  | n + 1, S =>
    if (1600 : Int32) < (S.1 2 9) then
      f_X7_readAll_2_21_B95 S
    else
      if (S.1 2 6) = 0 then
        f_X7_readAll_2_21_B95 S
      else
        zb (f_X7_readLine_2_21 S) fun r5 T4 =>
        if r5 = 0 then
          some (0, T4)
        else
          zb (f_X7_takeSign_2 59 T4) fun r9 T8 =>
          if r9 = 0 then
            some (0, T8)
          else
            zlet (zput T8 2 9 ((T8.1 2 9) + 1)) fun T11 =>
            (f_X7_readAll_2_21_L46 n) T11
def f_X7_readAll_2_21 (x1 : Int32) (S : zS) : Option (Int32 × zS) :=
  zlet (zput S 2 0 0) fun T1 =>
  zlet (zput T1 2 1 (-1)) fun T2 =>
  zlet (zput T2 2 3 (zmin x1 1600)) fun T3 =>
  zlet (zput T3 2 5 0) fun T4 =>
  zlet (zput T4 2 10 0) fun T5 =>
  zu (f_X4_clear_21 T5) fun T7 =>
  zu (f_X7_step_2 T7) fun T9 =>
  zlet (zput T9 2 9 0) fun T10 =>
  f_X7_readAll_2_21_L46 zN T10
set_option maxRecDepth 100000 in
theorem w_X7_readAll_2_21_B95 (l : Launch) {r : Int32} {S1 : zS}  (S : zS) (h : f_X7_readAll_2_21_B95 S = some (r, S1)) : WA zLX l RX7 cX7_readAll 3 (some .boolean) 174 (some (.int r)) S1 95 [(2, .ref 21)] [] S := by
  unfold f_X7_readAll_2_21_B95 at h
  refine z_aload_n (pc := 95) (q := 0) dX7_readAll_95 rfl rfl ?_
  refine z_getR (pc := 96) dX7_readAll_96 zf_X7_79 gX_21_13 ?_
  obtain ⟨T2, q1, h⟩ := zu_some h
  refine z_callVv (pc := 99) (st := []) [] dX7_readAll_99 zm_X7_83 zM_X1_sortForReading (by decide) oX_29 rfl (w_X1_sortForReading_29 l q1) rfl rfl (Nat.le_of_ble_eq_true rfl) ?_
  refine z_iconst (pc := 102) (v := 1) dX7_readAll_102 zci_1 ?_
  obtain ⟨rfl, rfl⟩ := zr_some h
  exact z_zret dX7_readAll_103 rfl
set_option maxRecDepth 100000 in
theorem w_X7_readAll_2_21_L46 (l : Launch) {r : Int32} {S1 : zS} : ∀ (n : Nat)  (S : zS), f_X7_readAll_2_21_L46 n S = some (r, S1) → WA zLX l RX7 cX7_readAll 3 (some .boolean) 174 (some (.int r)) S1 46 [(0, .ref 2), (2, .ref 21)] [] S := by
  intro n
  induction n with
  | zero =>
    intro  S h
    exact nomatch h
  | succ n ih =>
    intro  S h
    rw [f_X7_readAll_2_21_L46] at h
    refine z_aload_n (pc := 46) (q := 0) dX7_readAll_46 rfl rfl ?_
    refine z_getI (pc := 47) dX7_readAll_47 zf_X7_65 gX_2_9 ?_
    refine z_sipush (pc := 50) (v := 1600) dX7_readAll_50 zcs_1600 ?_
    refine z_icmp_gt (pc := 53) (tgt := 95) dX7_readAll_53 (by decide) (fun c1 => ?_) (fun c1 => ?_)
    · have h := zt_some c1 h
      exact z_sub [1] rfl (w_X7_readAll_2_21_B95 l S h)
    · have h := ze_some c1 h
      refine z_aload_n (pc := 56) (q := 0) dX7_readAll_56 rfl rfl ?_
      refine z_getI (pc := 57) dX7_readAll_57 zf_X7_68 gX_2_6 ?_
      refine z_if_eq (pc := 60) (tgt := 95) dX7_readAll_60 (by decide) (fun c2 => ?_) (fun c2 => ?_)
      · have h := zt_some c2 h
        exact z_sub [1] rfl (w_X7_readAll_2_21_B95 l S h)
      · have h := ze_some c2 h
        refine z_aload_n (pc := 63) (q := 0) dX7_readAll_63 rfl rfl ?_
        refine z_aload_n (pc := 64) (q := 1) dX7_readAll_64 rfl rfl ?_
        obtain ⟨r5, T4, q3, h⟩ := zb_some h
        refine z_callVi (pc := 65) (st := []) [.ref 21] dX7_readAll_65 zm_X7_71 zM_X7_readLine (by decide) oX_2 rfl (w_X7_readLine_2_21 l q3) rfl rfl (Nat.le_of_ble_eq_true rfl) ?_
        refine z_if_eq (pc := 68) (tgt := 80) dX7_readAll_68 (by decide) (fun c6 => ?_) (fun c6 => ?_)
        · have h := zt_some c6 h
          refine z_iconst (pc := 80) (v := 0) dX7_readAll_80 zci_0 ?_
          obtain ⟨rfl, rfl⟩ := zr_some h
          exact z_zret dX7_readAll_81 rfl
        · have h := ze_some c6 h
          refine z_aload_n (pc := 71) (q := 0) dX7_readAll_71 rfl rfl ?_
          refine z_bipush (pc := 72) (v := 59) dX7_readAll_72 zcb_59 ?_
          obtain ⟨r9, T8, q7, h⟩ := zb_some h
          refine z_callVi (pc := 74) (st := []) [.int 59] dX7_readAll_74 zm_X7_75 zM_X7_takeSign (by decide) oX_2 rfl (w_X7_takeSign_2 l q7) rfl rfl (Nat.le_of_ble_eq_true rfl) ?_
          refine z_if_ne (pc := 77) (tgt := 82) dX7_readAll_77 (by decide) (fun c10 => ?_) (fun c10 => ?_)
          · have h := ze_some c10 h
            refine z_aload_n (pc := 82) (q := 0) dX7_readAll_82 rfl rfl ?_
            refine z_dup (pc := 83) dX7_readAll_83 rfl ?_
            refine z_getI (pc := 84) dX7_readAll_84 zf_X7_65 gX_2_9 ?_
            refine z_iconst (pc := 87) (v := 1) dX7_readAll_87 zci_1 ?_
            refine z_iadd (pc := 88) dX7_readAll_88 ?_
            obtain ⟨T11, eT11, h⟩ := zl_some h
            refine z_putI (pc := 89) dX7_readAll_89 zp_X7_65 gX_2_9 rfl rfl eT11 ?_
            refine z_goto (pc := 92) (tgt := 46) dX7_readAll_92 (by decide) ?_
            exact ih T11 h
          · have h := zt_some c10 h
            refine z_iconst (pc := 80) (v := 0) dX7_readAll_80 zci_0 ?_
            obtain ⟨rfl, rfl⟩ := zr_some h
            exact z_zret dX7_readAll_81 rfl
set_option maxRecDepth 100000 in
theorem w_X7_readAll_2_21 (l : Launch) {x1 : Int32} {S : zS} {r : Int32} {S1 : zS} (h : f_X7_readAll_2_21 x1 S = some (r, S1)) : zMet zLX l yX7_readAll cX7_readAll 3 (some .boolean) 174 [.ref 2, .int x1, .ref 21] S (some (.int r)) S1 := by
  unfold f_X7_readAll_2_21 at h
  refine zMet.of (by decide +kernel) (Nat.le_of_ble_eq_true rfl) ?_
  show WA zLX l RX7 cX7_readAll 3 (some .boolean) 174 (some (.int r)) S1 0 [(0, .ref 2), (1, .int x1), (2, .ref 21)] [] S
  refine z_aload_n (pc := 0) (q := 0) dX7_readAll_0 rfl rfl ?_
  refine z_iconst (pc := 1) (v := 0) dX7_readAll_1 zci_0 ?_
  obtain ⟨T1, eT1, h⟩ := zl_some h
  refine z_putI (pc := 2) dX7_readAll_2 zp_X7_40 gX_2_0 rfl rfl eT1 ?_
  refine z_aload_n (pc := 5) (q := 0) dX7_readAll_5 rfl rfl ?_
  refine z_iconst (pc := 6) (v := (-1)) dX7_readAll_6 zci_m1 ?_
  obtain ⟨T2, eT2, h⟩ := zl_some h
  refine z_putI (pc := 7) dX7_readAll_7 zp_X7_13 gX_2_1 rfl rfl eT2 ?_
  refine z_aload_n (pc := 10) (q := 0) dX7_readAll_10 rfl rfl ?_
  refine z_iload_n (pc := 11) (q := 1) dX7_readAll_11 rfl rfl ?_
  refine z_aload_n (pc := 12) (q := 0) dX7_readAll_12 rfl rfl ?_
  refine z_getR (pc := 13) dX7_readAll_13 zf_X7_17 gX_2_2 ?_
  refine z_alen (pc := 16) (v := 1600) dX7_readAll_16 aX_1 (by decide) (by decide) ?_
  refine z_min (pc := 17) dX7_readAll_17 zm_X7_43 zM_min.1 zM_min.2.1 zM_min.2.2 (by decide) (Nat.le_of_ble_eq_true rfl) ?_
  obtain ⟨T3, eT3, h⟩ := zl_some h
  refine z_putI (pc := 20) dX7_readAll_20 zp_X7_49 gX_2_3 rfl rfl eT3 ?_
  refine z_aload_n (pc := 23) (q := 0) dX7_readAll_23 rfl rfl ?_
  refine z_iconst (pc := 24) (v := 0) dX7_readAll_24 zci_0 ?_
  obtain ⟨T4, eT4, h⟩ := zl_some h
  refine z_putI (pc := 25) dX7_readAll_25 zp_X7_51 gX_2_5 rfl rfl eT4 ?_
  refine z_aload_n (pc := 28) (q := 0) dX7_readAll_28 rfl rfl ?_
  refine z_iconst (pc := 29) (v := 0) dX7_readAll_29 zci_0 ?_
  obtain ⟨T5, eT5, h⟩ := zl_some h
  refine z_putI (pc := 30) dX7_readAll_30 zp_X7_54 gX_2_10 rfl rfl eT5 ?_
  refine z_aload_n (pc := 33) (q := 2) dX7_readAll_33 rfl rfl ?_
  obtain ⟨T7, q6, h⟩ := zu_some h
  refine z_callVv (pc := 34) (st := []) [] dX7_readAll_34 zm_X7_57 zM_X4_clear (by decide) oX_21 rfl (w_X4_clear_21 l q6) rfl rfl (Nat.le_of_ble_eq_true rfl) ?_
  refine z_aload_n (pc := 37) (q := 0) dX7_readAll_37 rfl rfl ?_
  obtain ⟨T9, q8, h⟩ := zu_some h
  refine z_callVv (pc := 38) (st := []) [] dX7_readAll_38 zm_X7_62 zM_X7_step (by decide) oX_2 rfl (w_X7_step_2 l q8) rfl rfl (Nat.le_of_ble_eq_true rfl) ?_
  refine z_aload_n (pc := 41) (q := 0) dX7_readAll_41 rfl rfl ?_
  refine z_iconst (pc := 42) (v := 0) dX7_readAll_42 zci_0 ?_
  obtain ⟨T10, eT10, h⟩ := zl_some h
  refine z_putI (pc := 43) dX7_readAll_43 zp_X7_65 gX_2_9 rfl rfl eT10 ?_
  exact z_sub [0, 2] rfl (w_X7_readAll_2_21_L46 l zN T10 h)
