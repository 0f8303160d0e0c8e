def f_X4_firstLifeOf_5 (x1 : Int32) (S : zS) : Option (Int32 × zS) :=
  if x1 < 0 then
    some (0, S)
  else
    if x1 < 12 then
      if zin x1 12 then
      zlet (S.1 15 x1.toNatClampNeg) fun v4 =>
      if v4 < 0 then
        some (0, S)
      else
        if v4 < 4 then
          if zin v4 4 then
          some (S.1 6 v4.toNatClampNeg, S) else none
        else
          some (0, S) else none
    else
      some (0, S)
set_option maxRecDepth 100000 in
theorem w_X4_firstLifeOf_5 (l : Launch) {x1 : Int32} {S : zS} {r : Int32} {S1 : zS} (h : f_X4_firstLifeOf_5 x1 S = some (r, S1)) : zMet zLX l yX4_firstLifeOf cX4_firstLifeOf 3 (some .int) 1 [.ref 5, .int x1] S (some (.int r)) S1 := by
  unfold f_X4_firstLifeOf_5 at h
  refine zMet.of (by decide +kernel) (Nat.le_of_ble_eq_true rfl) ?_
  show WA zLX l RX4 cX4_firstLifeOf 3 (some .int) 1 (some (.int r)) S1 0 [(0, .ref 5), (1, .int x1)] [] S
  refine z_iload_n (pc := 0) (q := 1) dX4_firstLifeOf_0 rfl rfl ?_
  refine z_if_lt (pc := 1) (tgt := 10) dX4_firstLifeOf_1 (by decide) (fun c1 => ?_) (fun c1 => ?_)
  · have h := zt_some c1 h
    refine z_iconst (pc := 10) (v := 0) dX4_firstLifeOf_10 zci_0 ?_
    obtain ⟨rfl, rfl⟩ := zr_some h
    exact z_iret dX4_firstLifeOf_11
  · have h := ze_some c1 h
    refine z_iload_n (pc := 4) (q := 1) dX4_firstLifeOf_4 rfl rfl ?_
    refine z_bipush (pc := 5) (v := 12) dX4_firstLifeOf_5 zcb_12 ?_
    refine z_icmp_lt (pc := 7) (tgt := 12) dX4_firstLifeOf_7 (by decide) (fun c2 => ?_) (fun c2 => ?_)
    · have h := zt_some c2 h
      refine z_aload_n (pc := 12) (q := 0) dX4_firstLifeOf_12 rfl rfl ?_
      refine z_getR (pc := 13) dX4_firstLifeOf_13 zf_X4_31 gX_5_13 ?_
      refine z_getR (pc := 16) dX4_firstLifeOf_16 zf_X4_67 gX_13_1 ?_
      refine z_iload_n (pc := 19) (q := 1) dX4_firstLifeOf_19 rfl rfl ?_
      obtain ⟨c3, h⟩ := zg_some h
      refine z_iald (pc := 20) dX4_firstLifeOf_20 aX_15 c3 ?_
      obtain ⟨v4, ev4, h⟩ := zl_some h
      refine z_top ev4 ?_
      refine z_istore_n (pc := 21) (lo' := [(2, .int v4), (0, .ref 5), (1, .int x1)]) dX4_firstLifeOf_21 rfl (by decide) rfl ?_
      refine z_iload_n (pc := 22) (q := 0) dX4_firstLifeOf_22 rfl rfl ?_
      refine z_if_lt (pc := 23) (tgt := 44) dX4_firstLifeOf_23 (by decide) (fun c5 => ?_) (fun c5 => ?_)
      · have h := zt_some c5 h
        refine z_iconst (pc := 44) (v := 0) dX4_firstLifeOf_44 zci_0 ?_
        obtain ⟨rfl, rfl⟩ := zr_some h
        exact z_iret dX4_firstLifeOf_45
      · have h := ze_some c5 h
        refine z_iload_n (pc := 26) (q := 0) dX4_firstLifeOf_26 rfl rfl ?_
        refine z_aload_n (pc := 27) (q := 1) dX4_firstLifeOf_27 rfl rfl ?_
        refine z_getR (pc := 28) dX4_firstLifeOf_28 zf_X4_9 gX_5_5 ?_
        refine z_alen (pc := 31) (v := 4) dX4_firstLifeOf_31 aX_6 (by decide) (by decide) ?_
        refine z_icmp_ge (pc := 32) (tgt := 44) dX4_firstLifeOf_32 (by decide) (fun c6 => ?_) (fun c6 => ?_)
        · have h := ze_some c6 h
          refine z_iconst (pc := 44) (v := 0) dX4_firstLifeOf_44 zci_0 ?_
          obtain ⟨rfl, rfl⟩ := zr_some h
          exact z_iret dX4_firstLifeOf_45
        · have h := zt_some c6 h
          refine z_aload_n (pc := 35) (q := 1) dX4_firstLifeOf_35 rfl rfl ?_
          refine z_getR (pc := 36) dX4_firstLifeOf_36 zf_X4_9 gX_5_5 ?_
          refine z_iload_n (pc := 39) (q := 0) dX4_firstLifeOf_39 rfl rfl ?_
          obtain ⟨c7, h⟩ := zg_some h
          refine z_iald (pc := 40) dX4_firstLifeOf_40 aX_6 c7 ?_
          refine z_goto (pc := 41) (tgt := 45) dX4_firstLifeOf_41 (by decide) ?_
          obtain ⟨rfl, rfl⟩ := zr_some h
          exact z_iret dX4_firstLifeOf_45
    · have h := ze_some c2 h
      refine z_iconst (pc := 10) (v := 0) dX4_firstLifeOf_10 zci_0 ?_
      obtain ⟨rfl, rfl⟩ := zr_some h
      exact z_iret dX4_firstLifeOf_11
def f_X3_begin_37_5_B51 (K23 : Int32 → zS → Option zS) (x2 : Int32) (s0 : Int32) (s1 : Int32) (S : zS) : Option zS :=
  if zin s1 12 then
  zlet (zput S 38 s1.toNatClampNeg s0) fun T2 =>
  if zin x2 12 then
  zlet (zput T2 39 x2.toNatClampNeg 0) fun T4 =>
  zlet (x2 + 1) fun v5 =>
  K23 v5 T4 else none else none
def f_X3_begin_37_5_L23 : Nat → Int32 → zS → Option zS
  | 0, _, _ => none
  | n + 1, x2, S =>
    if x2 < 12 then
      if x2 < (S.1 37 0) then
        zb (f_X4_firstLifeOf_5 x2 S) fun r5 T4 =>
        f_X3_begin_37_5_B51 (f_X3_begin_37_5_L23 n) x2 r5 x2 T4
      else
        f_X3_begin_37_5_B51 (f_X3_begin_37_5_L23 n) x2 0 x2 S
    else
      some S
def f_X3_begin_37_5  (S : zS) : Option zS :=
  zlet (zput S 37 0 (S.1 5 4)) fun T1 =>
  zlet (zput T1 37 1 0) fun T2 =>
  zlet (zput T2 37 2 (T2.1 5 11)) fun T3 =>
  f_X3_begin_37_5_L23 zN 0 T3
set_option maxRecDepth 100000 in
theorem w_X3_begin_37_5_B51 (l : Launch) {S1 : zS} (K23 : Int32 → zS → Option zS) (hK23 : ∀ (x2 : Int32) (S : zS), K23 x2 S = some S1 → WA zLX l RX3 cX3_begin 3 none 2 none S1 23 [(0, .ref 37), (1, .ref 5), (2, .int x2)] [] S) (x2 : Int32) (s0 : Int32) (s1 : Int32) (S : zS) (h : f_X3_begin_37_5_B51 K23 x2 s0 s1 S = some S1) : WA zLX l RX3 cX3_begin 3 none 2 none S1 51 [(0, .ref 37), (1, .ref 5), (2, .int x2)] [.int s0, .int s1, .ref 38] S := by
  unfold f_X3_begin_37_5_B51 at h
  obtain ⟨c1, h⟩ := zg_some h
  obtain ⟨T2, eT2, h⟩ := zl_some h
  refine z_iast (pc := 51) dX3_begin_51 aX_38 c1 eT2 ?_
  refine z_aload_n (pc := 52) (q := 0) dX3_begin_52 rfl rfl ?_
  refine z_getR (pc := 53) dX3_begin_53 zf_X3_15 gX_37_4 ?_
  refine z_iload_n (pc := 56) (q := 2) dX3_begin_56 rfl rfl ?_
  refine z_iconst (pc := 57) (v := 0) dX3_begin_57 zci_0 ?_
  obtain ⟨c3, h⟩ := zg_some h
  obtain ⟨T4, eT4, h⟩ := zl_some h
  refine z_iast (pc := 58) dX3_begin_58 aX_39 c3 eT4 ?_
  obtain ⟨v5, ev5, h⟩ := zl_some h
  refine z_iinc (pc := 59) (q := 2) (v := v5) (lo' := [(2, .int v5), (0, .ref 37), (1, .ref 5)]) dX3_begin_59 rfl (by rw [ev5, zci_1]) (by decide) rfl ?_
  refine z_goto (pc := 62) (tgt := 23) dX3_begin_62 (by decide) ?_
  exact z_sub [1, 2, 0] rfl (hK23 v5 T4 h)
set_option maxRecDepth 100000 in
theorem w_X3_begin_37_5_L23 (l : Launch) {S1 : zS} : ∀ (n : Nat) (x2 : Int32) (S : zS), f_X3_begin_37_5_L23 n x2 S = some S1 → WA zLX l RX3 cX3_begin 3 none 2 none S1 23 [(0, .ref 37), (1, .ref 5), (2, .int x2)] [] S := by
  intro n
  induction n with
  | zero =>
    intro x2 S h
    exact nomatch h
  | succ n ih =>
    intro x2 S h
    rw [f_X3_begin_37_5_L23] at h
    refine z_iload_n (pc := 23) (q := 2) dX3_begin_23 rfl rfl ?_
    refine z_bipush (pc := 24) (v := 12) dX3_begin_24 zcb_12 ?_
    refine z_icmp_ge (pc := 26) (tgt := 65) dX3_begin_26 (by decide) (fun c1 => ?_) (fun c1 => ?_)
    · have h := ze_some c1 h
      cases h
      exact z_vret dX3_begin_65
    · have h := zt_some c1 h
      refine z_aload_n (pc := 29) (q := 0) dX3_begin_29 rfl rfl ?_
      refine z_getR (pc := 30) dX3_begin_30 zf_X3_9 gX_37_3 ?_
      refine z_iload_n (pc := 33) (q := 2) dX3_begin_33 rfl rfl ?_
      refine z_iload_n (pc := 34) (q := 2) dX3_begin_34 rfl rfl ?_
      refine z_aload_n (pc := 35) (q := 0) dX3_begin_35 rfl rfl ?_
      refine z_getI (pc := 36) dX3_begin_36 zf_X3_24 gX_37_0 ?_
      refine z_icmp_ge (pc := 39) (tgt := 50) dX3_begin_39 (by decide) (fun c2 => ?_) (fun c2 => ?_)
      · have h := ze_some c2 h
        refine z_iconst (pc := 50) (v := 0) dX3_begin_50 zci_0 ?_
        exact w_X3_begin_37_5_B51 l (f_X3_begin_37_5_L23 n) ih x2 0 x2 S h
      · have h := zt_some c2 h
        refine z_aload_n (pc := 42) (q := 1) dX3_begin_42 rfl rfl ?_
        refine z_iload_n (pc := 43) (q := 2) dX3_begin_43 rfl rfl ?_
        obtain ⟨r5, T4, q3, h⟩ := zb_some h
        refine z_callVi (pc := 44) (st := [.int x2, .ref 38]) [.int x2] dX3_begin_44 zm_X3_36 zM_X4_firstLifeOf (by decide) oX_5 rfl (w_X4_firstLifeOf_5 l q3) rfl rfl (Nat.le_of_ble_eq_true rfl) ?_
        refine z_goto (pc := 47) (tgt := 51) dX3_begin_47 (by decide) ?_
        exact w_X3_begin_37_5_B51 l (f_X3_begin_37_5_L23 n) ih x2 r5 x2 T4 h
set_option maxRecDepth 100000 in
theorem w_X3_begin_37_5 (l : Launch)  {S : zS} {S1 : zS} (h : f_X3_begin_37_5 S = some S1) : zMet zLX l yX3_begin cX3_begin 3 none 2 [.ref 37, .ref 5] S none S1 := by
  unfold f_X3_begin_37_5 at h
  refine zMet.of (by decide +kernel) (Nat.le_of_ble_eq_true rfl) ?_
  show WA zLX l RX3 cX3_begin 3 none 2 none S1 0 [(0, .ref 37), (1, .ref 5)] [] S
  refine z_aload_n (pc := 0) (q := 0) dX3_begin_0 rfl rfl ?_
  refine z_aload_n (pc := 1) (q := 1) dX3_begin_1 rfl rfl ?_
  refine z_getI (pc := 2) dX3_begin_2 zf_X3_18 gX_5_4 ?_
  obtain ⟨T1, eT1, h⟩ := zl_some h
  refine z_putI (pc := 5) dX3_begin_5 zp_X3_24 gX_37_0 rfl rfl eT1 ?_
  refine z_aload_n (pc := 8) (q := 0) dX3_begin_8 rfl rfl ?_
  refine z_iconst (pc := 9) (v := 0) dX3_begin_9 zci_0 ?_
  obtain ⟨T2, eT2, h⟩ := zl_some h
  refine z_putI (pc := 10) dX3_begin_10 zp_X3_27 gX_37_1 rfl rfl eT2 ?_
  refine z_aload_n (pc := 13) (q := 0) dX3_begin_13 rfl rfl ?_
  refine z_aload_n (pc := 14) (q := 1) dX3_begin_14 rfl rfl ?_
  refine z_getI (pc := 15) dX3_begin_15 zf_X3_30 gX_5_11 ?_
  obtain ⟨T3, eT3, h⟩ := zl_some h
  refine z_putI (pc := 18) dX3_begin_18 zp_X3_33 gX_37_2 rfl rfl eT3 ?_
  refine z_iconst (pc := 21) (v := 0) dX3_begin_21 zci_0 ?_
  refine z_istore_n (pc := 22) (lo' := [(2, .int 0), (0, .ref 37), (1, .ref 5)]) dX3_begin_22 rfl (by decide) rfl ?_
  exact z_sub [1, 2, 0] rfl (w_X3_begin_37_5_L23 l zN 0 T3 h)
def f_X5_clear_45  (S : zS) : Option zS :=
  zlet (zput S 45 0 0) fun T1 =>
  some T1
set_option maxRecDepth 100000 in
theorem w_X5_clear_45 (l : Launch)  {S : zS} {S1 : zS} (h : f_X5_clear_45 S = some S1) : zMet zLX l yX5_clear cX5_clear 1 none 1 [.ref 45] S none S1 := by
  unfold f_X5_clear_45 at h
  refine zMet.of (by decide +kernel) (Nat.le_of_ble_eq_true rfl) ?_
  show WA zLX l RX5 cX5_clear 1 none 1 none S1 0 [(0, .ref 45)] [] S
  refine z_aload_n (pc := 0) (q := 0) dX5_clear_0 rfl rfl ?_
  refine z_iconst (pc := 1) (v := 0) dX5_clear_1 zci_0 ?_
  obtain ⟨T1, eT1, h⟩ := zl_some h
  refine z_putI (pc := 2) dX5_clear_2 zp_X5_19 gX_45_0 rfl rfl eT1 ?_
  cases h
  exact z_vret dX5_clear_5
def f_X8_clear_47  (S : zS) : Option zS :=
  zlet (zput S 47 0 0) fun T1 =>
  some T1
set_option maxRecDepth 100000 in
theorem w_X8_clear_47 (l : Launch)  {S : zS} {S1 : zS} (h : f_X8_clear_47 S = some S1) : zMet zLX l yX8_clear cX8_clear 1 none 1 [.ref 47] S none S1 := by
  unfold f_X8_clear_47 at h
  refine zMet.of (by decide +kernel) (Nat.le_of_ble_eq_true rfl) ?_
  show WA zLX l RX8 cX8_clear 1 none 1 none S1 0 [(0, .ref 47)] [] S
  refine z_aload_n (pc := 0) (q := 0) dX8_clear_0 rfl rfl ?_
  refine z_iconst (pc := 1) (v := 0) dX8_clear_1 zci_0 ?_
  obtain ⟨T1, eT1, h⟩ := zl_some h
  refine z_putI (pc := 2) dX8_clear_2 zp_X8_24 gX_47_0 rfl rfl eT1 ?_
  cases h
  exact z_vret dX8_clear_5
def f_X0_presentRow_43  (S : zS) : Option (Int32 × zS) :=
  some ((zrem ((S.1 43 2) + (S.1 43 0)) 41) * 27, S)
set_option maxRecDepth 100000 in
theorem w_X0_presentRow_43 (l : Launch)  {S : zS} {r : Int32} {S1 : zS} (h : f_X0_presentRow_43 S = some (r, S1)) : zMet zLX l yX0_presentRow cX0_presentRow 1 (some .int) 1 [.ref 43] S (some (.int r)) S1 := by
  unfold f_X0_presentRow_43 at h
  refine zMet.of (by decide +kernel) (Nat.le_of_ble_eq_true rfl) ?_
  show WA zLX l RX0 cX0_presentRow 1 (some .int) 1 (some (.int r)) S1 0 [(0, .ref 43)] [] S
  refine z_aload_n (pc := 0) (q := 0) dX0_presentRow_0 rfl rfl ?_
  refine z_getI (pc := 1) dX0_presentRow_1 zf_X0_17 gX_43_2 ?_
  refine z_aload_n (pc := 4) (q := 0) dX0_presentRow_4 rfl rfl ?_
  refine z_getI (pc := 5) dX0_presentRow_5 zf_X0_21 gX_43_0 ?_
  refine z_iadd (pc := 8) dX0_presentRow_8 ?_
  refine z_bipush (pc := 9) (v := 41) dX0_presentRow_9 zcb_41 ?_
  refine z_irem (pc := 11) dX0_presentRow_11 (by decide) ?_
  refine zrem_fold ?_
  refine z_bipush (pc := 12) (v := 27) dX0_presentRow_12 zcb_27 ?_
  refine z_imul (pc := 14) dX0_presentRow_14 ?_
  obtain ⟨rfl, rfl⟩ := zr_some h
  exact z_iret dX0_presentRow_15
def f_X3_store_37_44 (x2 : Int32) (S : zS) : Option zS :=
  if x2 < 0 then
    some S
  else
    if (1107 : Int32) < (x2 + 27) then
      some S
    else
      if zin x2 1107 then
      zlet (zput S 44 x2.toNatClampNeg (S.1 37 0)) fun T4 =>
      if zin (x2 + 1) 1107 then
      zlet (zput T4 44 (x2 + 1).toNatClampNeg (T4.1 37 1)) fun T6 =>
      if zin (x2 + 2) 1107 then
      zlet (zput T6 44 (x2 + 2).toNatClampNeg (T6.1 37 2)) fun T8 =>
      if zcinB 0 (x2 + 3) 12 12 1107 then
      zlet (zcpy T8 38 44 (Int32.toNatClampNeg 0) (x2 + 3).toNatClampNeg (Int32.toNatClampNeg 12)) fun T10 =>
      if zcinB 0 ((x2 + 3) + 12) 12 12 1107 then
      zlet (zcpy T10 39 44 (Int32.toNatClampNeg 0) ((x2 + 3) + 12).toNatClampNeg (Int32.toNatClampNeg 12)) fun T12 =>
      some T12 else none else none else none else none else none
set_option maxRecDepth 100000 in
theorem w_X3_store_37_44 (l : Launch) {x2 : Int32} {S : zS} {S1 : zS} (h : f_X3_store_37_44 x2 S = some S1) : zMet zLX l yX3_store cX3_store 3 none 1 [.ref 37, .ref 44, .int x2] S none S1 := by
  unfold f_X3_store_37_44 at h
  refine zMet.of (by decide +kernel) (Nat.le_of_ble_eq_true rfl) ?_
  show WA zLX l RX3 cX3_store 3 none 1 none S1 0 [(0, .ref 37), (1, .ref 44), (2, .int x2)] [] S
  refine z_iload_n (pc := 0) (q := 2) dX3_store_0 rfl rfl ?_
  refine z_if_lt (pc := 1) (tgt := 69) dX3_store_1 (by decide) (fun c1 => ?_) (fun c1 => ?_)
  · have h := zt_some c1 h
    cases h
    exact z_vret dX3_store_69
  · have h := ze_some c1 h
    refine z_iload_n (pc := 4) (q := 2) dX3_store_4 rfl rfl ?_
    refine z_bipush (pc := 5) (v := 27) dX3_store_5 zcb_27 ?_
    refine z_iadd (pc := 7) dX3_store_7 ?_
    refine z_aload_n (pc := 8) (q := 1) dX3_store_8 rfl rfl ?_
    refine z_alen (pc := 9) (v := 1107) dX3_store_9 aX_44 (by decide) (by decide) ?_
    refine z_icmp_gt (pc := 10) (tgt := 69) dX3_store_10 (by decide) (fun c2 => ?_) (fun c2 => ?_)
    · have h := zt_some c2 h
      cases h
      exact z_vret dX3_store_69
    · have h := ze_some c2 h
      refine z_aload_n (pc := 13) (q := 1) dX3_store_13 rfl rfl ?_
      refine z_iload_n (pc := 14) (q := 2) dX3_store_14 rfl rfl ?_
      refine z_aload_n (pc := 15) (q := 0) dX3_store_15 rfl rfl ?_
      refine z_getI (pc := 16) dX3_store_16 zf_X3_24 gX_37_0 ?_
      obtain ⟨c3, h⟩ := zg_some h
      obtain ⟨T4, eT4, h⟩ := zl_some h
      refine z_iast (pc := 19) dX3_store_19 aX_44 c3 eT4 ?_
      refine z_aload_n (pc := 20) (q := 1) dX3_store_20 rfl rfl ?_
      refine z_iload_n (pc := 21) (q := 2) dX3_store_21 rfl rfl ?_
      refine z_iconst (pc := 22) (v := 1) dX3_store_22 zci_1 ?_
      refine z_iadd (pc := 23) dX3_store_23 ?_
      refine z_aload_n (pc := 24) (q := 0) dX3_store_24 rfl rfl ?_
      refine z_getI (pc := 25) dX3_store_25 zf_X3_27 gX_37_1 ?_
      obtain ⟨c5, h⟩ := zg_some h
      obtain ⟨T6, eT6, h⟩ := zl_some h
      refine z_iast (pc := 28) dX3_store_28 aX_44 c5 eT6 ?_
      refine z_aload_n (pc := 29) (q := 1) dX3_store_29 rfl rfl ?_
      refine z_iload_n (pc := 30) (q := 2) dX3_store_30 rfl rfl ?_
      refine z_iconst (pc := 31) (v := 2) dX3_store_31 zci_2 ?_
      refine z_iadd (pc := 32) dX3_store_32 ?_
      refine z_aload_n (pc := 33) (q := 0) dX3_store_33 rfl rfl ?_
      refine z_getI (pc := 34) dX3_store_34 zf_X3_33 gX_37_2 ?_
      obtain ⟨c7, h⟩ := zg_some h
      obtain ⟨T8, eT8, h⟩ := zl_some h
      refine z_iast (pc := 37) dX3_store_37 aX_44 c7 eT8 ?_
      refine z_aload_n (pc := 38) (q := 0) dX3_store_38 rfl rfl ?_
      refine z_getR (pc := 39) dX3_store_39 zf_X3_9 gX_37_3 ?_
      refine z_iconst (pc := 42) (v := 0) dX3_store_42 zci_0 ?_
      refine z_aload_n (pc := 43) (q := 1) dX3_store_43 rfl rfl ?_
      refine z_iload_n (pc := 44) (q := 2) dX3_store_44 rfl rfl ?_
      refine z_iconst (pc := 45) (v := 3) dX3_store_45 zci_3 ?_
      refine z_iadd (pc := 46) dX3_store_46 ?_
      refine z_bipush (pc := 47) (v := 12) dX3_store_47 zcb_12 ?_
      obtain ⟨c9, h⟩ := zg_some h
      obtain ⟨T10, eT10, h⟩ := zl_some h
      refine z_copy (pc := 49) dX3_store_49 zm_X3_40 zM_copy.1 zM_copy.2.1 zM_copy.2.2 aX_38 aX_44 c9 (by decide) (Nat.le_of_ble_eq_true rfl) eT10 ?_
      refine z_aload_n (pc := 52) (q := 0) dX3_store_52 rfl rfl ?_
      refine z_getR (pc := 53) dX3_store_53 zf_X3_15 gX_37_4 ?_
      refine z_iconst (pc := 56) (v := 0) dX3_store_56 zci_0 ?_
      refine z_aload_n (pc := 57) (q := 1) dX3_store_57 rfl rfl ?_
      refine z_iload_n (pc := 58) (q := 2) dX3_store_58 rfl rfl ?_
      refine z_iconst (pc := 59) (v := 3) dX3_store_59 zci_3 ?_
      refine z_iadd (pc := 60) dX3_store_60 ?_
      refine z_bipush (pc := 61) (v := 12) dX3_store_61 zcb_12 ?_
      refine z_iadd (pc := 63) dX3_store_63 ?_
      refine z_bipush (pc := 64) (v := 12) dX3_store_64 zcb_12 ?_
      obtain ⟨c11, h⟩ := zg_some h
      obtain ⟨T12, eT12, h⟩ := zl_some h
      refine z_copy (pc := 66) dX3_store_66 zm_X3_40 zM_copy.1 zM_copy.2.1 zM_copy.2.2 aX_39 aX_44 c11 (by decide) (Nat.le_of_ble_eq_true rfl) eT12 ?_
      cases h
      exact z_vret dX3_store_69
def f_X0_restart_43_37  (S : zS) : Option zS :=
  zlet (zput S 43 2 0) fun T1 =>
  zlet (zput T1 43 0 0) fun T2 =>
  zlet (zput T2 43 1 0) fun T3 =>
  zb (f_X0_presentRow_43 T3) fun r6 T5 =>
  zu (f_X3_store_37_44 r6 T5) fun T8 =>
  some T8
set_option maxRecDepth 100000 in
theorem w_X0_restart_43_37 (l : Launch)  {S : zS} {S1 : zS} (h : f_X0_restart_43_37 S = some S1) : zMet zLX l yX0_restart cX0_restart 2 none 2 [.ref 43, .ref 37] S none S1 := by
  unfold f_X0_restart_43_37 at h
  refine zMet.of (by decide +kernel) (Nat.le_of_ble_eq_true rfl) ?_
  show WA zLX l RX0 cX0_restart 2 none 2 none S1 0 [(0, .ref 43), (1, .ref 37)] [] S
  refine z_aload_n (pc := 0) (q := 0) dX0_restart_0 rfl rfl ?_
  refine z_iconst (pc := 1) (v := 0) dX0_restart_1 zci_0 ?_
  obtain ⟨T1, eT1, h⟩ := zl_some h
  refine z_putI (pc := 2) dX0_restart_2 zp_X0_17 gX_43_2 rfl rfl eT1 ?_
  refine z_aload_n (pc := 5) (q := 0) dX0_restart_5 rfl rfl ?_
  refine z_iconst (pc := 6) (v := 0) dX0_restart_6 zci_0 ?_
  obtain ⟨T2, eT2, h⟩ := zl_some h
  refine z_putI (pc := 7) dX0_restart_7 zp_X0_21 gX_43_0 rfl rfl eT2 ?_
  refine z_aload_n (pc := 10) (q := 0) dX0_restart_10 rfl rfl ?_
  refine z_iconst (pc := 11) (v := 0) dX0_restart_11 zci_0 ?_
  obtain ⟨T3, eT3, h⟩ := zl_some h
  refine z_putI (pc := 12) dX0_restart_12 zp_X0_24 gX_43_1 rfl rfl eT3 ?_
  refine z_aload_n (pc := 15) (q := 1) dX0_restart_15 rfl rfl ?_
  refine z_aload_n (pc := 16) (q := 0) dX0_restart_16 rfl rfl ?_
  refine z_getR (pc := 17) dX0_restart_17 zf_X0_13 gX_43_3 ?_
  refine z_aload_n (pc := 20) (q := 0) dX0_restart_20 rfl rfl ?_
  obtain ⟨r6, T5, q4, h⟩ := zb_some h
  refine z_callVi (pc := 21) (st := [.ref 44, .ref 37]) [] dX0_restart_21 zm_X0_27 zM_X0_presentRow (by decide) oX_43 rfl (w_X0_presentRow_43 l q4) rfl rfl (Nat.le_of_ble_eq_true rfl) ?_
  obtain ⟨T8, q7, h⟩ := zu_some h
  refine z_callVv (pc := 24) (st := []) [.ref 44, .int r6] dX0_restart_24 zm_X0_31 zM_X3_store (by decide) oX_37 rfl (w_X3_store_37_44 l q7) rfl rfl (Nat.le_of_ble_eq_true rfl) ?_
  cases h
  exact z_vret dX0_restart_27
def f_X11_putBytes_L3 : Nat → Int32 → Int32 → zS → Option zS
  | 0, _, _, _ => none
  | n + 1, x1, x2, S =>
    if x2 < 0 then
      some S
    else
      if (S.1 0 1) < 1600 then
        if zin (S.1 0 1) 1600 then
        zlet (zput S 1 (S.1 0 1).toNatClampNeg (vp_nar .byte ((Int32.toInt8 (x1 >>> (x2 &&& 31))).toInt32))) fun T4 =>
        zlet (zput T4 0 1 ((T4.1 0 1) + 1)) fun T5 =>
        zlet (x2 + (-8)) fun v6 =>
        (f_X11_putBytes_L3 n) x1 v6 T5 else none
      else
        zlet (x2 + (-8)) fun v3 =>
        (f_X11_putBytes_L3 n) x1 v3 S
def f_X11_putBytes (x1 : Int32) (S : zS) : Option zS :=
  f_X11_putBytes_L3 zN x1 24 S
set_option maxRecDepth 100000 in
theorem w_X11_putBytes_L3 (l : Launch) {S1 : zS} : ∀ (n : Nat) (x1 : Int32) (x2 : Int32) (S : zS), f_X11_putBytes_L3 n x1 x2 S = some S1 → WA zLX l RX11 cX11_putBytes 3 none 1 none S1 3 [(0, .ref 0), (1, .int x1), (2, .int x2)] [] S := by
  intro n
  induction n with
  | zero =>
    intro x1 x2 S h
    exact nomatch h
  | succ n ih =>
    intro x1 x2 S h
    rw [f_X11_putBytes_L3] at h
    refine z_iload_n (pc := 3) (q := 2) dX11_putBytes_3 rfl rfl ?_
    refine z_if_lt (pc := 4) (tgt := 48) dX11_putBytes_4 (by decide) (fun c1 => ?_) (fun c1 => ?_)
    · have h := zt_some c1 h
      cases h
      exact z_vret dX11_putBytes_48
    · have h := ze_some c1 h
      refine z_aload_n (pc := 7) (q := 0) dX11_putBytes_7 rfl rfl ?_
      refine z_getI (pc := 8) dX11_putBytes_8 zf_X11_99 gX_0_1 ?_
      refine z_aload_n (pc := 11) (q := 0) dX11_putBytes_11 rfl rfl ?_
      refine z_getR (pc := 12) dX11_putBytes_12 zf_X11_9 gX_0_0 ?_
      refine z_alen (pc := 15) (v := 1600) dX11_putBytes_15 aX_1 (by decide) (by decide) ?_
      refine z_icmp_ge (pc := 16) (tgt := 42) dX11_putBytes_16 (by decide) (fun c2 => ?_) (fun c2 => ?_)
      · have h := ze_some c2 h
        obtain ⟨v3, ev3, h⟩ := zl_some h
        refine z_iinc (pc := 42) (q := 2) (v := v3) (lo' := [(2, .int v3), (0, .ref 0), (1, .int x1)]) dX11_putBytes_42 rfl (by rw [ev3, zci_m8]) (by decide) rfl ?_
        refine z_goto (pc := 45) (tgt := 3) dX11_putBytes_45 (by decide) ?_
        exact z_sub [1, 2, 0] rfl (ih x1 v3 S h)
      · have h := zt_some c2 h
        refine z_aload_n (pc := 19) (q := 0) dX11_putBytes_19 rfl rfl ?_
        refine z_getR (pc := 20) dX11_putBytes_20 zf_X11_9 gX_0_0 ?_
        refine z_aload_n (pc := 23) (q := 0) dX11_putBytes_23 rfl rfl ?_
        refine z_getI (pc := 24) dX11_putBytes_24 zf_X11_99 gX_0_1 ?_
        refine z_iload_n (pc := 27) (q := 1) dX11_putBytes_27 rfl rfl ?_
        refine z_iload_n (pc := 28) (q := 2) dX11_putBytes_28 rfl rfl ?_
        refine z_ishr (pc := 29) dX11_putBytes_29 ?_
        refine z_i2b (pc := 30) dX11_putBytes_30 ?_
        obtain ⟨c3, h⟩ := zg_some h
        obtain ⟨T4, eT4, h⟩ := zl_some h
        refine z_bast (pc := 31) dX11_putBytes_31 aX_1 c3 eT4 ?_
        refine z_aload_n (pc := 32) (q := 0) dX11_putBytes_32 rfl rfl ?_
        refine z_dup (pc := 33) dX11_putBytes_33 rfl ?_
        refine z_getI (pc := 34) dX11_putBytes_34 zf_X11_99 gX_0_1 ?_
        refine z_iconst (pc := 37) (v := 1) dX11_putBytes_37 zci_1 ?_
        refine z_iadd (pc := 38) dX11_putBytes_38 ?_
        obtain ⟨T5, eT5, h⟩ := zl_some h
        refine z_putI (pc := 39) dX11_putBytes_39 zp_X11_99 gX_0_1 rfl rfl eT5 ?_
        obtain ⟨v6, ev6, h⟩ := zl_some h
        refine z_iinc (pc := 42) (q := 2) (v := v6) (lo' := [(2, .int v6), (0, .ref 0), (1, .int x1)]) dX11_putBytes_42 rfl (by rw [ev6, zci_m8]) (by decide) rfl ?_
        refine z_goto (pc := 45) (tgt := 3) dX11_putBytes_45 (by decide) ?_
        exact z_sub [1, 2, 0] rfl (ih x1 v6 T5 h)
set_option maxRecDepth 100000 in
theorem w_X11_putBytes (l : Launch) {x1 : Int32} {S : zS} {S1 : zS} (h : f_X11_putBytes x1 S = some S1) : zMet zLX l yX11_putBytes cX11_putBytes 3 none 1 [.ref 0, .int x1] S none S1 := by
  unfold f_X11_putBytes at h
  refine zMet.of (by decide +kernel) (Nat.le_of_ble_eq_true rfl) ?_
  show WA zLX l RX11 cX11_putBytes 3 none 1 none S1 0 [(0, .ref 0), (1, .int x1)] [] S
  refine z_bipush (pc := 0) (v := 24) dX11_putBytes_0 zcb_24 ?_
  refine z_istore_n (pc := 2) (lo' := [(2, .int 24), (0, .ref 0), (1, .int x1)]) dX11_putBytes_2 rfl (by decide) rfl ?_
  exact z_sub [1, 2, 0] rfl (w_X11_putBytes_L3 l zN x1 24 S h)
def f_X11_feed (x1 : Int32) (x2 : Int32) (x3 : Int32) (x4 : Int32) (x5 : Int32) (S : zS) : Option (Int32 × zS) :=
  if (1600 : Int32) < ((S.1 0 1) + 20) then
    some ((-1), S)
  else
    zu (f_X11_putBytes x1 S) fun T3 =>
    zu (f_X11_putBytes x2 T3) fun T5 =>
    zu (f_X11_putBytes x3 T5) fun T7 =>
    zu (f_X11_putBytes x4 T7) fun T9 =>
    zu (f_X11_putBytes x5 T9) fun T11 =>
    some (T11.1 0 1, T11)
set_option maxRecDepth 100000 in
theorem w_X11_feed (l : Launch) {x1 : Int32} {x2 : Int32} {x3 : Int32} {x4 : Int32} {x5 : Int32} {S : zS} {r : Int32} {S1 : zS} (h : f_X11_feed x1 x2 x3 x4 x5 S = some (r, S1)) : zMet zLX l yX11_feed cX11_feed 6 (some .int) 2 [.ref 0, .int x1, .int x2, .int x3, .int x4, .int x5] S (some (.int r)) S1 := by
  unfold f_X11_feed at h
  refine zMet.of (by decide +kernel) (Nat.le_of_ble_eq_true rfl) ?_
  show WA zLX l RX11 cX11_feed 6 (some .int) 2 (some (.int r)) S1 0 [(0, .ref 0), (1, .int x1), (2, .int x2), (3, .int x3), (4, .int x4), (5, .int x5)] [] S
  refine z_aload_n (pc := 0) (q := 0) dX11_feed_0 rfl rfl ?_
  refine z_getI (pc := 1) dX11_feed_1 zf_X11_99 gX_0_1 ?_
  refine z_bipush (pc := 4) (v := 20) dX11_feed_4 zcb_20 ?_
  refine z_iadd (pc := 6) dX11_feed_6 ?_
  refine z_sipush (pc := 7) (v := 1600) dX11_feed_7 zcs_1600 ?_
  refine z_icmp_le (pc := 10) (tgt := 15) dX11_feed_10 (by decide) (fun c1 => ?_) (fun c1 => ?_)
  · have h := ze_some c1 h
    refine z_aload_n (pc := 15) (q := 0) dX11_feed_15 rfl rfl ?_
    refine z_iload_n (pc := 16) (q := 1) dX11_feed_16 rfl rfl ?_
    obtain ⟨T3, q2, h⟩ := zu_some h
    refine z_callVv (pc := 17) (st := []) [.int x1] dX11_feed_17 zm_X11_103 zM_X11_putBytes (by decide) oX_0 rfl (w_X11_putBytes l q2) rfl rfl (Nat.le_of_ble_eq_true rfl) ?_
    refine z_aload_n (pc := 20) (q := 0) dX11_feed_20 rfl rfl ?_
    refine z_iload_n (pc := 21) (q := 2) dX11_feed_21 rfl rfl ?_
    obtain ⟨T5, q4, h⟩ := zu_some h
    refine z_callVv (pc := 22) (st := []) [.int x2] dX11_feed_22 zm_X11_103 zM_X11_putBytes (by decide) oX_0 rfl (w_X11_putBytes l q4) rfl rfl (Nat.le_of_ble_eq_true rfl) ?_
    refine z_aload_n (pc := 25) (q := 0) dX11_feed_25 rfl rfl ?_
    refine z_iload_n (pc := 26) (q := 3) dX11_feed_26 rfl rfl ?_
    obtain ⟨T7, q6, h⟩ := zu_some h
    refine z_callVv (pc := 27) (st := []) [.int x3] dX11_feed_27 zm_X11_103 zM_X11_putBytes (by decide) oX_0 rfl (w_X11_putBytes l q6) rfl rfl (Nat.le_of_ble_eq_true rfl) ?_
    refine z_aload_n (pc := 30) (q := 0) dX11_feed_30 rfl rfl ?_
    refine z_iload (pc := 31) (q := 4) dX11_feed_31 rfl ?_
    obtain ⟨T9, q8, h⟩ := zu_some h
    refine z_callVv (pc := 33) (st := []) [.int x4] dX11_feed_33 zm_X11_103 zM_X11_putBytes (by decide) oX_0 rfl (w_X11_putBytes l q8) rfl rfl (Nat.le_of_ble_eq_true rfl) ?_
    refine z_aload_n (pc := 36) (q := 0) dX11_feed_36 rfl rfl ?_
    refine z_iload (pc := 37) (q := 5) dX11_feed_37 rfl ?_
    obtain ⟨T11, q10, h⟩ := zu_some h
    refine z_callVv (pc := 39) (st := []) [.int x5] dX11_feed_39 zm_X11_103 zM_X11_putBytes (by decide) oX_0 rfl (w_X11_putBytes l q10) rfl rfl (Nat.le_of_ble_eq_true rfl) ?_
    refine z_aload_n (pc := 42) (q := 0) dX11_feed_42 rfl rfl ?_
    refine z_getI (pc := 43) dX11_feed_43 zf_X11_99 gX_0_1 ?_
    obtain ⟨rfl, rfl⟩ := zr_some h
    exact z_iret dX11_feed_46
  · have h := zt_some c1 h
    refine z_iconst (pc := 13) (v := (-1)) dX11_feed_13 zci_m1 ?_
    obtain ⟨rfl, rfl⟩ := zr_some h
    exact z_iret dX11_feed_14
def f_X11_end (x1 : Int32) (S : zS) : Option (Int32 × zS) :=
  if x1 < 0 then
    some ((-1), S)
  else
    if (S.1 0 1) < x1 then
      some ((-1), S)
    else
      zlet (zput S 0 1 x1) fun T3 =>
      some (x1, T3)
set_option maxRecDepth 100000 in
theorem w_X11_end (l : Launch) {x1 : Int32} {S : zS} {r : Int32} {S1 : zS} (h : f_X11_end x1 S = some (r, S1)) : zMet zLX l yX11_end cX11_end 2 (some .int) 1 [.ref 0, .int x1] S (some (.int r)) S1 := by
  unfold f_X11_end at h
  refine zMet.of (by decide +kernel) (Nat.le_of_ble_eq_true rfl) ?_
  show WA zLX l RX11 cX11_end 2 (some .int) 1 (some (.int r)) S1 0 [(0, .ref 0), (1, .int x1)] [] S
  refine z_iload_n (pc := 0) (q := 1) dX11_end_0 rfl rfl ?_
  refine z_if_lt (pc := 1) (tgt := 12) dX11_end_1 (by decide) (fun c1 => ?_) (fun c1 => ?_)
  · have h := zt_some c1 h
    refine z_iconst (pc := 12) (v := (-1)) dX11_end_12 zci_m1 ?_
    obtain ⟨rfl, rfl⟩ := zr_some h
    exact z_iret dX11_end_13
  · have h := ze_some c1 h
    refine z_iload_n (pc := 4) (q := 1) dX11_end_4 rfl rfl ?_
    refine z_aload_n (pc := 5) (q := 0) dX11_end_5 rfl rfl ?_
    refine z_getI (pc := 6) dX11_end_6 zf_X11_99 gX_0_1 ?_
    refine z_icmp_le (pc := 9) (tgt := 14) dX11_end_9 (by decide) (fun c2 => ?_) (fun c2 => ?_)
    · have h := ze_some c2 h
      refine z_aload_n (pc := 14) (q := 0) dX11_end_14 rfl rfl ?_
      refine z_iload_n (pc := 15) (q := 1) dX11_end_15 rfl rfl ?_
      obtain ⟨T3, eT3, h⟩ := zl_some h
      refine z_putI (pc := 16) dX11_end_16 zp_X11_99 gX_0_1 rfl rfl eT3 ?_
      refine z_iload_n (pc := 19) (q := 1) dX11_end_19 rfl rfl ?_
      obtain ⟨rfl, rfl⟩ := zr_some h
      exact z_iret dX11_end_20
    · have h := zt_some c2 h
      refine z_iconst (pc := 12) (v := (-1)) dX11_end_12 zci_m1 ?_
      obtain ⟨rfl, rfl⟩ := zr_some h
      exact z_iret dX11_end_13
def f_X11_fault (x1 : Int32) (S : zS) : Option (Int32 × zS) :=
  if x1 = 0 then
    some (S.1 2 0, S)
  else
    if x1 = 1 then
      some (S.1 2 1, S)
    else
      some ((-1), S)
set_option maxRecDepth 100000 in
theorem w_X11_fault (l : Launch) {x1 : Int32} {S : zS} {r : Int32} {S1 : zS} (h : f_X11_fault x1 S = some (r, S1)) : zMet zLX l yX11_fault cX11_fault 2 (some .int) 1 [.ref 0, .int x1] S (some (.int r)) S1 := by
  unfold f_X11_fault at h
  refine zMet.of (by decide +kernel) (Nat.le_of_ble_eq_true rfl) ?_
  show WA zLX l RX11 cX11_fault 2 (some .int) 1 (some (.int r)) S1 0 [(0, .ref 0), (1, .int x1)] [] S
  refine z_iload_n (pc := 0) (q := 1) dX11_fault_0 rfl rfl ?_
  refine z_lsw (pc := 1) 44 [(0, 28), (1, 36)] dX11_fault_1 (by decide) (by decide +kernel) (by decide +kernel) (by decide +kernel) ?_
  refine zsw_c (fun c1 => ?_) (fun c1 => ?_)
  · have h := zt_some c1 h
    refine z_aload_n (pc := 28) (q := 0) dX11_fault_28 rfl rfl ?_
    refine z_getR (pc := 29) dX11_fault_29 zf_X11_18 gX_0_2 ?_
    refine z_getI (pc := 32) dX11_fault_32 zf_X11_121 gX_2_0 ?_
    obtain ⟨rfl, rfl⟩ := zr_some h
    exact z_iret dX11_fault_35
  · have h := ze_some c1 h
    refine zsw_c (fun c2 => ?_) (fun c2 => ?_)
    · have h := zt_some c2 h
      refine z_aload_n (pc := 36) (q := 0) dX11_fault_36 rfl rfl ?_
      refine z_getR (pc := 37) dX11_fault_37 zf_X11_18 gX_0_2 ?_
      refine z_getI (pc := 40) dX11_fault_40 zf_X11_124 gX_2_1 ?_
      obtain ⟨rfl, rfl⟩ := zr_some h
      exact z_iret dX11_fault_43
    · have h := ze_some c2 h
      refine zsw_n ?_
      refine z_iconst (pc := 44) (v := (-1)) dX11_fault_44 zci_m1 ?_
      obtain ⟨rfl, rfl⟩ := zr_some h
      exact z_iret dX11_fault_45
def f_X11_isBill (x1 : Int32) (S : zS) : Option (Int32 × zS) :=
  if x1 < 0 then
    some (0, S)
  else
    if x1 < (S.1 37 0) then
      if x1 < 12 then
        some (1, S)
      else
        some (0, S)
    else
      some (0, S)
set_option maxRecDepth 100000 in
theorem w_X11_isBill (l : Launch) {x1 : Int32} {S : zS} {r : Int32} {S1 : zS} (h : f_X11_isBill x1 S = some (r, S1)) : zMet zLX l yX11_isBill cX11_isBill 2 (some .boolean) 1 [.ref 0, .int x1] S (some (.int r)) S1 := by
  unfold f_X11_isBill at h
  refine zMet.of (by decide +kernel) (Nat.le_of_ble_eq_true rfl) ?_
  show WA zLX l RX11 cX11_isBill 2 (some .boolean) 1 (some (.int r)) S1 0 [(0, .ref 0), (1, .int x1)] [] S
  refine z_iload_n (pc := 0) (q := 1) dX11_isBill_0 rfl rfl ?_
  refine z_if_lt (pc := 1) (tgt := 25) dX11_isBill_1 (by decide) (fun c1 => ?_) (fun c1 => ?_)
  · have h := zt_some c1 h
    refine z_iconst (pc := 25) (v := 0) dX11_isBill_25 zci_0 ?_
    obtain ⟨rfl, rfl⟩ := zr_some h
    exact z_zret dX11_isBill_26 rfl
  · have h := ze_some c1 h
    refine z_iload_n (pc := 4) (q := 1) dX11_isBill_4 rfl rfl ?_
    refine z_aload_n (pc := 5) (q := 0) dX11_isBill_5 rfl rfl ?_
    refine z_getR (pc := 6) dX11_isBill_6 zf_X11_35 gX_0_5 ?_
    refine z_getI (pc := 9) dX11_isBill_9 zf_X11_118 gX_37_0 ?_
    refine z_icmp_ge (pc := 12) (tgt := 25) dX11_isBill_12 (by decide) (fun c2 => ?_) (fun c2 => ?_)
    · have h := ze_some c2 h
      refine z_iconst (pc := 25) (v := 0) dX11_isBill_25 zci_0 ?_
      obtain ⟨rfl, rfl⟩ := zr_some h
      exact z_zret dX11_isBill_26 rfl
    · have h := zt_some c2 h
      refine z_iload_n (pc := 15) (q := 1) dX11_isBill_15 rfl rfl ?_
      refine z_bipush (pc := 16) (v := 12) dX11_isBill_16 zcb_12 ?_
      refine z_icmp_ge (pc := 18) (tgt := 25) dX11_isBill_18 (by decide) (fun c3 => ?_) (fun c3 => ?_)
      · have h := ze_some c3 h
        refine z_iconst (pc := 25) (v := 0) dX11_isBill_25 zci_0 ?_
        obtain ⟨rfl, rfl⟩ := zr_some h
        exact z_zret dX11_isBill_26 rfl
      · have h := zt_some c3 h
        refine z_iconst (pc := 21) (v := 1) dX11_isBill_21 zci_1 ?_
        refine z_goto (pc := 22) (tgt := 26) dX11_isBill_22 (by decide) ?_
        obtain ⟨rfl, rfl⟩ := zr_some h
        exact z_zret dX11_isBill_26 rfl
def f_X3_livingBits_37_L4 : Nat → Int32 → Int32 → zS → Option (Int32 × zS)
  | 0, _, _, _ => none
  | n + 1, x1, x2, S =>
    if x2 < (S.1 37 0) then
      if x2 < 12 then
        if zin x2 12 then
        if (0 : Int32) < (S.1 38 x2.toNatClampNeg) then
          zlet (x1 ||| (1 <<< (x2 &&& 31))) fun v5 =>
          zlet (x2 + 1) fun v6 =>
          (f_X3_livingBits_37_L4 n) v5 v6 S
        else
          zlet (x2 + 1) fun v5 =>
          (f_X3_livingBits_37_L4 n) x1 v5 S else none
      else
        some (x1, S)
    else
      some (x1, S)
def f_X3_livingBits_37  (S : zS) : Option (Int32 × zS) :=
  f_X3_livingBits_37_L4 zN 0 0 S
set_option maxRecDepth 100000 in
theorem w_X3_livingBits_37_L4 (l : Launch) {r : Int32} {S1 : zS} : ∀ (n : Nat) (x1 : Int32) (x2 : Int32) (S : zS), f_X3_livingBits_37_L4 n x1 x2 S = some (r, S1) → WA zLX l RX3 cX3_livingBits 3 (some .int) 1 (some (.int r)) S1 4 [(0, .ref 37), (1, .int x1), (2, .int x2)] [] S := by
  intro n
  induction n with
  | zero =>
    intro x1 x2 S h
    exact nomatch h
  | succ n ih =>
    intro x1 x2 S h
    rw [f_X3_livingBits_37_L4] at h
    refine z_iload_n (pc := 4) (q := 2) dX3_livingBits_4 rfl rfl ?_
    refine z_aload_n (pc := 5) (q := 0) dX3_livingBits_5 rfl rfl ?_
    refine z_getI (pc := 6) dX3_livingBits_6 zf_X3_24 gX_37_0 ?_
    refine z_icmp_ge (pc := 9) (tgt := 39) dX3_livingBits_9 (by decide) (fun c1 => ?_) (fun c1 => ?_)
    · have h := ze_some c1 h
      refine z_iload_n (pc := 39) (q := 1) dX3_livingBits_39 rfl rfl ?_
      obtain ⟨rfl, rfl⟩ := zr_some h
      exact z_iret dX3_livingBits_40
    · have h := zt_some c1 h
      refine z_iload_n (pc := 12) (q := 2) dX3_livingBits_12 rfl rfl ?_
      refine z_bipush (pc := 13) (v := 12) dX3_livingBits_13 zcb_12 ?_
      refine z_icmp_ge (pc := 15) (tgt := 39) dX3_livingBits_15 (by decide) (fun c2 => ?_) (fun c2 => ?_)
      · have h := ze_some c2 h
        refine z_iload_n (pc := 39) (q := 1) dX3_livingBits_39 rfl rfl ?_
        obtain ⟨rfl, rfl⟩ := zr_some h
        exact z_iret dX3_livingBits_40
      · have h := zt_some c2 h
        refine z_aload_n (pc := 18) (q := 0) dX3_livingBits_18 rfl rfl ?_
        refine z_getR (pc := 19) dX3_livingBits_19 zf_X3_9 gX_37_3 ?_
        refine z_iload_n (pc := 22) (q := 2) dX3_livingBits_22 rfl rfl ?_
        obtain ⟨c3, h⟩ := zg_some h
        refine z_iald (pc := 23) dX3_livingBits_23 aX_38 c3 ?_
        refine z_if_le (pc := 24) (tgt := 33) dX3_livingBits_24 (by decide) (fun c4 => ?_) (fun c4 => ?_)
        · have h := ze_some c4 h
          obtain ⟨v5, ev5, h⟩ := zl_some h
          refine z_iinc (pc := 33) (q := 2) (v := v5) (lo' := [(2, .int v5), (0, .ref 37), (1, .int x1)]) dX3_livingBits_33 rfl (by rw [ev5, zci_1]) (by decide) rfl ?_
          refine z_goto (pc := 36) (tgt := 4) dX3_livingBits_36 (by decide) ?_
          exact z_sub [1, 2, 0] rfl (ih x1 v5 S h)
        · have h := zt_some c4 h
          refine z_iload_n (pc := 27) (q := 1) dX3_livingBits_27 rfl rfl ?_
          refine z_iconst (pc := 28) (v := 1) dX3_livingBits_28 zci_1 ?_
          refine z_iload_n (pc := 29) (q := 2) dX3_livingBits_29 rfl rfl ?_
          refine z_ishl (pc := 30) dX3_livingBits_30 ?_
          refine z_ior (pc := 31) dX3_livingBits_31 ?_
          obtain ⟨v5, ev5, h⟩ := zl_some h
          refine z_top ev5 ?_
          refine z_istore_n (pc := 32) (lo' := [(1, .int v5), (0, .ref 37), (2, .int x2)]) dX3_livingBits_32 rfl (by decide) rfl ?_
          obtain ⟨v6, ev6, h⟩ := zl_some h
          refine z_iinc (pc := 33) (q := 2) (v := v6) (lo' := [(2, .int v6), (1, .int v5), (0, .ref 37)]) dX3_livingBits_33 rfl (by rw [ev6, zci_1]) (by decide) rfl ?_
          refine z_goto (pc := 36) (tgt := 4) dX3_livingBits_36 (by decide) ?_
          exact z_sub [2, 1, 0] rfl (ih v5 v6 S h)
set_option maxRecDepth 100000 in
theorem w_X3_livingBits_37 (l : Launch)  {S : zS} {r : Int32} {S1 : zS} (h : f_X3_livingBits_37 S = some (r, S1)) : zMet zLX l yX3_livingBits cX3_livingBits 3 (some .int) 1 [.ref 37] S (some (.int r)) S1 := by
  unfold f_X3_livingBits_37 at h
  refine zMet.of (by decide +kernel) (Nat.le_of_ble_eq_true rfl) ?_
  show WA zLX l RX3 cX3_livingBits 3 (some .int) 1 (some (.int r)) S1 0 [(0, .ref 37)] [] S
  refine z_iconst (pc := 0) (v := 0) dX3_livingBits_0 zci_0 ?_
  refine z_istore_n (pc := 1) (lo' := [(1, .int 0), (0, .ref 37)]) dX3_livingBits_1 rfl (by decide) rfl ?_
  refine z_iconst (pc := 2) (v := 0) dX3_livingBits_2 zci_0 ?_
  refine z_istore_n (pc := 3) (lo' := [(2, .int 0), (1, .int 0), (0, .ref 37)]) dX3_livingBits_3 rfl (by decide) rfl ?_
  exact z_sub [2, 1, 0] rfl (w_X3_livingBits_37_L4 l zN 0 0 S h)
def f_X1_repealedBy_13_L4 : Nat → Int32 → Int32 → Int32 → zS → Option (Int32 × zS)
  | 0, _, _, _, _ => none
  | n + 1, x1, x2, x3, S =>
    if x3 < 12 then
      if ((x1 >>> (x3 &&& 31)) &&& 1) = 0 then
        zlet (x3 + 1) fun v3 =>
        (f_X1_repealedBy_13_L4 n) x1 x2 v3 S
      else
        if zin x3 12 then
        if (S.1 19 x3.toNatClampNeg) < 0 then
          zlet (x3 + 1) fun v5 =>
          (f_X1_repealedBy_13_L4 n) x1 x2 v5 S
        else
          if zin x3 12 then
          zlet (x2 ||| (1 <<< ((S.1 19 x3.toNatClampNeg) &&& 31))) fun v6 =>
          zlet (x3 + 1) fun v7 =>
          (f_X1_repealedBy_13_L4 n) x1 v6 v7 S else none else none
    else
      some (x2, S)
def f_X1_repealedBy_13 (x1 : Int32) (S : zS) : Option (Int32 × zS) :=
  f_X1_repealedBy_13_L4 zN x1 0 0 S
set_option maxRecDepth 100000 in
theorem w_X1_repealedBy_13_L4 (l : Launch) {r : Int32} {S1 : zS} : ∀ (n : Nat) (x1 : Int32) (x2 : Int32) (x3 : Int32) (S : zS), f_X1_repealedBy_13_L4 n x1 x2 x3 S = some (r, S1) → WA zLX l RX1 cX1_repealedBy 4 (some .int) 1 (some (.int r)) S1 4 [(0, .ref 13), (1, .int x1), (2, .int x2), (3, .int x3)] [] S := by
  intro n
  induction n with
  | zero =>
    intro x1 x2 x3 S h
    exact nomatch h
  | succ n ih =>
    intro x1 x2 x3 S h
    rw [f_X1_repealedBy_13_L4] at h
    refine z_iload_n (pc := 4) (q := 3) dX1_repealedBy_4 rfl rfl ?_
    refine z_bipush (pc := 5) (v := 12) dX1_repealedBy_5 zcb_12 ?_
    refine z_icmp_ge (pc := 7) (tgt := 44) dX1_repealedBy_7 (by decide) (fun c1 => ?_) (fun c1 => ?_)
    · have h := ze_some c1 h
      refine z_iload_n (pc := 44) (q := 2) dX1_repealedBy_44 rfl rfl ?_
      obtain ⟨rfl, rfl⟩ := zr_some h
      exact z_iret dX1_repealedBy_45
    · have h := zt_some c1 h
      refine z_iload_n (pc := 10) (q := 1) dX1_repealedBy_10 rfl rfl ?_
      refine z_iload_n (pc := 11) (q := 3) dX1_repealedBy_11 rfl rfl ?_
      refine z_ishr (pc := 12) dX1_repealedBy_12 ?_
      refine z_iconst (pc := 13) (v := 1) dX1_repealedBy_13 zci_1 ?_
      refine z_iand (pc := 14) dX1_repealedBy_14 ?_
      refine z_if_eq (pc := 15) (tgt := 38) dX1_repealedBy_15 (by decide) (fun c2 => ?_) (fun c2 => ?_)
      · have h := zt_some c2 h
        obtain ⟨v3, ev3, h⟩ := zl_some h
        refine z_iinc (pc := 38) (q := 3) (v := v3) (lo' := [(3, .int v3), (0, .ref 13), (1, .int x1), (2, .int x2)]) dX1_repealedBy_38 rfl (by rw [ev3, zci_1]) (by decide) rfl ?_
        refine z_goto (pc := 41) (tgt := 4) dX1_repealedBy_41 (by decide) ?_
        exact z_sub [1, 2, 3, 0] rfl (ih x1 x2 v3 S h)
      · have h := ze_some c2 h
        refine z_aload_n (pc := 18) (q := 0) dX1_repealedBy_18 rfl rfl ?_
        refine z_getR (pc := 19) dX1_repealedBy_19 zf_X1_27 gX_13_5 ?_
        refine z_iload_n (pc := 22) (q := 3) dX1_repealedBy_22 rfl rfl ?_
        obtain ⟨c3, h⟩ := zg_some h
        refine z_iald (pc := 23) dX1_repealedBy_23 aX_19 c3 ?_
        refine z_if_lt (pc := 24) (tgt := 38) dX1_repealedBy_24 (by decide) (fun c4 => ?_) (fun c4 => ?_)
        · have h := zt_some c4 h
          obtain ⟨v5, ev5, h⟩ := zl_some h
          refine z_iinc (pc := 38) (q := 3) (v := v5) (lo' := [(3, .int v5), (0, .ref 13), (1, .int x1), (2, .int x2)]) dX1_repealedBy_38 rfl (by rw [ev5, zci_1]) (by decide) rfl ?_
          refine z_goto (pc := 41) (tgt := 4) dX1_repealedBy_41 (by decide) ?_
          exact z_sub [1, 2, 3, 0] rfl (ih x1 x2 v5 S h)
        · have h := ze_some c4 h
          refine z_iload_n (pc := 27) (q := 2) dX1_repealedBy_27 rfl rfl ?_
          refine z_iconst (pc := 28) (v := 1) dX1_repealedBy_28 zci_1 ?_
          refine z_aload_n (pc := 29) (q := 0) dX1_repealedBy_29 rfl rfl ?_
          refine z_getR (pc := 30) dX1_repealedBy_30 zf_X1_27 gX_13_5 ?_
          refine z_iload_n (pc := 33) (q := 3) dX1_repealedBy_33 rfl rfl ?_
          obtain ⟨c5, h⟩ := zg_some h
          refine z_iald (pc := 34) dX1_repealedBy_34 aX_19 c5 ?_
          refine z_ishl (pc := 35) dX1_repealedBy_35 ?_
          refine z_ior (pc := 36) dX1_repealedBy_36 ?_
          obtain ⟨v6, ev6, h⟩ := zl_some h
          refine z_top ev6 ?_
          refine z_istore_n (pc := 37) (lo' := [(2, .int v6), (0, .ref 13), (1, .int x1), (3, .int x3)]) dX1_repealedBy_37 rfl (by decide) rfl ?_
          obtain ⟨v7, ev7, h⟩ := zl_some h
          refine z_iinc (pc := 38) (q := 3) (v := v7) (lo' := [(3, .int v7), (2, .int v6), (0, .ref 13), (1, .int x1)]) dX1_repealedBy_38 rfl (by rw [ev7, zci_1]) (by decide) rfl ?_
          refine z_goto (pc := 41) (tgt := 4) dX1_repealedBy_41 (by decide) ?_
          exact z_sub [2, 3, 1, 0] rfl (ih x1 v6 v7 S h)
set_option maxRecDepth 100000 in
theorem w_X1_repealedBy_13 (l : Launch) {x1 : Int32} {S : zS} {r : Int32} {S1 : zS} (h : f_X1_repealedBy_13 x1 S = some (r, S1)) : zMet zLX l yX1_repealedBy cX1_repealedBy 4 (some .int) 1 [.ref 13, .int x1] S (some (.int r)) S1 := by
  unfold f_X1_repealedBy_13 at h
  refine zMet.of (by decide +kernel) (Nat.le_of_ble_eq_true rfl) ?_
  show WA zLX l RX1 cX1_repealedBy 4 (some .int) 1 (some (.int r)) S1 0 [(0, .ref 13), (1, .int x1)] [] S
  refine z_iconst (pc := 0) (v := 0) dX1_repealedBy_0 zci_0 ?_
  refine z_istore_n (pc := 1) (lo' := [(2, .int 0), (0, .ref 13), (1, .int x1)]) dX1_repealedBy_1 rfl (by decide) rfl ?_
  refine z_iconst (pc := 2) (v := 0) dX1_repealedBy_2 zci_0 ?_
  refine z_istore_n (pc := 3) (lo' := [(3, .int 0), (2, .int 0), (0, .ref 13), (1, .int x1)]) dX1_repealedBy_3 rfl (by decide) rfl ?_
  exact z_sub [2, 3, 1, 0] rfl (w_X1_repealedBy_13_L4 l zN x1 0 0 S h)
def f_X1_standing_13_B55 (K15 : Int32 → Int32 → Int32 → zS → Option (Int32 × zS)) (x2 : Int32) (x3 : Int32) (x4 : Int32) (S : zS) : Option (Int32 × zS) :=
  zlet (x3 ||| (1 <<< (x4 &&& 31))) fun v1 =>
  zlet (x4 + 1) fun v2 =>
  K15 x2 v1 v2 S
def f_X1_standing_13_L15 : Nat → Int32 → Int32 → Int32 → zS → Option (Int32 × zS)
  | 0, _, _, _, _ => none
  | n + 1, x2, x3, x4, S =>
    if x4 < 12 then
      if ((x2 >>> (x4 &&& 31)) &&& 1) = 0 then
        zlet (x4 + 1) fun v3 =>
        (f_X1_standing_13_L15 n) x2 x3 v3 S
      else
        if zin x4 12 then
        if (S.1 18 x4.toNatClampNeg) < 0 then
          f_X1_standing_13_B55 (f_X1_standing_13_L15 n) x2 x3 x4 S
        else
          if zin x4 12 then
          if ((x3 >>> ((S.1 18 x4.toNatClampNeg) &&& 31)) &&& 1) = 0 then
            zlet (x4 + 1) fun v7 =>
            (f_X1_standing_13_L15 n) x2 x3 v7 S
          else
            f_X1_standing_13_B55 (f_X1_standing_13_L15 n) x2 x3 x4 S else none else none
    else
      some (x3, S)
def f_X1_standing_13 (x1 : Int32) (S : zS) : Option (Int32 × zS) :=
  zb (f_X1_repealedBy_13 x1 S) fun r3 T2 =>
  zlet (x1 &&& (r3 ^^^ (-1))) fun v4 =>
  f_X1_standing_13_L15 zN v4 0 0 T2
set_option maxRecDepth 100000 in
theorem w_X1_standing_13_B55 (l : Launch) {r : Int32} {S1 : zS} (K15 : Int32 → Int32 → Int32 → zS → Option (Int32 × zS)) (hK15 : ∀ (x2 : Int32) (x3 : Int32) (x4 : Int32) (S : zS), K15 x2 x3 x4 S = some (r, S1) → WA zLX l RX1 cX1_standing 5 (some .int) 2 (some (.int r)) S1 15 [(0, .ref 13), (2, .int x2), (3, .int x3), (4, .int x4)] [] S) (x2 : Int32) (x3 : Int32) (x4 : Int32) (S : zS) (h : f_X1_standing_13_B55 K15 x2 x3 x4 S = some (r, S1)) : WA zLX l RX1 cX1_standing 5 (some .int) 2 (some (.int r)) S1 55 [(0, .ref 13), (2, .int x2), (3, .int x3), (4, .int x4)] [] S := by
  unfold f_X1_standing_13_B55 at h
  refine z_iload_n (pc := 55) (q := 2) dX1_standing_55 rfl rfl ?_
  refine z_iconst (pc := 56) (v := 1) dX1_standing_56 zci_1 ?_
  refine z_iload (pc := 57) (q := 3) dX1_standing_57 rfl ?_
  refine z_ishl (pc := 59) dX1_standing_59 ?_
  refine z_ior (pc := 60) dX1_standing_60 ?_
  obtain ⟨v1, ev1, h⟩ := zl_some h
  refine z_top ev1 ?_
  refine z_istore_n (pc := 61) (lo' := [(3, .int v1), (0, .ref 13), (2, .int x2), (4, .int x4)]) dX1_standing_61 rfl (by decide) rfl ?_
  obtain ⟨v2, ev2, h⟩ := zl_some h
  refine z_iinc (pc := 62) (q := 3) (v := v2) (lo' := [(4, .int v2), (3, .int v1), (0, .ref 13), (2, .int x2)]) dX1_standing_62 rfl (by rw [ev2, zci_1]) (by decide) rfl ?_
  refine z_goto (pc := 65) (tgt := 15) dX1_standing_65 (by decide) ?_
  exact z_sub [2, 3, 1, 0] rfl (hK15 x2 v1 v2 S h)
set_option maxRecDepth 100000 in
theorem w_X1_standing_13_L15 (l : Launch) {r : Int32} {S1 : zS} : ∀ (n : Nat) (x2 : Int32) (x3 : Int32) (x4 : Int32) (S : zS), f_X1_standing_13_L15 n x2 x3 x4 S = some (r, S1) → WA zLX l RX1 cX1_standing 5 (some .int) 2 (some (.int r)) S1 15 [(0, .ref 13), (2, .int x2), (3, .int x3), (4, .int x4)] [] S := by
  intro n
  induction n with
  | zero =>
    intro x2 x3 x4 S h
    exact nomatch h
  | succ n ih =>
    intro x2 x3 x4 S h
    rw [f_X1_standing_13_L15] at h
    refine z_iload (pc := 15) (q := 3) dX1_standing_15 rfl ?_
    refine z_bipush (pc := 17) (v := 12) dX1_standing_17 zcb_12 ?_
    refine z_icmp_ge (pc := 19) (tgt := 68) dX1_standing_19 (by decide) (fun c1 => ?_) (fun c1 => ?_)
    · have h := ze_some c1 h
      refine z_iload_n (pc := 68) (q := 2) dX1_standing_68 rfl rfl ?_
      obtain ⟨rfl, rfl⟩ := zr_some h
      exact z_iret dX1_standing_69
    · have h := zt_some c1 h
      refine z_iload_n (pc := 22) (q := 1) dX1_standing_22 rfl rfl ?_
      refine z_iload (pc := 23) (q := 3) dX1_standing_23 rfl ?_
      refine z_ishr (pc := 25) dX1_standing_25 ?_
      refine z_iconst (pc := 26) (v := 1) dX1_standing_26 zci_1 ?_
      refine z_iand (pc := 27) dX1_standing_27 ?_
      refine z_if_eq (pc := 28) (tgt := 62) dX1_standing_28 (by decide) (fun c2 => ?_) (fun c2 => ?_)
      · have h := zt_some c2 h
        obtain ⟨v3, ev3, h⟩ := zl_some h
        refine z_iinc (pc := 62) (q := 3) (v := v3) (lo' := [(4, .int v3), (0, .ref 13), (2, .int x2), (3, .int x3)]) dX1_standing_62 rfl (by rw [ev3, zci_1]) (by decide) rfl ?_
        refine z_goto (pc := 65) (tgt := 15) dX1_standing_65 (by decide) ?_
        exact z_sub [1, 2, 3, 0] rfl (ih x2 x3 v3 S h)
      · have h := ze_some c2 h
        refine z_aload_n (pc := 31) (q := 0) dX1_standing_31 rfl rfl ?_
        refine z_getR (pc := 32) dX1_standing_32 zf_X1_24 gX_13_4 ?_
        refine z_iload (pc := 35) (q := 3) dX1_standing_35 rfl ?_
        obtain ⟨c3, h⟩ := zg_some h
        refine z_iald (pc := 37) dX1_standing_37 aX_18 c3 ?_
        refine z_if_lt (pc := 38) (tgt := 55) dX1_standing_38 (by decide) (fun c4 => ?_) (fun c4 => ?_)
        · have h := zt_some c4 h
          exact w_X1_standing_13_B55 l (f_X1_standing_13_L15 n) ih x2 x3 x4 S h
        · have h := ze_some c4 h
          refine z_iload_n (pc := 41) (q := 2) dX1_standing_41 rfl rfl ?_
          refine z_aload_n (pc := 42) (q := 0) dX1_standing_42 rfl rfl ?_
          refine z_getR (pc := 43) dX1_standing_43 zf_X1_24 gX_13_4 ?_
          refine z_iload (pc := 46) (q := 3) dX1_standing_46 rfl ?_
          obtain ⟨c5, h⟩ := zg_some h
          refine z_iald (pc := 48) dX1_standing_48 aX_18 c5 ?_
          refine z_ishr (pc := 49) dX1_standing_49 ?_
          refine z_iconst (pc := 50) (v := 1) dX1_standing_50 zci_1 ?_
          refine z_iand (pc := 51) dX1_standing_51 ?_
          refine z_if_eq (pc := 52) (tgt := 62) dX1_standing_52 (by decide) (fun c6 => ?_) (fun c6 => ?_)
          · have h := zt_some c6 h
            obtain ⟨v7, ev7, h⟩ := zl_some h
            refine z_iinc (pc := 62) (q := 3) (v := v7) (lo' := [(4, .int v7), (0, .ref 13), (2, .int x2), (3, .int x3)]) dX1_standing_62 rfl (by rw [ev7, zci_1]) (by decide) rfl ?_
            refine z_goto (pc := 65) (tgt := 15) dX1_standing_65 (by decide) ?_
            exact z_sub [1, 2, 3, 0] rfl (ih x2 x3 v7 S h)
          · have h := ze_some c6 h
            exact w_X1_standing_13_B55 l (f_X1_standing_13_L15 n) ih x2 x3 x4 S h
set_option maxRecDepth 100000 in
theorem w_X1_standing_13 (l : Launch) {x1 : Int32} {S : zS} {r : Int32} {S1 : zS} (h : f_X1_standing_13 x1 S = some (r, S1)) : zMet zLX l yX1_standing cX1_standing 5 (some .int) 2 [.ref 13, .int x1] S (some (.int r)) S1 := by
  unfold f_X1_standing_13 at h
  refine zMet.of (by decide +kernel) (Nat.le_of_ble_eq_true rfl) ?_
  show WA zLX l RX1 cX1_standing 5 (some .int) 2 (some (.int r)) S1 0 [(0, .ref 13), (1, .int x1)] [] S
  refine z_iload_n (pc := 0) (q := 1) dX1_standing_0 rfl rfl ?_
  refine z_aload_n (pc := 1) (q := 0) dX1_standing_1 rfl rfl ?_
  refine z_iload_n (pc := 2) (q := 1) dX1_standing_2 rfl rfl ?_
  obtain ⟨r3, T2, q1, h⟩ := zb_some h
  refine z_callVi (pc := 3) (st := [.int x1]) [.int x1] dX1_standing_3 zm_X1_42 zM_X1_repealedBy (by decide) oX_13 rfl (w_X1_repealedBy_13 l q1) rfl rfl (Nat.le_of_ble_eq_true rfl) ?_
  refine z_iconst (pc := 6) (v := (-1)) dX1_standing_6 zci_m1 ?_
  refine z_ixor (pc := 7) dX1_standing_7 ?_
  refine z_iand (pc := 8) dX1_standing_8 ?_
  obtain ⟨v4, ev4, h⟩ := zl_some h
  refine z_top ev4 ?_
  refine z_istore_n (pc := 9) (lo' := [(2, .int v4), (0, .ref 13), (1, .int x1)]) dX1_standing_9 rfl (by decide) rfl ?_
  refine z_iconst (pc := 10) (v := 0) dX1_standing_10 zci_0 ?_
  refine z_istore_n (pc := 11) (lo' := [(3, .int 0), (2, .int v4), (0, .ref 13), (1, .int x1)]) dX1_standing_11 rfl (by decide) rfl ?_
  refine z_iconst (pc := 12) (v := 0) dX1_standing_12 zci_0 ?_
  refine z_istore (pc := 13) (lo' := [(4, .int 0), (3, .int 0), (2, .int v4), (0, .ref 13), (1, .int x1)]) dX1_standing_13 (by decide) rfl ?_
  exact z_sub [3, 2, 1, 0] rfl (w_X1_standing_13_L15 l zN v4 0 0 T2 h)
def f_X11_standingNow  (S : zS) : Option (Int32 × zS) :=
  zb (f_X3_livingBits_37 S) fun r3 T2 =>
  zb (f_X1_standing_13 r3 T2) fun r6 T5 =>
  some (r6, T5)
set_option maxRecDepth 100000 in
theorem w_X11_standingNow (l : Launch)  {S : zS} {r : Int32} {S1 : zS} (h : f_X11_standingNow S = some (r, S1)) : zMet zLX l yX11_standingNow cX11_standingNow 1 (some .int) 3 [.ref 0] S (some (.int r)) S1 := by
  unfold f_X11_standingNow at h
  refine zMet.of (by decide +kernel) (Nat.le_of_ble_eq_true rfl) ?_
  show WA zLX l RX11 cX11_standingNow 1 (some .int) 3 (some (.int r)) S1 0 [(0, .ref 0)] [] S
  refine z_aload_n (pc := 0) (q := 0) dX11_standingNow_0 rfl rfl ?_
  refine z_getR (pc := 1) dX11_standingNow_1 zf_X11_25 gX_0_3 ?_
  refine z_getR (pc := 4) dX11_standingNow_4 zf_X11_131 gX_5_13 ?_
  refine z_aload_n (pc := 7) (q := 0) dX11_standingNow_7 rfl rfl ?_
  refine z_getR (pc := 8) dX11_standingNow_8 zf_X11_35 gX_0_5 ?_
  obtain ⟨r3, T2, q1, h⟩ := zb_some h
  refine z_callVi (pc := 11) (st := [.ref 13]) [] dX11_standingNow_11 zm_X11_165 zM_X3_livingBits (by decide) oX_37 rfl (w_X3_livingBits_37 l q1) rfl rfl (Nat.le_of_ble_eq_true rfl) ?_
  obtain ⟨r6, T5, q4, h⟩ := zb_some h
  refine z_callVi (pc := 14) (st := []) [.int r3] dX11_standingNow_14 zm_X11_185 zM_X1_standing (by decide) oX_13 rfl (w_X1_standing_13 l q4) rfl rfl (Nat.le_of_ble_eq_true rfl) ?_
  obtain ⟨rfl, rfl⟩ := zr_some h
  exact z_iret dX11_standingNow_17
def f_X11_bill (x1 : Int32) (x2 : Int32) (S : zS) : Option (Int32 × zS) :=
  zb (f_X11_isBill x1 S) fun r3 T2 =>
  if r3 = 0 then
    some ((-100), T2)
  else
    if x2 = 0 then
      if zin x1 12 then
      some (T2.1 38 x1.toNatClampNeg, T2) else none
    else
      if x2 = 1 then
        if zin x1 12 then
        some (T2.1 39 x1.toNatClampNeg, T2) else none
      else
        if x2 = 2 then
          if zin x1 12 then
          some (T2.1 14 x1.toNatClampNeg, T2) else none
        else
          if x2 = 3 then
            if zin x1 12 then
            some (T2.1 15 x1.toNatClampNeg, T2) else none
          else
            if x2 = 4 then
              if zin x1 12 then
              some (T2.1 16 x1.toNatClampNeg, T2) else none
            else
              if x2 = 5 then
                if zin x1 12 then
                some (T2.1 17 x1.toNatClampNeg, T2) else none
              else
                if x2 = 6 then
                  if zin x1 12 then
                  some (T2.1 18 x1.toNatClampNeg, T2) else none
                else
                  if x2 = 7 then
                    if zin x1 12 then
                    some (T2.1 19 x1.toNatClampNeg, T2) else none
                  else
                    if x2 = 8 then
                      zb (f_X11_standingNow T2) fun r16 T15 =>
                      some ((r16 >>> (x1 &&& 31)) &&& 1, T15)
                    else
                      if x2 = 9 then
                        zb (f_X3_livingBits_37 T2) fun r17 T16 =>
                        zb (f_X1_repealedBy_13 r17 T16) fun r20 T19 =>
                        some ((r20 >>> (x1 &&& 31)) &&& 1, T19)
                      else
                        some ((-100), T2)
set_option maxRecDepth 100000 in
theorem w_X11_bill (l : Launch) {x1 : Int32} {x2 : Int32} {S : zS} {r : Int32} {S1 : zS} (h : f_X11_bill x1 x2 S = some (r, S1)) : zMet zLX l yX11_bill cX11_bill 4 (some .int) 4 [.ref 0, .int x1, .int x2] S (some (.int r)) S1 := by
  unfold f_X11_bill at h
  refine zMet.of (by decide +kernel) (Nat.le_of_ble_eq_true rfl) ?_
  show WA zLX l RX11 cX11_bill 4 (some .int) 4 (some (.int r)) S1 0 [(0, .ref 0), (1, .int x1), (2, .int x2)] [] S
  refine z_aload_n (pc := 0) (q := 0) dX11_bill_0 rfl rfl ?_
  refine z_iload_n (pc := 1) (q := 1) dX11_bill_1 rfl rfl ?_
  obtain ⟨r3, T2, q1, h⟩ := zb_some h
  refine z_callVi (pc := 2) (st := []) [.int x1] dX11_bill_2 zm_X11_127 zM_X11_isBill (by decide) oX_0 rfl (w_X11_isBill l q1) rfl rfl (Nat.le_of_ble_eq_true rfl) ?_
  refine z_if_ne (pc := 5) (tgt := 11) dX11_bill_5 (by decide) (fun c4 => ?_) (fun c4 => ?_)
  · have h := ze_some c4 h
    refine z_aload_n (pc := 11) (q := 0) dX11_bill_11 rfl rfl ?_
    refine z_getR (pc := 12) dX11_bill_12 zf_X11_25 gX_0_3 ?_
    refine z_getR (pc := 15) dX11_bill_15 zf_X11_131 gX_5_13 ?_
    refine z_astore_n (pc := 18) (lo' := [(3, .ref 13), (0, .ref 0), (1, .int x1), (2, .int x2)]) dX11_bill_18 rfl (by decide) rfl ?_
    refine z_iload_n (pc := 19) (q := 3) dX11_bill_19 rfl rfl ?_
    refine z_tsw (pc := 20) 163 [(0, 76), (1, 86), (2, 96), (3, 103), (4, 110), (5, 117), (6, 124), (7, 131), (8, 138), (9, 147)] dX11_bill_20 (by decide) (by decide +kernel) (by decide +kernel) ?_
    refine zsw_c (fun c5 => ?_) (fun c5 => ?_)
    · have h := zt_some c5 h
      refine z_aload_n (pc := 76) (q := 1) dX11_bill_76 rfl rfl ?_
      refine z_getR (pc := 77) dX11_bill_77 zf_X11_35 gX_0_5 ?_
      refine z_getR (pc := 80) dX11_bill_80 zf_X11_135 gX_37_3 ?_
      refine z_iload_n (pc := 83) (q := 2) dX11_bill_83 rfl rfl ?_
      obtain ⟨c6, h⟩ := zg_some h
      refine z_iald (pc := 84) dX11_bill_84 aX_38 c6 ?_
      obtain ⟨rfl, rfl⟩ := zr_some h
      exact z_iret dX11_bill_85
    · have h := ze_some c5 h
      refine zsw_c (fun c6 => ?_) (fun c6 => ?_)
      · have h := zt_some c6 h
        refine z_aload_n (pc := 86) (q := 1) dX11_bill_86 rfl rfl ?_
        refine z_getR (pc := 87) dX11_bill_87 zf_X11_35 gX_0_5 ?_
        refine z_getR (pc := 90) dX11_bill_90 zf_X11_138 gX_37_4 ?_
        refine z_iload_n (pc := 93) (q := 2) dX11_bill_93 rfl rfl ?_
        obtain ⟨c7, h⟩ := zg_some h
        refine z_iald (pc := 94) dX11_bill_94 aX_39 c7 ?_
        obtain ⟨rfl, rfl⟩ := zr_some h
        exact z_iret dX11_bill_95
      · have h := ze_some c6 h
        refine zsw_c (fun c7 => ?_) (fun c7 => ?_)
        · have h := zt_some c7 h
          refine z_aload_n (pc := 96) (q := 0) dX11_bill_96 rfl rfl ?_
          refine z_getR (pc := 97) dX11_bill_97 zf_X11_141 gX_13_0 ?_
          refine z_iload_n (pc := 100) (q := 2) dX11_bill_100 rfl rfl ?_
          obtain ⟨c8, h⟩ := zg_some h
          refine z_iald (pc := 101) dX11_bill_101 aX_14 c8 ?_
          obtain ⟨rfl, rfl⟩ := zr_some h
          exact z_iret dX11_bill_102
        · have h := ze_some c7 h
          refine zsw_c (fun c8 => ?_) (fun c8 => ?_)
          · have h := zt_some c8 h
            refine z_aload_n (pc := 103) (q := 0) dX11_bill_103 rfl rfl ?_
            refine z_getR (pc := 104) dX11_bill_104 zf_X11_146 gX_13_1 ?_
            refine z_iload_n (pc := 107) (q := 2) dX11_bill_107 rfl rfl ?_
            obtain ⟨c9, h⟩ := zg_some h
            refine z_iald (pc := 108) dX11_bill_108 aX_15 c9 ?_
            obtain ⟨rfl, rfl⟩ := zr_some h
            exact z_iret dX11_bill_109
          · have h := ze_some c8 h
            refine zsw_c (fun c9 => ?_) (fun c9 => ?_)
            · have h := zt_some c9 h
              refine z_aload_n (pc := 110) (q := 0) dX11_bill_110 rfl rfl ?_
              refine z_getR (pc := 111) dX11_bill_111 zf_X11_149 gX_13_2 ?_
              refine z_iload_n (pc := 114) (q := 2) dX11_bill_114 rfl rfl ?_
              obtain ⟨c10, h⟩ := zg_some h
              refine z_iald (pc := 115) dX11_bill_115 aX_16 c10 ?_
              obtain ⟨rfl, rfl⟩ := zr_some h
              exact z_iret dX11_bill_116
            · have h := ze_some c9 h
              refine zsw_c (fun c10 => ?_) (fun c10 => ?_)
              · have h := zt_some c10 h
                refine z_aload_n (pc := 117) (q := 0) dX11_bill_117 rfl rfl ?_
                refine z_getR (pc := 118) dX11_bill_118 zf_X11_152 gX_13_3 ?_
                refine z_iload_n (pc := 121) (q := 2) dX11_bill_121 rfl rfl ?_
                obtain ⟨c11, h⟩ := zg_some h
                refine z_iald (pc := 122) dX11_bill_122 aX_17 c11 ?_
                obtain ⟨rfl, rfl⟩ := zr_some h
                exact z_iret dX11_bill_123
              · have h := ze_some c10 h
                refine zsw_c (fun c11 => ?_) (fun c11 => ?_)
                · have h := zt_some c11 h
                  refine z_aload_n (pc := 124) (q := 0) dX11_bill_124 rfl rfl ?_
                  refine z_getR (pc := 125) dX11_bill_125 zf_X11_155 gX_13_4 ?_
                  refine z_iload_n (pc := 128) (q := 2) dX11_bill_128 rfl rfl ?_
                  obtain ⟨c12, h⟩ := zg_some h
                  refine z_iald (pc := 129) dX11_bill_129 aX_18 c12 ?_
                  obtain ⟨rfl, rfl⟩ := zr_some h
                  exact z_iret dX11_bill_130
                · have h := ze_some c11 h
                  refine zsw_c (fun c12 => ?_) (fun c12 => ?_)
                  · have h := zt_some c12 h
                    refine z_aload_n (pc := 131) (q := 0) dX11_bill_131 rfl rfl ?_
                    refine z_getR (pc := 132) dX11_bill_132 zf_X11_158 gX_13_5 ?_
                    refine z_iload_n (pc := 135) (q := 2) dX11_bill_135 rfl rfl ?_
                    obtain ⟨c13, h⟩ := zg_some h
                    refine z_iald (pc := 136) dX11_bill_136 aX_19 c13 ?_
                    obtain ⟨rfl, rfl⟩ := zr_some h
                    exact z_iret dX11_bill_137
                  · have h := ze_some c12 h
                    refine zsw_c (fun c13 => ?_) (fun c13 => ?_)
                    · have h := zt_some c13 h
                      refine z_aload_n (pc := 138) (q := 1) dX11_bill_138 rfl rfl ?_
                      obtain ⟨r16, T15, q14, h⟩ := zb_some h
                      refine z_callVi (pc := 139) (st := []) [] dX11_bill_139 zm_X11_161 zM_X11_standingNow (by decide) oX_0 rfl (w_X11_standingNow l q14) rfl rfl (Nat.le_of_ble_eq_true rfl) ?_
                      refine z_iload_n (pc := 142) (q := 2) dX11_bill_142 rfl rfl ?_
                      refine z_ishr (pc := 143) dX11_bill_143 ?_
                      refine z_iconst (pc := 144) (v := 1) dX11_bill_144 zci_1 ?_
                      refine z_iand (pc := 145) dX11_bill_145 ?_
                      obtain ⟨rfl, rfl⟩ := zr_some h
                      exact z_iret dX11_bill_146
                    · have h := ze_some c13 h
                      refine zsw_c (fun c14 => ?_) (fun c14 => ?_)
                      · have h := zt_some c14 h
                        refine z_aload_n (pc := 147) (q := 0) dX11_bill_147 rfl rfl ?_
                        refine z_aload_n (pc := 148) (q := 1) dX11_bill_148 rfl rfl ?_
                        refine z_getR (pc := 149) dX11_bill_149 zf_X11_35 gX_0_5 ?_
                        obtain ⟨r17, T16, q15, h⟩ := zb_some h
                        refine z_callVi (pc := 152) (st := [.ref 13]) [] dX11_bill_152 zm_X11_165 zM_X3_livingBits (by decide) oX_37 rfl (w_X3_livingBits_37 l q15) rfl rfl (Nat.le_of_ble_eq_true rfl) ?_
                        obtain ⟨r20, T19, q18, h⟩ := zb_some h
                        refine z_callVi (pc := 155) (st := []) [.int r17] dX11_bill_155 zm_X11_168 zM_X1_repealedBy (by decide) oX_13 rfl (w_X1_repealedBy_13 l q18) rfl rfl (Nat.le_of_ble_eq_true rfl) ?_
                        refine z_iload_n (pc := 158) (q := 2) dX11_bill_158 rfl rfl ?_
                        refine z_ishr (pc := 159) dX11_bill_159 ?_
                        refine z_iconst (pc := 160) (v := 1) dX11_bill_160 zci_1 ?_
                        refine z_iand (pc := 161) dX11_bill_161 ?_
                        obtain ⟨rfl, rfl⟩ := zr_some h
                        exact z_iret dX11_bill_162
                      · have h := ze_some c14 h
                        refine zsw_n ?_
                        refine z_bipush (pc := 163) (v := (-100)) dX11_bill_163 zcb_m100 ?_
                        obtain ⟨rfl, rfl⟩ := zr_some h
                        exact z_iret dX11_bill_165
  · have h := zt_some c4 h
    refine z_bipush (pc := 8) (v := (-100)) dX11_bill_8 zcb_m100 ?_
    obtain ⟨rfl, rfl⟩ := zr_some h
    exact z_iret dX11_bill_10
def f_X11_isStake (x1 : Int32) (S : zS) : Option (Int32 × zS) :=
  if x1 < 0 then
    some (0, S)
  else
    if x1 < (S.1 5 0) then
      some (1, S)
    else
      some (0, S)
set_option maxRecDepth 100000 in
theorem w_X11_isStake (l : Launch) {x1 : Int32} {S : zS} {r : Int32} {S1 : zS} (h : f_X11_isStake x1 S = some (r, S1)) : zMet zLX l yX11_isStake cX11_isStake 2 (some .boolean) 1 [.ref 0, .int x1] S (some (.int r)) S1 := by
  unfold f_X11_isStake at h
  refine zMet.of (by decide +kernel) (Nat.le_of_ble_eq_true rfl) ?_
  show WA zLX l RX11 cX11_isStake 2 (some .boolean) 1 (some (.int r)) S1 0 [(0, .ref 0), (1, .int x1)] [] S
  refine z_iload_n (pc := 0) (q := 1) dX11_isStake_0 rfl rfl ?_
  refine z_if_lt (pc := 1) (tgt := 19) dX11_isStake_1 (by decide) (fun c1 => ?_) (fun c1 => ?_)
  · have h := zt_some c1 h
    refine z_iconst (pc := 19) (v := 0) dX11_isStake_19 zci_0 ?_
    obtain ⟨rfl, rfl⟩ := zr_some h
    exact z_zret dX11_isStake_20 rfl
  · have h := ze_some c1 h
    refine z_iload_n (pc := 4) (q := 1) dX11_isStake_4 rfl rfl ?_
    refine z_aload_n (pc := 5) (q := 0) dX11_isStake_5 rfl rfl ?_
    refine z_getR (pc := 6) dX11_isStake_6 zf_X11_25 gX_0_3 ?_
    refine z_getI (pc := 9) dX11_isStake_9 zf_X11_254 gX_5_0 ?_
    refine z_icmp_ge (pc := 12) (tgt := 19) dX11_isStake_12 (by decide) (fun c2 => ?_) (fun c2 => ?_)
    · have h := ze_some c2 h
      refine z_iconst (pc := 19) (v := 0) dX11_isStake_19 zci_0 ?_
      obtain ⟨rfl, rfl⟩ := zr_some h
      exact z_zret dX11_isStake_20 rfl
    · have h := zt_some c2 h
      refine z_iconst (pc := 15) (v := 1) dX11_isStake_15 zci_1 ?_
      refine z_goto (pc := 16) (tgt := 20) dX11_isStake_16 (by decide) ?_
      obtain ⟨rfl, rfl⟩ := zr_some h
      exact z_zret dX11_isStake_20 rfl
def f_X1_onStake_13_L5 : Nat → Int32 → Int32 → Int32 → Int32 → zS → Option (Int32 × zS)
  | 0, _, _, _, _, _ => none
  | n + 1, x1, x2, x3, x4, S =>
    if x4 < 12 then
      if ((x2 >>> (x4 &&& 31)) &&& 1) = 0 then
        zlet (x4 + 1) fun v3 =>
        (f_X1_onStake_13_L5 n) x1 x2 x3 v3 S
      else
        if zin x4 12 then
        if (S.1 14 x4.toNatClampNeg) = x1 then
          zlet (x3 ||| (1 <<< (x4 &&& 31))) fun v5 =>
          zlet (x4 + 1) fun v6 =>
          (f_X1_onStake_13_L5 n) x1 x2 v5 v6 S
        else
          zlet (x4 + 1) fun v5 =>
          (f_X1_onStake_13_L5 n) x1 x2 x3 v5 S else none
    else
      some (x3, S)
def f_X1_onStake_13 (x1 : Int32) (x2 : Int32) (S : zS) : Option (Int32 × zS) :=
  f_X1_onStake_13_L5 zN x1 x2 0 0 S
set_option maxRecDepth 100000 in
theorem w_X1_onStake_13_L5 (l : Launch) {r : Int32} {S1 : zS} : ∀ (n : Nat) (x1 : Int32) (x2 : Int32) (x3 : Int32) (x4 : Int32) (S : zS), f_X1_onStake_13_L5 n x1 x2 x3 x4 S = some (r, S1) → WA zLX l RX1 cX1_onStake 5 (some .int) 1 (some (.int r)) S1 5 [(0, .ref 13), (1, .int x1), (2, .int x2), (3, .int x3), (4, .int x4)] [] S := by
  intro n
  induction n with
  | zero =>
    intro x1 x2 x3 x4 S h
    exact nomatch h
  | succ n ih =>
    intro x1 x2 x3 x4 S h
    rw [f_X1_onStake_13_L5] at h
    refine z_iload (pc := 5) (q := 4) dX1_onStake_5 rfl ?_
    refine z_bipush (pc := 7) (v := 12) dX1_onStake_7 zcb_12 ?_
    refine z_icmp_ge (pc := 9) (tgt := 45) dX1_onStake_9 (by decide) (fun c1 => ?_) (fun c1 => ?_)
    · have h := ze_some c1 h
      refine z_iload_n (pc := 45) (q := 3) dX1_onStake_45 rfl rfl ?_
      obtain ⟨rfl, rfl⟩ := zr_some h
      exact z_iret dX1_onStake_46
    · have h := zt_some c1 h
      refine z_iload_n (pc := 12) (q := 2) dX1_onStake_12 rfl rfl ?_
      refine z_iload (pc := 13) (q := 4) dX1_onStake_13 rfl ?_
      refine z_ishr (pc := 15) dX1_onStake_15 ?_
      refine z_iconst (pc := 16) (v := 1) dX1_onStake_16 zci_1 ?_
      refine z_iand (pc := 17) dX1_onStake_17 ?_
      refine z_if_eq (pc := 18) (tgt := 39) dX1_onStake_18 (by decide) (fun c2 => ?_) (fun c2 => ?_)
      · have h := zt_some c2 h
        obtain ⟨v3, ev3, h⟩ := zl_some h
        refine z_iinc (pc := 39) (q := 4) (v := v3) (lo' := [(4, .int v3), (0, .ref 13), (1, .int x1), (2, .int x2), (3, .int x3)]) dX1_onStake_39 rfl (by rw [ev3, zci_1]) (by decide) rfl ?_
        refine z_goto (pc := 42) (tgt := 5) dX1_onStake_42 (by decide) ?_
        exact z_sub [1, 2, 3, 4, 0] rfl (ih x1 x2 x3 v3 S h)
      · have h := ze_some c2 h
        refine z_aload_n (pc := 21) (q := 0) dX1_onStake_21 rfl rfl ?_
        refine z_getR (pc := 22) dX1_onStake_22 zf_X1_9 gX_13_0 ?_
        refine z_iload (pc := 25) (q := 4) dX1_onStake_25 rfl ?_
        obtain ⟨c3, h⟩ := zg_some h
        refine z_iald (pc := 27) dX1_onStake_27 aX_14 c3 ?_
        refine z_iload_n (pc := 28) (q := 1) dX1_onStake_28 rfl rfl ?_
        refine z_icmp_ne (pc := 29) (tgt := 39) dX1_onStake_29 (by decide) (fun c4 => ?_) (fun c4 => ?_)
        · have h := ze_some c4 h
          obtain ⟨v5, ev5, h⟩ := zl_some h
          refine z_iinc (pc := 39) (q := 4) (v := v5) (lo' := [(4, .int v5), (0, .ref 13), (1, .int x1), (2, .int x2), (3, .int x3)]) dX1_onStake_39 rfl (by rw [ev5, zci_1]) (by decide) rfl ?_
          refine z_goto (pc := 42) (tgt := 5) dX1_onStake_42 (by decide) ?_
          exact z_sub [1, 2, 3, 4, 0] rfl (ih x1 x2 x3 v5 S h)
        · have h := zt_some c4 h
          refine z_iload_n (pc := 32) (q := 3) dX1_onStake_32 rfl rfl ?_
          refine z_iconst (pc := 33) (v := 1) dX1_onStake_33 zci_1 ?_
          refine z_iload (pc := 34) (q := 4) dX1_onStake_34 rfl ?_
          refine z_ishl (pc := 36) dX1_onStake_36 ?_
          refine z_ior (pc := 37) dX1_onStake_37 ?_
          obtain ⟨v5, ev5, h⟩ := zl_some h
          refine z_top ev5 ?_
          refine z_istore_n (pc := 38) (lo' := [(3, .int v5), (0, .ref 13), (1, .int x1), (2, .int x2), (4, .int x4)]) dX1_onStake_38 rfl (by decide) rfl ?_
          obtain ⟨v6, ev6, h⟩ := zl_some h
          refine z_iinc (pc := 39) (q := 4) (v := v6) (lo' := [(4, .int v6), (3, .int v5), (0, .ref 13), (1, .int x1), (2, .int x2)]) dX1_onStake_39 rfl (by rw [ev6, zci_1]) (by decide) rfl ?_
          refine z_goto (pc := 42) (tgt := 5) dX1_onStake_42 (by decide) ?_
          exact z_sub [2, 3, 4, 1, 0] rfl (ih x1 x2 v5 v6 S h)
set_option maxRecDepth 100000 in
theorem w_X1_onStake_13 (l : Launch) {x1 : Int32} {x2 : Int32} {S : zS} {r : Int32} {S1 : zS} (h : f_X1_onStake_13 x1 x2 S = some (r, S1)) : zMet zLX l yX1_onStake cX1_onStake 5 (some .int) 1 [.ref 13, .int x1, .int x2] S (some (.int r)) S1 := by
  unfold f_X1_onStake_13 at h
  refine zMet.of (by decide +kernel) (Nat.le_of_ble_eq_true rfl) ?_
  show WA zLX l RX1 cX1_onStake 5 (some .int) 1 (some (.int r)) S1 0 [(0, .ref 13), (1, .int x1), (2, .int x2)] [] S
  refine z_iconst (pc := 0) (v := 0) dX1_onStake_0 zci_0 ?_
  refine z_istore_n (pc := 1) (lo' := [(3, .int 0), (0, .ref 13), (1, .int x1), (2, .int x2)]) dX1_onStake_1 rfl (by decide) rfl ?_
  refine z_iconst (pc := 2) (v := 0) dX1_onStake_2 zci_0 ?_
  refine z_istore (pc := 3) (lo' := [(4, .int 0), (3, .int 0), (0, .ref 13), (1, .int x1), (2, .int x2)]) dX1_onStake_3 (by decide) rfl ?_
  exact z_sub [2, 3, 4, 1, 0] rfl (w_X1_onStake_13_L5 l zN x1 x2 0 0 S h)
def f_X11_stake_B45 (s0 : Int32) (s1 : Int32) (S : zS) : Option (Int32 × zS) :=
  zb (f_X1_onStake_13 s1 s0 S) fun r3 T2 =>
  some (r3, T2)
def f_X11_stake (x1 : Int32) (x2 : Int32) (S : zS) : Option (Int32 × zS) :=
  zb (f_X11_isStake x1 S) fun r3 T2 =>
  if r3 = 0 then
    some ((-1), T2)
  else
    if x2 < 0 then
      some ((-1), T2)
    else
      if (1 : Int32) < x2 then
        some ((-1), T2)
      else
        if x2 = 0 then
          zb (f_X3_livingBits_37 T2) fun r10 T9 =>
          f_X11_stake_B45 r10 x1 T9
        else
          zb (f_X11_standingNow T2) fun r10 T9 =>
          f_X11_stake_B45 r10 x1 T9
set_option maxRecDepth 100000 in
theorem w_X11_stake_B45 (l : Launch) {r : Int32} {S1 : zS} (s0 : Int32) (s1 : Int32) (S : zS) (h : f_X11_stake_B45 s0 s1 S = some (r, S1)) : WA zLX l RX11 cX11_stake 3 (some .int) 4 (some (.int r)) S1 45 [] [.int s0, .int s1, .ref 13] S := by
  unfold f_X11_stake_B45 at h
  obtain ⟨r3, T2, q1, h⟩ := zb_some h
  refine z_callVi (pc := 45) (st := []) [.int s1, .int s0] dX11_stake_45 zm_X11_175 zM_X1_onStake (by decide) oX_13 rfl (w_X1_onStake_13 l q1) rfl rfl (Nat.le_of_ble_eq_true rfl) ?_
  obtain ⟨rfl, rfl⟩ := zr_some h
  exact z_iret dX11_stake_48
set_option maxRecDepth 100000 in
theorem w_X11_stake (l : Launch) {x1 : Int32} {x2 : Int32} {S : zS} {r : Int32} {S1 : zS} (h : f_X11_stake x1 x2 S = some (r, S1)) : zMet zLX l yX11_stake cX11_stake 3 (some .int) 4 [.ref 0, .int x1, .int x2] S (some (.int r)) S1 := by
  unfold f_X11_stake at h
  refine zMet.of (by decide +kernel) (Nat.le_of_ble_eq_true rfl) ?_
  show WA zLX l RX11 cX11_stake 3 (some .int) 4 (some (.int r)) S1 0 [(0, .ref 0), (1, .int x1), (2, .int x2)] [] S
  refine z_aload_n (pc := 0) (q := 0) dX11_stake_0 rfl rfl ?_
  refine z_iload_n (pc := 1) (q := 1) dX11_stake_1 rfl rfl ?_
  obtain ⟨r3, T2, q1, h⟩ := zb_some h
  refine z_callVi (pc := 2) (st := []) [.int x1] dX11_stake_2 zm_X11_172 zM_X11_isStake (by decide) oX_0 rfl (w_X11_isStake l q1) rfl rfl (Nat.le_of_ble_eq_true rfl) ?_
  refine z_if_eq (pc := 5) (tgt := 17) dX11_stake_5 (by decide) (fun c4 => ?_) (fun c4 => ?_)
  · have h := zt_some c4 h
    refine z_iconst (pc := 17) (v := (-1)) dX11_stake_17 zci_m1 ?_
    obtain ⟨rfl, rfl⟩ := zr_some h
    exact z_iret dX11_stake_18
  · have h := ze_some c4 h
    refine z_iload_n (pc := 8) (q := 2) dX11_stake_8 rfl rfl ?_
    refine z_if_lt (pc := 9) (tgt := 17) dX11_stake_9 (by decide) (fun c5 => ?_) (fun c5 => ?_)
    · have h := zt_some c5 h
      refine z_iconst (pc := 17) (v := (-1)) dX11_stake_17 zci_m1 ?_
      obtain ⟨rfl, rfl⟩ := zr_some h
      exact z_iret dX11_stake_18
    · have h := ze_some c5 h
      refine z_iload_n (pc := 12) (q := 2) dX11_stake_12 rfl rfl ?_
      refine z_iconst (pc := 13) (v := 1) dX11_stake_13 zci_1 ?_
      refine z_icmp_le (pc := 14) (tgt := 19) dX11_stake_14 (by decide) (fun c6 => ?_) (fun c6 => ?_)
      · have h := ze_some c6 h
        refine z_aload_n (pc := 19) (q := 0) dX11_stake_19 rfl rfl ?_
        refine z_getR (pc := 20) dX11_stake_20 zf_X11_25 gX_0_3 ?_
        refine z_getR (pc := 23) dX11_stake_23 zf_X11_131 gX_5_13 ?_
        refine z_iload_n (pc := 26) (q := 1) dX11_stake_26 rfl rfl ?_
        refine z_iload_n (pc := 27) (q := 2) dX11_stake_27 rfl rfl ?_
        refine z_if_ne (pc := 28) (tgt := 41) dX11_stake_28 (by decide) (fun c7 => ?_) (fun c7 => ?_)
        · have h := ze_some c7 h
          refine z_aload_n (pc := 41) (q := 0) dX11_stake_41 rfl rfl ?_
          obtain ⟨r10, T9, q8, h⟩ := zb_some h
          refine z_callVi (pc := 42) (st := [.int x1, .ref 13]) [] dX11_stake_42 zm_X11_161 zM_X11_standingNow (by decide) oX_0 rfl (w_X11_standingNow l q8) rfl rfl (Nat.le_of_ble_eq_true rfl) ?_
          exact z_sub [] rfl (w_X11_stake_B45 l r10 x1 T9 h)
        · have h := zt_some c7 h
          refine z_aload_n (pc := 31) (q := 0) dX11_stake_31 rfl rfl ?_
          refine z_getR (pc := 32) dX11_stake_32 zf_X11_35 gX_0_5 ?_
          obtain ⟨r10, T9, q8, h⟩ := zb_some h
          refine z_callVi (pc := 35) (st := [.int x1, .ref 13]) [] dX11_stake_35 zm_X11_165 zM_X3_livingBits (by decide) oX_37 rfl (w_X3_livingBits_37 l q8) rfl rfl (Nat.le_of_ble_eq_true rfl) ?_
          refine z_goto (pc := 38) (tgt := 45) dX11_stake_38 (by decide) ?_
          exact z_sub [] rfl (w_X11_stake_B45 l r10 x1 T9 h)
      · have h := zt_some c6 h
        refine z_iconst (pc := 17) (v := (-1)) dX11_stake_17 zci_m1 ?_
        obtain ⟨rfl, rfl⟩ := zr_some h
        exact z_iret dX11_stake_18
def f_X11_isTopic (x1 : Int32) (S : zS) : Option (Int32 × zS) :=
  if x1 < 0 then
    some (0, S)
  else
    if x1 < (S.1 5 2) then
      if x1 < 4 then
        some (1, S)
      else
        some (0, S)
    else
      some (0, S)
set_option maxRecDepth 100000 in
theorem w_X11_isTopic (l : Launch) {x1 : Int32} {S : zS} {r : Int32} {S1 : zS} (h : f_X11_isTopic x1 S = some (r, S1)) : zMet zLX l yX11_isTopic cX11_isTopic 2 (some .boolean) 1 [.ref 0, .int x1] S (some (.int r)) S1 := by
  unfold f_X11_isTopic at h
  refine zMet.of (by decide +kernel) (Nat.le_of_ble_eq_true rfl) ?_
  show WA zLX l RX11 cX11_isTopic 2 (some .boolean) 1 (some (.int r)) S1 0 [(0, .ref 0), (1, .int x1)] [] S
  refine z_iload_n (pc := 0) (q := 1) dX11_isTopic_0 rfl rfl ?_
  refine z_if_lt (pc := 1) (tgt := 24) dX11_isTopic_1 (by decide) (fun c1 => ?_) (fun c1 => ?_)
  · have h := zt_some c1 h
    refine z_iconst (pc := 24) (v := 0) dX11_isTopic_24 zci_0 ?_
    obtain ⟨rfl, rfl⟩ := zr_some h
    exact z_zret dX11_isTopic_25 rfl
  · have h := ze_some c1 h
    refine z_iload_n (pc := 4) (q := 1) dX11_isTopic_4 rfl rfl ?_
    refine z_aload_n (pc := 5) (q := 0) dX11_isTopic_5 rfl rfl ?_
    refine z_getR (pc := 6) dX11_isTopic_6 zf_X11_25 gX_0_3 ?_
    refine z_getI (pc := 9) dX11_isTopic_9 zf_X11_346 gX_5_2 ?_
    refine z_icmp_ge (pc := 12) (tgt := 24) dX11_isTopic_12 (by decide) (fun c2 => ?_) (fun c2 => ?_)
    · have h := ze_some c2 h
      refine z_iconst (pc := 24) (v := 0) dX11_isTopic_24 zci_0 ?_
      obtain ⟨rfl, rfl⟩ := zr_some h
      exact z_zret dX11_isTopic_25 rfl
    · have h := zt_some c2 h
      refine z_iload_n (pc := 15) (q := 1) dX11_isTopic_15 rfl rfl ?_
      refine z_iconst (pc := 16) (v := 4) dX11_isTopic_16 zci_4 ?_
      refine z_icmp_ge (pc := 17) (tgt := 24) dX11_isTopic_17 (by decide) (fun c3 => ?_) (fun c3 => ?_)
      · have h := ze_some c3 h
        refine z_iconst (pc := 24) (v := 0) dX11_isTopic_24 zci_0 ?_
        obtain ⟨rfl, rfl⟩ := zr_some h
        exact z_zret dX11_isTopic_25 rfl
      · have h := zt_some c3 h
        refine z_iconst (pc := 20) (v := 1) dX11_isTopic_20 zci_1 ?_
        refine z_goto (pc := 21) (tgt := 25) dX11_isTopic_21 (by decide) ?_
        obtain ⟨rfl, rfl⟩ := zr_some h
        exact z_zret dX11_isTopic_25 rfl
def f_X1_lawWithNew_13_B91 (K17 : Int32 → Int32 → Int32 → Int32 → Int32 → Int32 → Int32 → zS → Option (Int32 × zS)) (x1 : Int32) (x2 : Int32) (x3 : Int32) (x4 : Int32) (x5 : Int32) (x6 : Int32) (x7 : Int32) (x8 : Int32) (S : zS) : Option (Int32 × zS) :=
  if zin x8 12 then
  if (S.1 18 x8.toNatClampNeg) < 0 then
    if zin x8 12 then
    zlet (S.1 17 x8.toNatClampNeg) fun v4 =>
    zlet (x7 + 1) fun v5 =>
    K17 x1 x2 x3 x4 v4 x6 v5 S else none
  else
    if zin x8 12 then
    zlet (x5 + (S.1 17 x8.toNatClampNeg)) fun v4 =>
    zlet (x7 + 1) fun v5 =>
    K17 x1 x2 x3 x4 v4 x6 v5 S else none else none
def f_X1_lawWithNew_13_L17 : Nat → Int32 → Int32 → Int32 → Int32 → Int32 → Int32 → Int32 → zS → Option (Int32 × zS)
  | 0, _, _, _, _, _, _, _, _ => none
  | n + 1, x1, x2, x3, x4, x5, x6, x7, S =>
    if x7 < 12 then
      if zin x7 12 then
      zlet (S.1 20 x7.toNatClampNeg) fun v3 =>
      if v3 < 0 then
        zlet (x7 + 1) fun v5 =>
        (f_X1_lawWithNew_13_L17 n) x1 x2 x3 x4 x5 x6 v5 S
      else
        if v3 < 12 then
          if ((x2 >>> (v3 &&& 31)) &&& 1) = 0 then
            zlet (x7 + 1) fun v7 =>
            (f_X1_lawWithNew_13_L17 n) x1 x2 x3 x4 x5 x6 v7 S
          else
            if zin v3 12 then
            if (S.1 16 v3.toNatClampNeg) = x1 then
              if x6 = 0 then
                if zin v3 12 then
                if x3 < (S.1 14 v3.toNatClampNeg) then
                  f_X1_lawWithNew_13_B91 (f_X1_lawWithNew_13_L17 n) x1 x2 x3 x4 x4 1 x7 v3 S
                else
                  f_X1_lawWithNew_13_B91 (f_X1_lawWithNew_13_L17 n) x1 x2 x3 x4 x5 x6 x7 v3 S else none
              else
                f_X1_lawWithNew_13_B91 (f_X1_lawWithNew_13_L17 n) x1 x2 x3 x4 x5 x6 x7 v3 S
            else
              zlet (x7 + 1) fun v9 =>
              (f_X1_lawWithNew_13_L17 n) x1 x2 x3 x4 x5 x6 v9 S else none
        else
          zlet (x7 + 1) fun v6 =>
          (f_X1_lawWithNew_13_L17 n) x1 x2 x3 x4 x5 x6 v6 S else none
    else
      if x6 = 0 then
        some (x4, S)
      else
        some (x5, S)
def f_X1_lawWithNew_13 (x1 : Int32) (x2 : Int32) (x3 : Int32) (x4 : Int32) (S : zS) : Option (Int32 × zS) :=
  if x3 < 0 then
    f_X1_lawWithNew_13_L17 zN x1 x2 x3 x4 0 1 0 S
  else
    f_X1_lawWithNew_13_L17 zN x1 x2 x3 x4 0 0 0 S
set_option maxRecDepth 100000 in
theorem w_X1_lawWithNew_13_B91 (l : Launch) {r : Int32} {S1 : zS} (K17 : Int32 → Int32 → Int32 → Int32 → Int32 → Int32 → Int32 → zS → Option (Int32 × zS)) (hK17 : ∀ (x1 : Int32) (x2 : Int32) (x3 : Int32) (x4 : Int32) (x5 : Int32) (x6 : Int32) (x7 : Int32) (S : zS), K17 x1 x2 x3 x4 x5 x6 x7 S = some (r, S1) → WA zLX l RX1 cX1_lawWithNew 9 (some .int) 1 (some (.int r)) S1 17 [(0, .ref 13), (1, .int x1), (2, .int x2), (3, .int x3), (4, .int x4), (5, .int x5), (6, .int x6), (7, .int x7)] [] S) (x1 : Int32) (x2 : Int32) (x3 : Int32) (x4 : Int32) (x5 : Int32) (x6 : Int32) (x7 : Int32) (x8 : Int32) (S : zS) (h : f_X1_lawWithNew_13_B91 K17 x1 x2 x3 x4 x5 x6 x7 x8 S = some (r, S1)) : WA zLX l RX1 cX1_lawWithNew 9 (some .int) 1 (some (.int r)) S1 91 [(0, .ref 13), (1, .int x1), (2, .int x2), (3, .int x3), (4, .int x4), (5, .int x5), (6, .int x6), (7, .int x7), (8, .int x8)] [] S := by
  unfold f_X1_lawWithNew_13_B91 at h
  refine z_aload_n (pc := 91) (q := 0) dX1_lawWithNew_91 rfl rfl ?_
  refine z_getR (pc := 92) dX1_lawWithNew_92 zf_X1_24 gX_13_4 ?_
  refine z_iload (pc := 95) (q := 8) dX1_lawWithNew_95 rfl ?_
  obtain ⟨c1, h⟩ := zg_some h
  refine z_iald (pc := 97) dX1_lawWithNew_97 aX_18 c1 ?_
  refine z_if_ge (pc := 98) (tgt := 111) dX1_lawWithNew_98 (by decide) (fun c2 => ?_) (fun c2 => ?_)
  · have h := ze_some c2 h
    refine z_iload (pc := 111) (q := 5) dX1_lawWithNew_111 rfl ?_
    refine z_aload_n (pc := 113) (q := 0) dX1_lawWithNew_113 rfl rfl ?_
    refine z_getR (pc := 114) dX1_lawWithNew_114 zf_X1_21 gX_13_3 ?_
    refine z_iload (pc := 117) (q := 8) dX1_lawWithNew_117 rfl ?_
    obtain ⟨c3, h⟩ := zg_some h
    refine z_iald (pc := 119) dX1_lawWithNew_119 aX_17 c3 ?_
    refine z_iadd (pc := 120) dX1_lawWithNew_120 ?_
    obtain ⟨v4, ev4, h⟩ := zl_some h
    refine z_top ev4 ?_
    refine z_istore (pc := 121) (lo' := [(5, .int v4), (0, .ref 13), (1, .int x1), (2, .int x2), (3, .int x3), (4, .int x4), (6, .int x6), (7, .int x7), (8, .int x8)]) dX1_lawWithNew_121 (by decide) rfl ?_
    obtain ⟨v5, ev5, h⟩ := zl_some h
    refine z_iinc (pc := 123) (q := 7) (v := v5) (lo' := [(7, .int v5), (5, .int v4), (0, .ref 13), (1, .int x1), (2, .int x2), (3, .int x3), (4, .int x4), (6, .int x6), (8, .int x8)]) dX1_lawWithNew_123 rfl (by rw [ev5, zci_1]) (by decide) rfl ?_
    refine z_goto (pc := 126) (tgt := 17) dX1_lawWithNew_126 (by decide) ?_
    exact z_sub [2, 3, 4, 5, 6, 1, 7, 0] rfl (hK17 x1 x2 x3 x4 v4 x6 v5 S h)
  · have h := zt_some c2 h
    refine z_aload_n (pc := 101) (q := 0) dX1_lawWithNew_101 rfl rfl ?_
    refine z_getR (pc := 102) dX1_lawWithNew_102 zf_X1_21 gX_13_3 ?_
    refine z_iload (pc := 105) (q := 8) dX1_lawWithNew_105 rfl ?_
    obtain ⟨c3, h⟩ := zg_some h
    refine z_iald (pc := 107) dX1_lawWithNew_107 aX_17 c3 ?_
    refine z_goto (pc := 108) (tgt := 121) dX1_lawWithNew_108 (by decide) ?_
    obtain ⟨v4, ev4, h⟩ := zl_some h
    refine z_top ev4 ?_
    refine z_istore (pc := 121) (lo' := [(5, .int v4), (0, .ref 13), (1, .int x1), (2, .int x2), (3, .int x3), (4, .int x4), (6, .int x6), (7, .int x7), (8, .int x8)]) dX1_lawWithNew_121 (by decide) rfl ?_
    obtain ⟨v5, ev5, h⟩ := zl_some h
    refine z_iinc (pc := 123) (q := 7) (v := v5) (lo' := [(7, .int v5), (5, .int v4), (0, .ref 13), (1, .int x1), (2, .int x2), (3, .int x3), (4, .int x4), (6, .int x6), (8, .int x8)]) dX1_lawWithNew_123 rfl (by rw [ev5, zci_1]) (by decide) rfl ?_
    refine z_goto (pc := 126) (tgt := 17) dX1_lawWithNew_126 (by decide) ?_
    exact z_sub [2, 3, 4, 5, 6, 1, 7, 0] rfl (hK17 x1 x2 x3 x4 v4 x6 v5 S h)
set_option maxRecDepth 100000 in
theorem w_X1_lawWithNew_13_L17 (l : Launch) {r : Int32} {S1 : zS} : ∀ (n : Nat) (x1 : Int32) (x2 : Int32) (x3 : Int32) (x4 : Int32) (x5 : Int32) (x6 : Int32) (x7 : Int32) (S : zS), f_X1_lawWithNew_13_L17 n x1 x2 x3 x4 x5 x6 x7 S = some (r, S1) → WA zLX l RX1 cX1_lawWithNew 9 (some .int) 1 (some (.int r)) S1 17 [(0, .ref 13), (1, .int x1), (2, .int x2), (3, .int x3), (4, .int x4), (5, .int x5), (6, .int x6), (7, .int x7)] [] S := by
  intro n
  induction n with
  | zero =>
    intro x1 x2 x3 x4 x5 x6 x7 S h
    exact nomatch h
  | succ n ih =>
    intro x1 x2 x3 x4 x5 x6 x7 S h
    rw [f_X1_lawWithNew_13_L17] at h
    refine z_iload (pc := 17) (q := 7) dX1_lawWithNew_17 rfl ?_
    refine z_aload_n (pc := 19) (q := 0) dX1_lawWithNew_19 rfl rfl ?_
    refine z_getR (pc := 20) dX1_lawWithNew_20 zf_X1_30 gX_13_6 ?_
    refine z_alen (pc := 23) (v := 12) dX1_lawWithNew_23 aX_20 (by decide) (by decide) ?_
    refine z_icmp_ge (pc := 24) (tgt := 129) dX1_lawWithNew_24 (by decide) (fun c1 => ?_) (fun c1 => ?_)
    · have h := ze_some c1 h
      refine z_iload (pc := 129) (q := 6) dX1_lawWithNew_129 rfl ?_
      refine z_if_eq (pc := 131) (tgt := 139) dX1_lawWithNew_131 (by decide) (fun c2 => ?_) (fun c2 => ?_)
      · have h := zt_some c2 h
        refine z_iload (pc := 139) (q := 4) dX1_lawWithNew_139 rfl ?_
        obtain ⟨rfl, rfl⟩ := zr_some h
        exact z_iret dX1_lawWithNew_141
      · have h := ze_some c2 h
        refine z_iload (pc := 134) (q := 5) dX1_lawWithNew_134 rfl ?_
        refine z_goto (pc := 136) (tgt := 141) dX1_lawWithNew_136 (by decide) ?_
        obtain ⟨rfl, rfl⟩ := zr_some h
        exact z_iret dX1_lawWithNew_141
    · have h := zt_some c1 h
      refine z_aload_n (pc := 27) (q := 0) dX1_lawWithNew_27 rfl rfl ?_
      refine z_getR (pc := 28) dX1_lawWithNew_28 zf_X1_30 gX_13_6 ?_
      refine z_iload (pc := 31) (q := 7) dX1_lawWithNew_31 rfl ?_
      obtain ⟨c2, h⟩ := zg_some h
      refine z_iald (pc := 33) dX1_lawWithNew_33 aX_20 c2 ?_
      obtain ⟨v3, ev3, h⟩ := zl_some h
      refine z_top ev3 ?_
      refine z_istore (pc := 34) (lo' := [(8, .int v3), (0, .ref 13), (1, .int x1), (2, .int x2), (3, .int x3), (4, .int x4), (5, .int x5), (6, .int x6), (7, .int x7)]) dX1_lawWithNew_34 (by decide) rfl ?_
      refine z_iload (pc := 36) (q := 0) dX1_lawWithNew_36 rfl ?_
      refine z_if_lt (pc := 38) (tgt := 123) dX1_lawWithNew_38 (by decide) (fun c4 => ?_) (fun c4 => ?_)
      · have h := zt_some c4 h
        obtain ⟨v5, ev5, h⟩ := zl_some h
        refine z_iinc (pc := 123) (q := 8) (v := v5) (lo' := [(7, .int v5), (8, .int v3), (0, .ref 13), (1, .int x1), (2, .int x2), (3, .int x3), (4, .int x4), (5, .int x5), (6, .int x6)]) dX1_lawWithNew_123 rfl (by rw [ev5, zci_1]) (by decide) rfl ?_
        refine z_goto (pc := 126) (tgt := 17) dX1_lawWithNew_126 (by decide) ?_
        exact z_sub [2, 3, 4, 5, 6, 7, 8, 0] rfl (ih x1 x2 x3 x4 x5 x6 v5 S h)
      · have h := ze_some c4 h
        refine z_iload (pc := 41) (q := 0) dX1_lawWithNew_41 rfl ?_
        refine z_bipush (pc := 43) (v := 12) dX1_lawWithNew_43 zcb_12 ?_
        refine z_icmp_ge (pc := 45) (tgt := 123) dX1_lawWithNew_45 (by decide) (fun c5 => ?_) (fun c5 => ?_)
        · have h := ze_some c5 h
          obtain ⟨v6, ev6, h⟩ := zl_some h
          refine z_iinc (pc := 123) (q := 8) (v := v6) (lo' := [(7, .int v6), (8, .int v3), (0, .ref 13), (1, .int x1), (2, .int x2), (3, .int x3), (4, .int x4), (5, .int x5), (6, .int x6)]) dX1_lawWithNew_123 rfl (by rw [ev6, zci_1]) (by decide) rfl ?_
          refine z_goto (pc := 126) (tgt := 17) dX1_lawWithNew_126 (by decide) ?_
          exact z_sub [2, 3, 4, 5, 6, 7, 8, 0] rfl (ih x1 x2 x3 x4 x5 x6 v6 S h)
        · have h := zt_some c5 h
          refine z_iload_n (pc := 48) (q := 3) dX1_lawWithNew_48 rfl rfl ?_
          refine z_iload (pc := 49) (q := 0) dX1_lawWithNew_49 rfl ?_
          refine z_ishr (pc := 51) dX1_lawWithNew_51 ?_
          refine z_iconst (pc := 52) (v := 1) dX1_lawWithNew_52 zci_1 ?_
          refine z_iand (pc := 53) dX1_lawWithNew_53 ?_
          refine z_if_eq (pc := 54) (tgt := 123) dX1_lawWithNew_54 (by decide) (fun c6 => ?_) (fun c6 => ?_)
          · have h := zt_some c6 h
            obtain ⟨v7, ev7, h⟩ := zl_some h
            refine z_iinc (pc := 123) (q := 8) (v := v7) (lo' := [(7, .int v7), (8, .int v3), (0, .ref 13), (1, .int x1), (2, .int x2), (3, .int x3), (4, .int x4), (5, .int x5), (6, .int x6)]) dX1_lawWithNew_123 rfl (by rw [ev7, zci_1]) (by decide) rfl ?_
            refine z_goto (pc := 126) (tgt := 17) dX1_lawWithNew_126 (by decide) ?_
            exact z_sub [2, 3, 4, 5, 6, 7, 8, 0] rfl (ih x1 x2 x3 x4 x5 x6 v7 S h)
          · have h := ze_some c6 h
            refine z_aload_n (pc := 57) (q := 1) dX1_lawWithNew_57 rfl rfl ?_
            refine z_getR (pc := 58) dX1_lawWithNew_58 zf_X1_18 gX_13_2 ?_
            refine z_iload (pc := 61) (q := 0) dX1_lawWithNew_61 rfl ?_
            obtain ⟨c7, h⟩ := zg_some h
            refine z_iald (pc := 63) dX1_lawWithNew_63 aX_16 c7 ?_
            refine z_iload_n (pc := 64) (q := 2) dX1_lawWithNew_64 rfl rfl ?_
            refine z_icmp_ne (pc := 65) (tgt := 123) dX1_lawWithNew_65 (by decide) (fun c8 => ?_) (fun c8 => ?_)
            · have h := ze_some c8 h
              obtain ⟨v9, ev9, h⟩ := zl_some h
              refine z_iinc (pc := 123) (q := 8) (v := v9) (lo' := [(7, .int v9), (8, .int v3), (0, .ref 13), (1, .int x1), (2, .int x2), (3, .int x3), (4, .int x4), (5, .int x5), (6, .int x6)]) dX1_lawWithNew_123 rfl (by rw [ev9, zci_1]) (by decide) rfl ?_
              refine z_goto (pc := 126) (tgt := 17) dX1_lawWithNew_126 (by decide) ?_
              exact z_sub [2, 3, 4, 5, 6, 7, 8, 0] rfl (ih x1 x2 x3 x4 x5 x6 v9 S h)
            · have h := zt_some c8 h
              refine z_iload (pc := 68) (q := 7) dX1_lawWithNew_68 rfl ?_
              refine z_if_ne (pc := 70) (tgt := 91) dX1_lawWithNew_70 (by decide) (fun c9 => ?_) (fun c9 => ?_)
              · have h := ze_some c9 h
                exact z_sub [1, 2, 3, 4, 5, 6, 7, 8, 0] rfl (w_X1_lawWithNew_13_B91 l (f_X1_lawWithNew_13_L17 n) ih x1 x2 x3 x4 x5 x6 x7 v3 S h)
              · have h := zt_some c9 h
                refine z_aload_n (pc := 73) (q := 1) dX1_lawWithNew_73 rfl rfl ?_
                refine z_getR (pc := 74) dX1_lawWithNew_74 zf_X1_9 gX_13_0 ?_
                refine z_iload (pc := 77) (q := 0) dX1_lawWithNew_77 rfl ?_
                obtain ⟨c10, h⟩ := zg_some h
                refine z_iald (pc := 79) dX1_lawWithNew_79 aX_14 c10 ?_
                refine z_iload_n (pc := 80) (q := 4) dX1_lawWithNew_80 rfl rfl ?_
                refine z_icmp_le (pc := 81) (tgt := 91) dX1_lawWithNew_81 (by decide) (fun c11 => ?_) (fun c11 => ?_)
                · have h := ze_some c11 h
                  exact z_sub [1, 2, 3, 4, 5, 6, 7, 8, 0] rfl (w_X1_lawWithNew_13_B91 l (f_X1_lawWithNew_13_L17 n) ih x1 x2 x3 x4 x5 x6 x7 v3 S h)
                · have h := zt_some c11 h
                  refine z_iload (pc := 84) (q := 5) dX1_lawWithNew_84 rfl ?_
                  refine z_istore (pc := 86) (lo' := [(5, .int x4), (8, .int v3), (0, .ref 13), (1, .int x1), (2, .int x2), (3, .int x3), (4, .int x4), (6, .int x6), (7, .int x7)]) dX1_lawWithNew_86 (by decide) rfl ?_
                  refine z_iconst (pc := 88) (v := 1) dX1_lawWithNew_88 zci_1 ?_
                  refine z_istore (pc := 89) (lo' := [(6, .int 1), (5, .int x4), (8, .int v3), (0, .ref 13), (1, .int x1), (2, .int x2), (3, .int x3), (4, .int x4), (7, .int x7)]) dX1_lawWithNew_89 (by decide) rfl ?_
                  exact z_sub [3, 4, 5, 6, 7, 1, 0, 8, 2] rfl (w_X1_lawWithNew_13_B91 l (f_X1_lawWithNew_13_L17 n) ih x1 x2 x3 x4 x4 1 x7 v3 S h)
set_option maxRecDepth 100000 in
theorem w_X1_lawWithNew_13 (l : Launch) {x1 : Int32} {x2 : Int32} {x3 : Int32} {x4 : Int32} {S : zS} {r : Int32} {S1 : zS} (h : f_X1_lawWithNew_13 x1 x2 x3 x4 S = some (r, S1)) : zMet zLX l yX1_lawWithNew cX1_lawWithNew 9 (some .int) 1 [.ref 13, .int x1, .int x2, .int x3, .int x4] S (some (.int r)) S1 := by
  unfold f_X1_lawWithNew_13 at h
  refine zMet.of (by decide +kernel) (Nat.le_of_ble_eq_true rfl) ?_
  show WA zLX l RX1 cX1_lawWithNew 9 (some .int) 1 (some (.int r)) S1 0 [(0, .ref 13), (1, .int x1), (2, .int x2), (3, .int x3), (4, .int x4)] [] S
  refine z_iconst (pc := 0) (v := 0) dX1_lawWithNew_0 zci_0 ?_
  refine z_istore (pc := 1) (lo' := [(5, .int 0), (0, .ref 13), (1, .int x1), (2, .int x2), (3, .int x3), (4, .int x4)]) dX1_lawWithNew_1 (by decide) rfl ?_
  refine z_iload_n (pc := 3) (q := 4) dX1_lawWithNew_3 rfl rfl ?_
  refine z_if_ge (pc := 4) (tgt := 11) dX1_lawWithNew_4 (by decide) (fun c1 => ?_) (fun c1 => ?_)
  · have h := ze_some c1 h
    refine z_iconst (pc := 11) (v := 0) dX1_lawWithNew_11 zci_0 ?_
    refine z_istore (pc := 12) (lo' := [(6, .int 0), (5, .int 0), (0, .ref 13), (1, .int x1), (2, .int x2), (3, .int x3), (4, .int x4)]) dX1_lawWithNew_12 (by decide) rfl ?_
    refine z_iconst (pc := 14) (v := 0) dX1_lawWithNew_14 zci_0 ?_
    refine z_istore (pc := 15) (lo' := [(7, .int 0), (6, .int 0), (5, .int 0), (0, .ref 13), (1, .int x1), (2, .int x2), (3, .int x3), (4, .int x4)]) dX1_lawWithNew_15 (by decide) rfl ?_
    exact z_sub [3, 4, 5, 6, 7, 2, 1, 0] rfl (w_X1_lawWithNew_13_L17 l zN x1 x2 x3 x4 0 0 0 S h)
  · have h := zt_some c1 h
    refine z_iconst (pc := 7) (v := 1) dX1_lawWithNew_7 zci_1 ?_
    refine z_goto (pc := 8) (tgt := 12) dX1_lawWithNew_8 (by decide) ?_
    refine z_istore (pc := 12) (lo' := [(6, .int 1), (5, .int 0), (0, .ref 13), (1, .int x1), (2, .int x2), (3, .int x3), (4, .int x4)]) dX1_lawWithNew_12 (by decide) rfl ?_
    refine z_iconst (pc := 14) (v := 0) dX1_lawWithNew_14 zci_0 ?_
    refine z_istore (pc := 15) (lo' := [(7, .int 0), (6, .int 1), (5, .int 0), (0, .ref 13), (1, .int x1), (2, .int x2), (3, .int x3), (4, .int x4)]) dX1_lawWithNew_15 (by decide) rfl ?_
    exact z_sub [3, 4, 5, 6, 7, 2, 1, 0] rfl (w_X1_lawWithNew_13_L17 l zN x1 x2 x3 x4 0 1 0 S h)
def f_X1_lawOf_13 (x1 : Int32) (x2 : Int32) (S : zS) : Option (Int32 × zS) :=
  zb (f_X1_lawWithNew_13 x1 x2 (-1) 0 S) fun r3 T2 =>
  some (r3, T2)
set_option maxRecDepth 100000 in
theorem w_X1_lawOf_13 (l : Launch) {x1 : Int32} {x2 : Int32} {S : zS} {r : Int32} {S1 : zS} (h : f_X1_lawOf_13 x1 x2 S = some (r, S1)) : zMet zLX l yX1_lawOf cX1_lawOf 3 (some .int) 2 [.ref 13, .int x1, .int x2] S (some (.int r)) S1 := by
  unfold f_X1_lawOf_13 at h
  refine zMet.of (by decide +kernel) (Nat.le_of_ble_eq_true rfl) ?_
  show WA zLX l RX1 cX1_lawOf 3 (some .int) 2 (some (.int r)) S1 0 [(0, .ref 13), (1, .int x1), (2, .int x2)] [] S
  refine z_aload_n (pc := 0) (q := 0) dX1_lawOf_0 rfl rfl ?_
  refine z_iload_n (pc := 1) (q := 1) dX1_lawOf_1 rfl rfl ?_
  refine z_iload_n (pc := 2) (q := 2) dX1_lawOf_2 rfl rfl ?_
  refine z_iconst (pc := 3) (v := (-1)) dX1_lawOf_3 zci_m1 ?_
  refine z_iconst (pc := 4) (v := 0) dX1_lawOf_4 zci_0 ?_
  obtain ⟨r3, T2, q1, h⟩ := zb_some h
  refine z_callVi (pc := 5) (st := []) [.int x1, .int x2, .int (-1), .int 0] dX1_lawOf_5 zm_X1_51 zM_X1_lawWithNew (by decide) oX_13 rfl (w_X1_lawWithNew_13 l q1) rfl rfl (Nat.le_of_ble_eq_true rfl) ?_
  obtain ⟨rfl, rfl⟩ := zr_some h
  exact z_iret dX1_lawOf_8
def f_X11_law (x1 : Int32) (S : zS) : Option (Int32 × zS) :=
  zb (f_X11_isTopic x1 S) fun r3 T2 =>
  if r3 = 0 then
    some ((-1000), T2)
  else
    zb (f_X11_standingNow T2) fun r7 T6 =>
    zb (f_X1_lawOf_13 x1 r7 T6) fun r10 T9 =>
    some (r10, T9)
set_option maxRecDepth 100000 in
theorem w_X11_law (l : Launch) {x1 : Int32} {S : zS} {r : Int32} {S1 : zS} (h : f_X11_law x1 S = some (r, S1)) : zMet zLX l yX11_law cX11_law 2 (some .int) 4 [.ref 0, .int x1] S (some (.int r)) S1 := by
  unfold f_X11_law at h
  refine zMet.of (by decide +kernel) (Nat.le_of_ble_eq_true rfl) ?_
  show WA zLX l RX11 cX11_law 2 (some .int) 4 (some (.int r)) S1 0 [(0, .ref 0), (1, .int x1)] [] S
  refine z_aload_n (pc := 0) (q := 0) dX11_law_0 rfl rfl ?_
  refine z_iload_n (pc := 1) (q := 1) dX11_law_1 rfl rfl ?_
  obtain ⟨r3, T2, q1, h⟩ := zb_some h
  refine z_callVi (pc := 2) (st := []) [.int x1] dX11_law_2 zm_X11_179 zM_X11_isTopic (by decide) oX_0 rfl (w_X11_isTopic l q1) rfl rfl (Nat.le_of_ble_eq_true rfl) ?_
  refine z_if_eq (pc := 5) (tgt := 26) dX11_law_5 (by decide) (fun c4 => ?_) (fun c4 => ?_)
  · have h := zt_some c4 h
    refine z_sipush (pc := 26) (v := (-1000)) dX11_law_26 zcs_m1000 ?_
    obtain ⟨rfl, rfl⟩ := zr_some h
    exact z_iret dX11_law_29
  · have h := ze_some c4 h
    refine z_aload_n (pc := 8) (q := 0) dX11_law_8 rfl rfl ?_
    refine z_getR (pc := 9) dX11_law_9 zf_X11_25 gX_0_3 ?_
    refine z_getR (pc := 12) dX11_law_12 zf_X11_131 gX_5_13 ?_
    refine z_iload_n (pc := 15) (q := 1) dX11_law_15 rfl rfl ?_
    refine z_aload_n (pc := 16) (q := 0) dX11_law_16 rfl rfl ?_
    obtain ⟨r7, T6, q5, h⟩ := zb_some h
    refine z_callVi (pc := 17) (st := [.int x1, .ref 13]) [] dX11_law_17 zm_X11_161 zM_X11_standingNow (by decide) oX_0 rfl (w_X11_standingNow l q5) rfl rfl (Nat.le_of_ble_eq_true rfl) ?_
    obtain ⟨r10, T9, q8, h⟩ := zb_some h
    refine z_callVi (pc := 20) (st := []) [.int x1, .int r7] dX11_law_20 zm_X11_182 zM_X1_lawOf (by decide) oX_13 rfl (w_X1_lawOf_13 l q8) rfl rfl (Nat.le_of_ble_eq_true rfl) ?_
    refine z_goto (pc := 23) (tgt := 29) dX11_law_23 (by decide) ?_
    obtain ⟨rfl, rfl⟩ := zr_some h
    exact z_iret dX11_law_29
def f_X11_stands  (S : zS) : Option (Int32 × zS) :=
  zb (f_X11_standingNow S) fun r3 T2 =>
  some (r3, T2)
set_option maxRecDepth 100000 in
theorem w_X11_stands (l : Launch)  {S : zS} {r : Int32} {S1 : zS} (h : f_X11_stands S = some (r, S1)) : zMet zLX l yX11_stands cX11_stands 1 (some .int) 4 [.ref 0] S (some (.int r)) S1 := by
  unfold f_X11_stands at h
  refine zMet.of (by decide +kernel) (Nat.le_of_ble_eq_true rfl) ?_
  show WA zLX l RX11 cX11_stands 1 (some .int) 4 (some (.int r)) S1 0 [(0, .ref 0)] [] S
  refine z_aload_n (pc := 0) (q := 0) dX11_stands_0 rfl rfl ?_
  obtain ⟨r3, T2, q1, h⟩ := zb_some h
  refine z_callVi (pc := 1) (st := []) [] dX11_stands_1 zm_X11_161 zM_X11_standingNow (by decide) oX_0 rfl (w_X11_standingNow l q1) rfl rfl (Nat.le_of_ble_eq_true rfl) ?_
  obtain ⟨rfl, rfl⟩ := zr_some h
  exact z_iret dX11_stands_4
def f_X11_falls (x1 : Int32) (S : zS) : Option (Int32 × zS) :=
  zb (f_X11_isBill x1 S) fun r3 T2 =>
  if r3 = 0 then
    some ((-1), T2)
  else
    zb (f_X3_livingBits_37 T2) fun r7 T6 =>
    zb (f_X1_standing_13 (r7 &&& ((1 <<< (x1 &&& 31)) ^^^ (-1))) T6) fun r10 T9 =>
    zb (f_X11_standingNow T9) fun r13 T12 =>
    some (r13 &&& (r10 ^^^ (-1)), T12)
set_option maxRecDepth 100000 in
theorem w_X11_falls (l : Launch) {x1 : Int32} {S : zS} {r : Int32} {S1 : zS} (h : f_X11_falls x1 S = some (r, S1)) : zMet zLX l yX11_falls cX11_falls 3 (some .int) 4 [.ref 0, .int x1] S (some (.int r)) S1 := by
  unfold f_X11_falls at h
  refine zMet.of (by decide +kernel) (Nat.le_of_ble_eq_true rfl) ?_
  show WA zLX l RX11 cX11_falls 3 (some .int) 4 (some (.int r)) S1 0 [(0, .ref 0), (1, .int x1)] [] S
  refine z_aload_n (pc := 0) (q := 0) dX11_falls_0 rfl rfl ?_
  refine z_iload_n (pc := 1) (q := 1) dX11_falls_1 rfl rfl ?_
  obtain ⟨r3, T2, q1, h⟩ := zb_some h
  refine z_callVi (pc := 2) (st := []) [.int x1] dX11_falls_2 zm_X11_127 zM_X11_isBill (by decide) oX_0 rfl (w_X11_isBill l q1) rfl rfl (Nat.le_of_ble_eq_true rfl) ?_
  refine z_if_ne (pc := 5) (tgt := 10) dX11_falls_5 (by decide) (fun c4 => ?_) (fun c4 => ?_)
  · have h := ze_some c4 h
    refine z_aload_n (pc := 10) (q := 0) dX11_falls_10 rfl rfl ?_
    refine z_getR (pc := 11) dX11_falls_11 zf_X11_25 gX_0_3 ?_
    refine z_getR (pc := 14) dX11_falls_14 zf_X11_131 gX_5_13 ?_
    refine z_aload_n (pc := 17) (q := 0) dX11_falls_17 rfl rfl ?_
    refine z_getR (pc := 18) dX11_falls_18 zf_X11_35 gX_0_5 ?_
    obtain ⟨r7, T6, q5, h⟩ := zb_some h
    refine z_callVi (pc := 21) (st := [.ref 13]) [] dX11_falls_21 zm_X11_165 zM_X3_livingBits (by decide) oX_37 rfl (w_X3_livingBits_37 l q5) rfl rfl (Nat.le_of_ble_eq_true rfl) ?_
    refine z_iconst (pc := 24) (v := 1) dX11_falls_24 zci_1 ?_
    refine z_iload_n (pc := 25) (q := 1) dX11_falls_25 rfl rfl ?_
    refine z_ishl (pc := 26) dX11_falls_26 ?_
    refine z_iconst (pc := 27) (v := (-1)) dX11_falls_27 zci_m1 ?_
    refine z_ixor (pc := 28) dX11_falls_28 ?_
    refine z_iand (pc := 29) dX11_falls_29 ?_
    obtain ⟨r10, T9, q8, h⟩ := zb_some h
    refine z_callVi (pc := 30) (st := []) [.int (r7 &&& ((1 <<< (x1 &&& 31)) ^^^ (-1)))] dX11_falls_30 zm_X11_185 zM_X1_standing (by decide) oX_13 rfl (w_X1_standing_13 l q8) rfl rfl (Nat.le_of_ble_eq_true rfl) ?_
    refine z_istore_n (pc := 33) (lo' := [(2, .int r10), (0, .ref 0), (1, .int x1)]) dX11_falls_33 rfl (by decide) rfl ?_
    refine z_aload_n (pc := 34) (q := 1) dX11_falls_34 rfl rfl ?_
    obtain ⟨r13, T12, q11, h⟩ := zb_some h
    refine z_callVi (pc := 35) (st := []) [] dX11_falls_35 zm_X11_161 zM_X11_standingNow (by decide) oX_0 rfl (w_X11_standingNow l q11) rfl rfl (Nat.le_of_ble_eq_true rfl) ?_
    refine z_iload_n (pc := 38) (q := 0) dX11_falls_38 rfl rfl ?_
    refine z_iconst (pc := 39) (v := (-1)) dX11_falls_39 zci_m1 ?_
    refine z_ixor (pc := 40) dX11_falls_40 ?_
    refine z_iand (pc := 41) dX11_falls_41 ?_
    obtain ⟨rfl, rfl⟩ := zr_some h
    exact z_iret dX11_falls_42
  · have h := zt_some c4 h
    refine z_iconst (pc := 8) (v := (-1)) dX11_falls_8 zci_m1 ?_
    obtain ⟨rfl, rfl⟩ := zr_some h
    exact z_iret dX11_falls_9
def f_X11_isSaying (x0 : Int32) (S : zS) : Option (Int32 × zS) :=
  if x0 < (-9) then
    some (0, S)
  else
    if (9 : Int32) < x0 then
      some (0, S)
    else
      some (1, S)
set_option maxRecDepth 100000 in
theorem w_X11_isSaying (l : Launch) {x0 : Int32} {S : zS} {r : Int32} {S1 : zS} (h : f_X11_isSaying x0 S = some (r, S1)) : zMet zLX l yX11_isSaying cX11_isSaying 1 (some .boolean) 1 [.int x0] S (some (.int r)) S1 := by
  unfold f_X11_isSaying at h
  refine zMet.of (by decide +kernel) (Nat.le_of_ble_eq_true rfl) ?_
  show WA zLX l RX11 cX11_isSaying 1 (some .boolean) 1 (some (.int r)) S1 0 [(0, .int x0)] [] S
  refine z_iload_n (pc := 0) (q := 0) dX11_isSaying_0 rfl rfl ?_
  refine z_bipush (pc := 1) (v := (-9)) dX11_isSaying_1 zcb_m9 ?_
  refine z_icmp_lt (pc := 3) (tgt := 16) dX11_isSaying_3 (by decide) (fun c1 => ?_) (fun c1 => ?_)
  · have h := zt_some c1 h
    refine z_iconst (pc := 16) (v := 0) dX11_isSaying_16 zci_0 ?_
    obtain ⟨rfl, rfl⟩ := zr_some h
    exact z_zret dX11_isSaying_17 rfl
  · have h := ze_some c1 h
    refine z_iload_n (pc := 6) (q := 0) dX11_isSaying_6 rfl rfl ?_
    refine z_bipush (pc := 7) (v := 9) dX11_isSaying_7 zcb_9 ?_
    refine z_icmp_gt (pc := 9) (tgt := 16) dX11_isSaying_9 (by decide) (fun c2 => ?_) (fun c2 => ?_)
    · have h := zt_some c2 h
      refine z_iconst (pc := 16) (v := 0) dX11_isSaying_16 zci_0 ?_
      obtain ⟨rfl, rfl⟩ := zr_some h
      exact z_zret dX11_isSaying_17 rfl
    · have h := ze_some c2 h
      refine z_iconst (pc := 12) (v := 1) dX11_isSaying_12 zci_1 ?_
      refine z_goto (pc := 13) (tgt := 17) dX11_isSaying_13 (by decide) ?_
      obtain ⟨rfl, rfl⟩ := zr_some h
      exact z_zret dX11_isSaying_17 rfl
def f_X11_isPlant (x1 : Int32) (S : zS) : Option (Int32 × zS) :=
  if x1 < 0 then
    some (0, S)
  else
    if x1 < (S.1 5 1) then
      if x1 < 4 then
        some (1, S)
      else
        some (0, S)
    else
      some (0, S)
set_option maxRecDepth 100000 in
theorem w_X11_isPlant (l : Launch) {x1 : Int32} {S : zS} {r : Int32} {S1 : zS} (h : f_X11_isPlant x1 S = some (r, S1)) : zMet zLX l yX11_isPlant cX11_isPlant 2 (some .boolean) 1 [.ref 0, .int x1] S (some (.int r)) S1 := by
  unfold f_X11_isPlant at h
  refine zMet.of (by decide +kernel) (Nat.le_of_ble_eq_true rfl) ?_
  show WA zLX l RX11 cX11_isPlant 2 (some .boolean) 1 (some (.int r)) S1 0 [(0, .ref 0), (1, .int x1)] [] S
  refine z_iload_n (pc := 0) (q := 1) dX11_isPlant_0 rfl rfl ?_
  refine z_if_lt (pc := 1) (tgt := 24) dX11_isPlant_1 (by decide) (fun c1 => ?_) (fun c1 => ?_)
  · have h := zt_some c1 h
    refine z_iconst (pc := 24) (v := 0) dX11_isPlant_24 zci_0 ?_
    obtain ⟨rfl, rfl⟩ := zr_some h
    exact z_zret dX11_isPlant_25 rfl
  · have h := ze_some c1 h
    refine z_iload_n (pc := 4) (q := 1) dX11_isPlant_4 rfl rfl ?_
    refine z_aload_n (pc := 5) (q := 0) dX11_isPlant_5 rfl rfl ?_
    refine z_getR (pc := 6) dX11_isPlant_6 zf_X11_25 gX_0_3 ?_
    refine z_getI (pc := 9) dX11_isPlant_9 zf_X11_343 gX_5_1 ?_
    refine z_icmp_ge (pc := 12) (tgt := 24) dX11_isPlant_12 (by decide) (fun c2 => ?_) (fun c2 => ?_)
    · have h := ze_some c2 h
      refine z_iconst (pc := 24) (v := 0) dX11_isPlant_24 zci_0 ?_
      obtain ⟨rfl, rfl⟩ := zr_some h
      exact z_zret dX11_isPlant_25 rfl
    · have h := zt_some c2 h
      refine z_iload_n (pc := 15) (q := 1) dX11_isPlant_15 rfl rfl ?_
      refine z_iconst (pc := 16) (v := 4) dX11_isPlant_16 zci_4 ?_
      refine z_icmp_ge (pc := 17) (tgt := 24) dX11_isPlant_17 (by decide) (fun c3 => ?_) (fun c3 => ?_)
      · have h := ze_some c3 h
        refine z_iconst (pc := 24) (v := 0) dX11_isPlant_24 zci_0 ?_
        obtain ⟨rfl, rfl⟩ := zr_some h
        exact z_zret dX11_isPlant_25 rfl
      · have h := zt_some c3 h
        refine z_iconst (pc := 20) (v := 1) dX11_isPlant_20 zci_1 ?_
        refine z_goto (pc := 21) (tgt := 25) dX11_isPlant_21 (by decide) ?_
        obtain ⟨rfl, rfl⟩ := zr_some h
        exact z_zret dX11_isPlant_25 rfl
def f_X1_put_13 (x1 : Int32) (x2 : Int32) (x3 : Int32) (x4 : Int32) (x5 : Int32) (x6 : Int32) (x7 : Int32) (S : zS) : Option zS :=
  if x1 < 0 then
    some S
  else
    if x1 < 12 then
      if zin x1 12 then
      zlet (zput S 14 x1.toNatClampNeg x2) fun T4 =>
      if zin x1 12 then
      zlet (zput T4 15 x1.toNatClampNeg x3) fun T6 =>
      if zin x1 12 then
      zlet (zput T6 16 x1.toNatClampNeg x4) fun T8 =>
      if zin x1 12 then
      zlet (zput T8 17 x1.toNatClampNeg x5) fun T10 =>
      if zin x1 12 then
      zlet (zput T10 18 x1.toNatClampNeg x6) fun T12 =>
      if zin x1 12 then
      zlet (zput T12 19 x1.toNatClampNeg x7) fun T14 =>
      some T14 else none else none else none else none else none else none
    else
      some S
set_option maxRecDepth 100000 in
theorem w_X1_put_13 (l : Launch) {x1 : Int32} {x2 : Int32} {x3 : Int32} {x4 : Int32} {x5 : Int32} {x6 : Int32} {x7 : Int32} {S : zS} {S1 : zS} (h : f_X1_put_13 x1 x2 x3 x4 x5 x6 x7 S = some S1) : zMet zLX l yX1_put cX1_put 8 none 1 [.ref 13, .int x1, .int x2, .int x3, .int x4, .int x5, .int x6, .int x7] S none S1 := by
  unfold f_X1_put_13 at h
  refine zMet.of (by decide +kernel) (Nat.le_of_ble_eq_true rfl) ?_
  show WA zLX l RX1 cX1_put 8 none 1 none S1 0 [(0, .ref 13), (1, .int x1), (2, .int x2), (3, .int x3), (4, .int x4), (5, .int x5), (6, .int x6), (7, .int x7)] [] S
  refine z_iload_n (pc := 0) (q := 1) dX1_put_0 rfl rfl ?_
  refine z_if_lt (pc := 1) (tgt := 56) dX1_put_1 (by decide) (fun c1 => ?_) (fun c1 => ?_)
  · have h := zt_some c1 h
    cases h
    exact z_vret dX1_put_56
  · have h := ze_some c1 h
    refine z_iload_n (pc := 4) (q := 1) dX1_put_4 rfl rfl ?_
    refine z_bipush (pc := 5) (v := 12) dX1_put_5 zcb_12 ?_
    refine z_icmp_ge (pc := 7) (tgt := 56) dX1_put_7 (by decide) (fun c2 => ?_) (fun c2 => ?_)
    · have h := ze_some c2 h
      cases h
      exact z_vret dX1_put_56
    · have h := zt_some c2 h
      refine z_aload_n (pc := 10) (q := 0) dX1_put_10 rfl rfl ?_
      refine z_getR (pc := 11) dX1_put_11 zf_X1_9 gX_13_0 ?_
      refine z_iload_n (pc := 14) (q := 1) dX1_put_14 rfl rfl ?_
      refine z_iload_n (pc := 15) (q := 2) dX1_put_15 rfl rfl ?_
      obtain ⟨c3, h⟩ := zg_some h
      obtain ⟨T4, eT4, h⟩ := zl_some h
      refine z_iast (pc := 16) dX1_put_16 aX_14 c3 eT4 ?_
      refine z_aload_n (pc := 17) (q := 0) dX1_put_17 rfl rfl ?_
      refine z_getR (pc := 18) dX1_put_18 zf_X1_15 gX_13_1 ?_
      refine z_iload_n (pc := 21) (q := 1) dX1_put_21 rfl rfl ?_
      refine z_iload_n (pc := 22) (q := 3) dX1_put_22 rfl rfl ?_
      obtain ⟨c5, h⟩ := zg_some h
      obtain ⟨T6, eT6, h⟩ := zl_some h
      refine z_iast (pc := 23) dX1_put_23 aX_15 c5 eT6 ?_
      refine z_aload_n (pc := 24) (q := 0) dX1_put_24 rfl rfl ?_
      refine z_getR (pc := 25) dX1_put_25 zf_X1_18 gX_13_2 ?_
      refine z_iload_n (pc := 28) (q := 1) dX1_put_28 rfl rfl ?_
      refine z_iload (pc := 29) (q := 4) dX1_put_29 rfl ?_
      obtain ⟨c7, h⟩ := zg_some h
      obtain ⟨T8, eT8, h⟩ := zl_some h
      refine z_iast (pc := 31) dX1_put_31 aX_16 c7 eT8 ?_
      refine z_aload_n (pc := 32) (q := 0) dX1_put_32 rfl rfl ?_
      refine z_getR (pc := 33) dX1_put_33 zf_X1_21 gX_13_3 ?_
      refine z_iload_n (pc := 36) (q := 1) dX1_put_36 rfl rfl ?_
      refine z_iload (pc := 37) (q := 5) dX1_put_37 rfl ?_
      obtain ⟨c9, h⟩ := zg_some h
      obtain ⟨T10, eT10, h⟩ := zl_some h
      refine z_iast (pc := 39) dX1_put_39 aX_17 c9 eT10 ?_
      refine z_aload_n (pc := 40) (q := 0) dX1_put_40 rfl rfl ?_
      refine z_getR (pc := 41) dX1_put_41 zf_X1_24 gX_13_4 ?_
      refine z_iload_n (pc := 44) (q := 1) dX1_put_44 rfl rfl ?_
      refine z_iload (pc := 45) (q := 6) dX1_put_45 rfl ?_
      obtain ⟨c11, h⟩ := zg_some h
      obtain ⟨T12, eT12, h⟩ := zl_some h
      refine z_iast (pc := 47) dX1_put_47 aX_18 c11 eT12 ?_
      refine z_aload_n (pc := 48) (q := 0) dX1_put_48 rfl rfl ?_
      refine z_getR (pc := 49) dX1_put_49 zf_X1_27 gX_13_5 ?_
      refine z_iload_n (pc := 52) (q := 1) dX1_put_52 rfl rfl ?_
      refine z_iload (pc := 53) (q := 7) dX1_put_53 rfl ?_
      obtain ⟨c13, h⟩ := zg_some h
      obtain ⟨T14, eT14, h⟩ := zl_some h
      refine z_iast (pc := 55) dX1_put_55 aX_19 c13 eT14 ?_
      cases h
      exact z_vret dX1_put_56
def f_X1_sortForReading_13_L12 (K4 : Int32 → Int32 → zS → Option zS) : Nat → Int32 → Int32 → Int32 → zS → Option zS
  | 0, _, _, _, _ => none
  | n + 1, x1, x2, x3, S =>
    if x3 < 12 then
      if zin x3 12 then
      if (S.1 14 x3.toNatClampNeg) = x2 then
        if x1 < 12 then
          if zin x1 12 then
          zlet (zput S 20 x1.toNatClampNeg x3) fun T6 =>
          zlet (x1 + 1) fun v7 =>
          zlet (x3 + 1) fun v8 =>
          (f_X1_sortForReading_13_L12 K4 n) v7 x2 v8 T6 else none
        else
          zlet (x3 + 1) fun v5 =>
          (f_X1_sortForReading_13_L12 K4 n) x1 x2 v5 S
      else
        zlet (x3 + 1) fun v4 =>
        (f_X1_sortForReading_13_L12 K4 n) x1 x2 v4 S else none
    else
      zlet (x2 + 1) fun v2 =>
      K4 x1 v2 S
def f_X1_sortForReading_13_L4 : Nat → Int32 → Int32 → zS → Option zS
  | 0, _, _, _ => none
  | n + 1, x1, x2, S =>
    if x2 < 12 then
      f_X1_sortForReading_13_L12 (f_X1_sortForReading_13_L4 n) zN x1 x2 0 S
    else
      some S
def f_X1_sortForReading_13  (S : zS) : Option zS :=
  f_X1_sortForReading_13_L4 zN 0 0 S
set_option maxRecDepth 100000 in
theorem w_X1_sortForReading_13_L12 (l : Launch) {S1 : zS} (K4 : Int32 → Int32 → zS → Option zS) (hK4 : ∀ (x1 : Int32) (x2 : Int32) (S : zS), K4 x1 x2 S = some S1 → WA zLX l RX1 cX1_sortForReading 4 none 1 none S1 4 [(0, .ref 13), (1, .int x1), (2, .int x2)] [] S) : ∀ (n : Nat) (x1 : Int32) (x2 : Int32) (x3 : Int32) (S : zS), f_X1_sortForReading_13_L12 K4 n x1 x2 x3 S = some S1 → WA zLX l RX1 cX1_sortForReading 4 none 1 none S1 12 [(0, .ref 13), (1, .int x1), (2, .int x2), (3, .int x3)] [] S := by
  intro n
  induction n with
  | zero =>
    intro x1 x2 x3 S h
    exact nomatch h
  | succ n ih =>
    intro x1 x2 x3 S h
    rw [f_X1_sortForReading_13_L12] at h
    refine z_iload_n (pc := 12) (q := 3) dX1_sortForReading_12 rfl rfl ?_
    refine z_bipush (pc := 13) (v := 12) dX1_sortForReading_13 zcb_12 ?_
    refine z_icmp_ge (pc := 15) (tgt := 53) dX1_sortForReading_15 (by decide) (fun c1 => ?_) (fun c1 => ?_)
    · have h := ze_some c1 h
      obtain ⟨v2, ev2, h⟩ := zl_some h
      refine z_iinc (pc := 53) (q := 2) (v := v2) (lo' := [(2, .int v2), (0, .ref 13), (1, .int x1), (3, .int x3)]) dX1_sortForReading_53 rfl (by rw [ev2, zci_1]) (by decide) rfl ?_
      refine z_goto (pc := 56) (tgt := 4) dX1_sortForReading_56 (by decide) ?_
      exact z_sub [1, 2, 0] rfl (hK4 x1 v2 S h)
    · have h := zt_some c1 h
      refine z_aload_n (pc := 18) (q := 0) dX1_sortForReading_18 rfl rfl ?_
      refine z_getR (pc := 19) dX1_sortForReading_19 zf_X1_9 gX_13_0 ?_
      refine z_iload_n (pc := 22) (q := 3) dX1_sortForReading_22 rfl rfl ?_
      obtain ⟨c2, h⟩ := zg_some h
      refine z_iald (pc := 23) dX1_sortForReading_23 aX_14 c2 ?_
      refine z_iload_n (pc := 24) (q := 2) dX1_sortForReading_24 rfl rfl ?_
      refine z_icmp_ne (pc := 25) (tgt := 47) dX1_sortForReading_25 (by decide) (fun c3 => ?_) (fun c3 => ?_)
      · have h := ze_some c3 h
        obtain ⟨v4, ev4, h⟩ := zl_some h
        refine z_iinc (pc := 47) (q := 3) (v := v4) (lo' := [(3, .int v4), (0, .ref 13), (1, .int x1), (2, .int x2)]) dX1_sortForReading_47 rfl (by rw [ev4, zci_1]) (by decide) rfl ?_
        refine z_goto (pc := 50) (tgt := 12) dX1_sortForReading_50 (by decide) ?_
        exact z_sub [1, 2, 3, 0] rfl (ih x1 x2 v4 S h)
      · have h := zt_some c3 h
        refine z_iload_n (pc := 28) (q := 1) dX1_sortForReading_28 rfl rfl ?_
        refine z_aload_n (pc := 29) (q := 0) dX1_sortForReading_29 rfl rfl ?_
        refine z_getR (pc := 30) dX1_sortForReading_30 zf_X1_30 gX_13_6 ?_
        refine z_alen (pc := 33) (v := 12) dX1_sortForReading_33 aX_20 (by decide) (by decide) ?_
        refine z_icmp_ge (pc := 34) (tgt := 47) dX1_sortForReading_34 (by decide) (fun c4 => ?_) (fun c4 => ?_)
        · have h := ze_some c4 h
          obtain ⟨v5, ev5, h⟩ := zl_some h
          refine z_iinc (pc := 47) (q := 3) (v := v5) (lo' := [(3, .int v5), (0, .ref 13), (1, .int x1), (2, .int x2)]) dX1_sortForReading_47 rfl (by rw [ev5, zci_1]) (by decide) rfl ?_
          refine z_goto (pc := 50) (tgt := 12) dX1_sortForReading_50 (by decide) ?_
          exact z_sub [1, 2, 3, 0] rfl (ih x1 x2 v5 S h)
        · have h := zt_some c4 h
          refine z_aload_n (pc := 37) (q := 0) dX1_sortForReading_37 rfl rfl ?_
          refine z_getR (pc := 38) dX1_sortForReading_38 zf_X1_30 gX_13_6 ?_
          refine z_iload_n (pc := 41) (q := 1) dX1_sortForReading_41 rfl rfl ?_
          refine z_iload_n (pc := 42) (q := 3) dX1_sortForReading_42 rfl rfl ?_
          obtain ⟨c5, h⟩ := zg_some h
          obtain ⟨T6, eT6, h⟩ := zl_some h
          refine z_iast (pc := 43) dX1_sortForReading_43 aX_20 c5 eT6 ?_
          obtain ⟨v7, ev7, h⟩ := zl_some h
          refine z_iinc (pc := 44) (q := 1) (v := v7) (lo' := [(1, .int v7), (0, .ref 13), (2, .int x2), (3, .int x3)]) dX1_sortForReading_44 rfl (by rw [ev7, zci_1]) (by decide) rfl ?_
          obtain ⟨v8, ev8, h⟩ := zl_some h
          refine z_iinc (pc := 47) (q := 3) (v := v8) (lo' := [(3, .int v8), (1, .int v7), (0, .ref 13), (2, .int x2)]) dX1_sortForReading_47 rfl (by rw [ev8, zci_1]) (by decide) rfl ?_
          refine z_goto (pc := 50) (tgt := 12) dX1_sortForReading_50 (by decide) ?_
          exact z_sub [2, 1, 3, 0] rfl (ih v7 x2 v8 T6 h)
set_option maxRecDepth 100000 in
theorem w_X1_sortForReading_13_L4 (l : Launch) {S1 : zS} : ∀ (n : Nat) (x1 : Int32) (x2 : Int32) (S : zS), f_X1_sortForReading_13_L4 n x1 x2 S = some S1 → WA zLX l RX1 cX1_sortForReading 4 none 1 none S1 4 [(0, .ref 13), (1, .int x1), (2, .int x2)] [] S := by
  intro n
  induction n with
  | zero =>
    intro x1 x2 S h
    exact nomatch h
  | succ n ih =>
    intro x1 x2 S h
    rw [f_X1_sortForReading_13_L4] at h
    refine z_iload_n (pc := 4) (q := 2) dX1_sortForReading_4 rfl rfl ?_
    refine z_bipush (pc := 5) (v := 12) dX1_sortForReading_5 zcb_12 ?_
    refine z_icmp_ge (pc := 7) (tgt := 59) dX1_sortForReading_7 (by decide) (fun c1 => ?_) (fun c1 => ?_)
    · have h := ze_some c1 h
      cases h
      exact z_vret dX1_sortForReading_59
    · have h := zt_some c1 h
      refine z_iconst (pc := 10) (v := 0) dX1_sortForReading_10 zci_0 ?_
      refine z_istore_n (pc := 11) (lo' := [(3, .int 0), (0, .ref 13), (1, .int x1), (2, .int x2)]) dX1_sortForReading_11 rfl (by decide) rfl ?_
      exact z_sub [1, 2, 3, 0] rfl (w_X1_sortForReading_13_L12 l (f_X1_sortForReading_13_L4 n) ih zN x1 x2 0 S h)
set_option maxRecDepth 100000 in
theorem w_X1_sortForReading_13 (l : Launch)  {S : zS} {S1 : zS} (h : f_X1_sortForReading_13 S = some S1) : zMet zLX l yX1_sortForReading cX1_sortForReading 4 none 1 [.ref 13] S none S1 := by
  unfold f_X1_sortForReading_13 at h
  refine zMet.of (by decide +kernel) (Nat.le_of_ble_eq_true rfl) ?_
  show WA zLX l RX1 cX1_sortForReading 4 none 1 none S1 0 [(0, .ref 13)] [] S
  refine z_iconst (pc := 0) (v := 0) dX1_sortForReading_0 zci_0 ?_
  refine z_istore_n (pc := 1) (lo' := [(1, .int 0), (0, .ref 13)]) dX1_sortForReading_1 rfl (by decide) rfl ?_
  refine z_iconst (pc := 2) (v := 0) dX1_sortForReading_2 zci_0 ?_
  refine z_istore_n (pc := 3) (lo' := [(2, .int 0), (1, .int 0), (0, .ref 13)]) dX1_sortForReading_3 rfl (by decide) rfl ?_
  exact z_sub [2, 1, 0] rfl (w_X1_sortForReading_13_L4 l zN 0 0 S h)
def f_X3_addBill_37 (x1 : Int32) (S : zS) : Option zS :=
  if (S.1 37 0) < 0 then
    some S
  else
    if (S.1 37 0) < 12 then
      if zin (S.1 37 0) 12 then
      zlet (zput S 38 (S.1 37 0).toNatClampNeg x1) fun T4 =>
      if zin (T4.1 37 0) 12 then
      zlet (zput T4 39 (T4.1 37 0).toNatClampNeg 0) fun T6 =>
      zlet (zput T6 37 0 ((T6.1 37 0) + 1)) fun T7 =>
      some T7 else none else none
    else
      some S
set_option maxRecDepth 100000 in
theorem w_X3_addBill_37 (l : Launch) {x1 : Int32} {S : zS} {S1 : zS} (h : f_X3_addBill_37 x1 S = some S1) : zMet zLX l yX3_addBill cX3_addBill 2 none 1 [.ref 37, .int x1] S none S1 := by
  unfold f_X3_addBill_37 at h
  refine zMet.of (by decide +kernel) (Nat.le_of_ble_eq_true rfl) ?_
  show WA zLX l RX3 cX3_addBill 2 none 1 none S1 0 [(0, .ref 37), (1, .int x1)] [] S
  refine z_aload_n (pc := 0) (q := 0) dX3_addBill_0 rfl rfl ?_
  refine z_getI (pc := 1) dX3_addBill_1 zf_X3_24 gX_37_0 ?_
  refine z_if_lt (pc := 4) (tgt := 46) dX3_addBill_4 (by decide) (fun c1 => ?_) (fun c1 => ?_)
  · have h := zt_some c1 h
    cases h
    exact z_vret dX3_addBill_46
  · have h := ze_some c1 h
    refine z_aload_n (pc := 7) (q := 0) dX3_addBill_7 rfl rfl ?_
    refine z_getI (pc := 8) dX3_addBill_8 zf_X3_24 gX_37_0 ?_
    refine z_bipush (pc := 11) (v := 12) dX3_addBill_11 zcb_12 ?_
    refine z_icmp_ge (pc := 13) (tgt := 46) dX3_addBill_13 (by decide) (fun c2 => ?_) (fun c2 => ?_)
    · have h := ze_some c2 h
      cases h
      exact z_vret dX3_addBill_46
    · have h := zt_some c2 h
      refine z_aload_n (pc := 16) (q := 0) dX3_addBill_16 rfl rfl ?_
      refine z_getR (pc := 17) dX3_addBill_17 zf_X3_9 gX_37_3 ?_
      refine z_aload_n (pc := 20) (q := 0) dX3_addBill_20 rfl rfl ?_
      refine z_getI (pc := 21) dX3_addBill_21 zf_X3_24 gX_37_0 ?_
      refine z_iload_n (pc := 24) (q := 1) dX3_addBill_24 rfl rfl ?_
      obtain ⟨c3, h⟩ := zg_some h
      obtain ⟨T4, eT4, h⟩ := zl_some h
      refine z_iast (pc := 25) dX3_addBill_25 aX_38 c3 eT4 ?_
      refine z_aload_n (pc := 26) (q := 0) dX3_addBill_26 rfl rfl ?_
      refine z_getR (pc := 27) dX3_addBill_27 zf_X3_15 gX_37_4 ?_
      refine z_aload_n (pc := 30) (q := 0) dX3_addBill_30 rfl rfl ?_
      refine z_getI (pc := 31) dX3_addBill_31 zf_X3_24 gX_37_0 ?_
      refine z_iconst (pc := 34) (v := 0) dX3_addBill_34 zci_0 ?_
      obtain ⟨c5, h⟩ := zg_some h
      obtain ⟨T6, eT6, h⟩ := zl_some h
      refine z_iast (pc := 35) dX3_addBill_35 aX_39 c5 eT6 ?_
      refine z_aload_n (pc := 36) (q := 0) dX3_addBill_36 rfl rfl ?_
      refine z_dup (pc := 37) dX3_addBill_37 rfl ?_
      refine z_getI (pc := 38) dX3_addBill_38 zf_X3_24 gX_37_0 ?_
      refine z_iconst (pc := 41) (v := 1) dX3_addBill_41 zci_1 ?_
      refine z_iadd (pc := 42) dX3_addBill_42 ?_
      obtain ⟨T7, eT7, h⟩ := zl_some h
      refine z_putI (pc := 43) dX3_addBill_43 zp_X3_24 gX_37_0 rfl rfl eT7 ?_
      cases h
      exact z_vret dX3_addBill_46
def f_X0_keep_43_37_B40  (S : zS) : Option zS :=
  zb (f_X0_presentRow_43 S) fun r3 T2 =>
  zu (f_X3_store_37_44 r3 T2) fun T5 =>
  some T5
def f_X0_keep_43_37  (S : zS) : Option zS :=
  zlet (zput S 43 1 0) fun T1 =>
  if (T1.1 43 0) < 40 then
    zlet (zput T1 43 0 ((T1.1 43 0) + 1)) fun T3 =>
    f_X0_keep_43_37_B40 T3
  else
    zlet (zput T1 43 2 (zrem ((T1.1 43 2) + 1) 41)) fun T3 =>
    f_X0_keep_43_37_B40 T3
set_option maxRecDepth 100000 in
theorem w_X0_keep_43_37_B40 (l : Launch) {S1 : zS}  (S : zS) (h : f_X0_keep_43_37_B40 S = some S1) : WA zLX l RX0 cX0_keep 2 none 2 none S1 40 [(0, .ref 43), (1, .ref 37)] [] S := by
  unfold f_X0_keep_43_37_B40 at h
  refine z_aload_n (pc := 40) (q := 1) dX0_keep_40 rfl rfl ?_
  refine z_aload_n (pc := 41) (q := 0) dX0_keep_41 rfl rfl ?_
  refine z_getR (pc := 42) dX0_keep_42 zf_X0_13 gX_43_3 ?_
  refine z_aload_n (pc := 45) (q := 0) dX0_keep_45 rfl rfl ?_
  obtain ⟨r3, T2, q1, h⟩ := zb_some h
  refine z_callVi (pc := 46) (st := [.ref 44, .ref 37]) [] dX0_keep_46 zm_X0_27 zM_X0_presentRow (by decide) oX_43 rfl (w_X0_presentRow_43 l q1) rfl rfl (Nat.le_of_ble_eq_true rfl) ?_
  obtain ⟨T5, q4, h⟩ := zu_some h
  refine z_callVv (pc := 49) (st := []) [.ref 44, .int r3] dX0_keep_49 zm_X0_31 zM_X3_store (by decide) oX_37 rfl (w_X3_store_37_44 l q4) rfl rfl (Nat.le_of_ble_eq_true rfl) ?_
  cases h
  exact z_vret dX0_keep_52
set_option maxRecDepth 100000 in
theorem w_X0_keep_43_37 (l : Launch)  {S : zS} {S1 : zS} (h : f_X0_keep_43_37 S = some S1) : zMet zLX l yX0_keep cX0_keep 2 none 2 [.ref 43, .ref 37] S none S1 := by
  unfold f_X0_keep_43_37 at h
  refine zMet.of (by decide +kernel) (Nat.le_of_ble_eq_true rfl) ?_
  show WA zLX l RX0 cX0_keep 2 none 2 none S1 0 [(0, .ref 43), (1, .ref 37)] [] S
  refine z_aload_n (pc := 0) (q := 0) dX0_keep_0 rfl rfl ?_
  refine z_iconst (pc := 1) (v := 0) dX0_keep_1 zci_0 ?_
  obtain ⟨T1, eT1, h⟩ := zl_some h
  refine z_putI (pc := 2) dX0_keep_2 zp_X0_24 gX_43_1 rfl rfl eT1 ?_
  refine z_aload_n (pc := 5) (q := 0) dX0_keep_5 rfl rfl ?_
  refine z_getI (pc := 6) dX0_keep_6 zf_X0_21 gX_43_0 ?_
  refine z_bipush (pc := 9) (v := 40) dX0_keep_9 zcb_40 ?_
  refine z_icmp_ge (pc := 11) (tgt := 27) dX0_keep_11 (by decide) (fun c2 => ?_) (fun c2 => ?_)
  · have h := ze_some c2 h
    refine z_aload_n (pc := 27) (q := 0) dX0_keep_27 rfl rfl ?_
    refine z_aload_n (pc := 28) (q := 0) dX0_keep_28 rfl rfl ?_
    refine z_getI (pc := 29) dX0_keep_29 zf_X0_17 gX_43_2 ?_
    refine z_iconst (pc := 32) (v := 1) dX0_keep_32 zci_1 ?_
    refine z_iadd (pc := 33) dX0_keep_33 ?_
    refine z_bipush (pc := 34) (v := 41) dX0_keep_34 zcb_41 ?_
    refine z_irem (pc := 36) dX0_keep_36 (by decide) ?_
    refine zrem_fold ?_
    obtain ⟨T3, eT3, h⟩ := zl_some h
    refine z_putI (pc := 37) dX0_keep_37 zp_X0_17 gX_43_2 rfl rfl eT3 ?_
    exact w_X0_keep_43_37_B40 l T3 h
  · have h := zt_some c2 h
    refine z_aload_n (pc := 14) (q := 0) dX0_keep_14 rfl rfl ?_
    refine z_dup (pc := 15) dX0_keep_15 rfl ?_
    refine z_getI (pc := 16) dX0_keep_16 zf_X0_21 gX_43_0 ?_
    refine z_iconst (pc := 19) (v := 1) dX0_keep_19 zci_1 ?_
    refine z_iadd (pc := 20) dX0_keep_20 ?_
    obtain ⟨T3, eT3, h⟩ := zl_some h
    refine z_putI (pc := 21) dX0_keep_21 zp_X0_21 gX_43_0 rfl rfl eT3 ?_
    refine z_goto (pc := 24) (tgt := 40) dX0_keep_24 (by decide) ?_
    exact w_X0_keep_43_37_B40 l T3 h
def f_X11_layBill (x1 : Int32) (x2 : Int32) (x3 : Int32) (x4 : Int32) (x5 : Int32) (x6 : Int32) (S : zS) : Option (Int32 × zS) :=
  zlet (S.1 37 0) fun v1 =>
  if v1 < 12 then
    zb (f_X11_isStake x1 S) fun r5 T4 =>
    if r5 = 0 then
      some ((-1), T4)
    else
      zb (f_X11_isPlant x2 T4) fun r9 T8 =>
      if r9 = 0 then
        some ((-1), T8)
      else
        zu (f_X1_put_13 v1 x1 x2 x3 x4 x5 x6 T8) fun T12 =>
        zu (f_X1_sortForReading_13 T12) fun T14 =>
        if zin x2 4 then
        zu (f_X3_addBill_37 (T14.1 6 x2.toNatClampNeg) T14) fun T17 =>
        zu (f_X0_keep_43_37 T17) fun T19 =>
        some (v1, T19) else none
  else
    some ((-1), S)
set_option maxRecDepth 100000 in
theorem w_X11_layBill (l : Launch) {x1 : Int32} {x2 : Int32} {x3 : Int32} {x4 : Int32} {x5 : Int32} {x6 : Int32} {S : zS} {r : Int32} {S1 : zS} (h : f_X11_layBill x1 x2 x3 x4 x5 x6 S = some (r, S1)) : zMet zLX l yX11_layBill cX11_layBill 8 (some .int) 3 [.ref 0, .int x1, .int x2, .int x3, .int x4, .int x5, .int x6] S (some (.int r)) S1 := by
  unfold f_X11_layBill at h
  refine zMet.of (by decide +kernel) (Nat.le_of_ble_eq_true rfl) ?_
  show WA zLX l RX11 cX11_layBill 8 (some .int) 3 (some (.int r)) S1 0 [(0, .ref 0), (1, .int x1), (2, .int x2), (3, .int x3), (4, .int x4), (5, .int x5), (6, .int x6)] [] S
  refine z_aload_n (pc := 0) (q := 0) dX11_layBill_0 rfl rfl ?_
  refine z_getR (pc := 1) dX11_layBill_1 zf_X11_35 gX_0_5 ?_
  refine z_getI (pc := 4) dX11_layBill_4 zf_X11_118 gX_37_0 ?_
  obtain ⟨v1, ev1, h⟩ := zl_some h
  refine z_top ev1 ?_
  refine z_istore (pc := 7) (lo' := [(7, .int v1), (0, .ref 0), (1, .int x1), (2, .int x2), (3, .int x3), (4, .int x4), (5, .int x5), (6, .int x6)]) dX11_layBill_7 (by decide) rfl ?_
  refine z_iload (pc := 9) (q := 0) dX11_layBill_9 rfl ?_
  refine z_bipush (pc := 11) (v := 12) dX11_layBill_11 zcb_12 ?_
  refine z_icmp_ge (pc := 13) (tgt := 32) dX11_layBill_13 (by decide) (fun c2 => ?_) (fun c2 => ?_)
  · have h := ze_some c2 h
    refine z_iconst (pc := 32) (v := (-1)) dX11_layBill_32 zci_m1 ?_
    obtain ⟨rfl, rfl⟩ := zr_some h
    exact z_iret dX11_layBill_33
  · have h := zt_some c2 h
    refine z_aload_n (pc := 16) (q := 1) dX11_layBill_16 rfl rfl ?_
    refine z_iload_n (pc := 17) (q := 2) dX11_layBill_17 rfl rfl ?_
    obtain ⟨r5, T4, q3, h⟩ := zb_some h
    refine z_callVi (pc := 18) (st := []) [.int x1] dX11_layBill_18 zm_X11_172 zM_X11_isStake (by decide) oX_0 rfl (w_X11_isStake l q3) rfl rfl (Nat.le_of_ble_eq_true rfl) ?_
    refine z_if_eq (pc := 21) (tgt := 32) dX11_layBill_21 (by decide) (fun c6 => ?_) (fun c6 => ?_)
    · have h := zt_some c6 h
      refine z_iconst (pc := 32) (v := (-1)) dX11_layBill_32 zci_m1 ?_
      obtain ⟨rfl, rfl⟩ := zr_some h
      exact z_iret dX11_layBill_33
    · have h := ze_some c6 h
      refine z_aload_n (pc := 24) (q := 1) dX11_layBill_24 rfl rfl ?_
      refine z_iload_n (pc := 25) (q := 3) dX11_layBill_25 rfl rfl ?_
      obtain ⟨r9, T8, q7, h⟩ := zb_some h
      refine z_callVi (pc := 26) (st := []) [.int x2] dX11_layBill_26 zm_X11_195 zM_X11_isPlant (by decide) oX_0 rfl (w_X11_isPlant l q7) rfl rfl (Nat.le_of_ble_eq_true rfl) ?_
      refine z_if_ne (pc := 29) (tgt := 34) dX11_layBill_29 (by decide) (fun c10 => ?_) (fun c10 => ?_)
      · have h := ze_some c10 h
        refine z_aload_n (pc := 34) (q := 1) dX11_layBill_34 rfl rfl ?_
        refine z_getR (pc := 35) dX11_layBill_35 zf_X11_25 gX_0_3 ?_
        refine z_getR (pc := 38) dX11_layBill_38 zf_X11_131 gX_5_13 ?_
        refine z_iload (pc := 41) (q := 0) dX11_layBill_41 rfl ?_
        refine z_iload_n (pc := 43) (q := 2) dX11_layBill_43 rfl rfl ?_
        refine z_iload_n (pc := 44) (q := 3) dX11_layBill_44 rfl rfl ?_
        refine z_iload_n (pc := 45) (q := 4) dX11_layBill_45 rfl rfl ?_
        refine z_iload (pc := 46) (q := 5) dX11_layBill_46 rfl ?_
        refine z_iload (pc := 48) (q := 6) dX11_layBill_48 rfl ?_
        refine z_iload (pc := 50) (q := 7) dX11_layBill_50 rfl ?_
        obtain ⟨T12, q11, h⟩ := zu_some h
        refine z_callVv (pc := 52) (st := []) [.int v1, .int x1, .int x2, .int x3, .int x4, .int x5, .int x6] dX11_layBill_52 zm_X11_198 zM_X1_put (by decide) oX_13 rfl (w_X1_put_13 l q11) rfl rfl (Nat.le_of_ble_eq_true rfl) ?_
        refine z_aload_n (pc := 55) (q := 1) dX11_layBill_55 rfl rfl ?_
        refine z_getR (pc := 56) dX11_layBill_56 zf_X11_25 gX_0_3 ?_
        refine z_getR (pc := 59) dX11_layBill_59 zf_X11_131 gX_5_13 ?_
        obtain ⟨T14, q13, h⟩ := zu_some h
        refine z_callVv (pc := 62) (st := []) [] dX11_layBill_62 zm_X11_202 zM_X1_sortForReading (by decide) oX_13 rfl (w_X1_sortForReading_13 l q13) rfl rfl (Nat.le_of_ble_eq_true rfl) ?_
        refine z_aload_n (pc := 65) (q := 1) dX11_layBill_65 rfl rfl ?_
        refine z_getR (pc := 66) dX11_layBill_66 zf_X11_35 gX_0_5 ?_
        refine z_aload_n (pc := 69) (q := 1) dX11_layBill_69 rfl rfl ?_
        refine z_getR (pc := 70) dX11_layBill_70 zf_X11_25 gX_0_3 ?_
        refine z_getR (pc := 73) dX11_layBill_73 zf_X11_205 gX_5_5 ?_
        refine z_iload_n (pc := 76) (q := 3) dX11_layBill_76 rfl rfl ?_
        obtain ⟨c15, h⟩ := zg_some h
        refine z_iald (pc := 77) dX11_layBill_77 aX_6 c15 ?_
        obtain ⟨T17, q16, h⟩ := zu_some h
        refine z_callVv (pc := 78) (st := []) [.int (T14.1 6 x2.toNatClampNeg)] dX11_layBill_78 zm_X11_208 zM_X3_addBill (by decide) oX_37 rfl (w_X3_addBill_37 l q16) rfl rfl (Nat.le_of_ble_eq_true rfl) ?_
        refine z_aload_n (pc := 81) (q := 1) dX11_layBill_81 rfl rfl ?_
        refine z_getR (pc := 82) dX11_layBill_82 zf_X11_45 gX_0_7 ?_
        refine z_aload_n (pc := 85) (q := 1) dX11_layBill_85 rfl rfl ?_
        refine z_getR (pc := 86) dX11_layBill_86 zf_X11_35 gX_0_5 ?_
        obtain ⟨T19, q18, h⟩ := zu_some h
        refine z_callVv (pc := 89) (st := []) [.ref 37] dX11_layBill_89 zm_X11_211 zM_X0_keep (by decide) oX_43 rfl (w_X0_keep_43_37 l q18) rfl rfl (Nat.le_of_ble_eq_true rfl) ?_
        refine z_iload (pc := 92) (q := 0) dX11_layBill_92 rfl ?_
        obtain ⟨rfl, rfl⟩ := zr_some h
        exact z_iret dX11_layBill_94
      · have h := zt_some c10 h
        refine z_iconst (pc := 32) (v := (-1)) dX11_layBill_32 zci_m1 ?_
        obtain ⟨rfl, rfl⟩ := zr_some h
        exact z_iret dX11_layBill_33
def f_X11_lay_B33 (x1 : Int32) (x2 : Int32) (x3 : Int32) (x4 : Int32) (x5 : Int32) (S : zS) : Option (Int32 × zS) :=
  zb (f_X11_layBill x1 x2 x3 x4 x5 (-1) S) fun r3 T2 =>
  some (r3, T2)
def f_X11_lay (x1 : Int32) (x2 : Int32) (x3 : Int32) (x4 : Int32) (x5 : Int32) (S : zS) : Option (Int32 × zS) :=
  zb (f_X11_isTopic x3 S) fun r3 T2 =>
  if r3 = 0 then
    some ((-1), T2)
  else
    zb (f_X11_isSaying x4 T2) fun r7 T6 =>
    if r7 = 0 then
      some ((-1), T6)
    else
      if x5 = (-1) then
        f_X11_lay_B33 x1 x2 x3 x4 x5 T6
      else
        zb (f_X11_isBill x5 T6) fun r12 T11 =>
        if r12 = 0 then
          some ((-1), T11)
        else
          f_X11_lay_B33 x1 x2 x3 x4 x5 T11
set_option maxRecDepth 100000 in
theorem w_X11_lay_B33 (l : Launch) {r : Int32} {S1 : zS} (x1 : Int32) (x2 : Int32) (x3 : Int32) (x4 : Int32) (x5 : Int32) (S : zS) (h : f_X11_lay_B33 x1 x2 x3 x4 x5 S = some (r, S1)) : WA zLX l RX11 cX11_lay 6 (some .int) 4 (some (.int r)) S1 33 [(0, .ref 0), (1, .int x1), (2, .int x2), (3, .int x3), (4, .int x4), (5, .int x5)] [] S := by
  unfold f_X11_lay_B33 at h
  refine z_aload_n (pc := 33) (q := 0) dX11_lay_33 rfl rfl ?_
  refine z_iload_n (pc := 34) (q := 1) dX11_lay_34 rfl rfl ?_
  refine z_iload_n (pc := 35) (q := 2) dX11_lay_35 rfl rfl ?_
  refine z_iload_n (pc := 36) (q := 3) dX11_lay_36 rfl rfl ?_
  refine z_iload (pc := 37) (q := 4) dX11_lay_37 rfl ?_
  refine z_iload (pc := 39) (q := 5) dX11_lay_39 rfl ?_
  refine z_iconst (pc := 41) (v := (-1)) dX11_lay_41 zci_m1 ?_
  obtain ⟨r3, T2, q1, h⟩ := zb_some h
  refine z_callVi (pc := 42) (st := []) [.int x1, .int x2, .int x3, .int x4, .int x5, .int (-1)] dX11_lay_42 zm_X11_191 zM_X11_layBill (by decide) oX_0 rfl (w_X11_layBill l q1) rfl rfl (Nat.le_of_ble_eq_true rfl) ?_
  obtain ⟨rfl, rfl⟩ := zr_some h
  exact z_iret dX11_lay_45
set_option maxRecDepth 100000 in
theorem w_X11_lay (l : Launch) {x1 : Int32} {x2 : Int32} {x3 : Int32} {x4 : Int32} {x5 : Int32} {S : zS} {r : Int32} {S1 : zS} (h : f_X11_lay x1 x2 x3 x4 x5 S = some (r, S1)) : zMet zLX l yX11_lay cX11_lay 6 (some .int) 4 [.ref 0, .int x1, .int x2, .int x3, .int x4, .int x5] S (some (.int r)) S1 := by
  unfold f_X11_lay at h
  refine zMet.of (by decide +kernel) (Nat.le_of_ble_eq_true rfl) ?_
  show WA zLX l RX11 cX11_lay 6 (some .int) 4 (some (.int r)) S1 0 [(0, .ref 0), (1, .int x1), (2, .int x2), (3, .int x3), (4, .int x4), (5, .int x5)] [] S
  refine z_aload_n (pc := 0) (q := 0) dX11_lay_0 rfl rfl ?_
  refine z_iload_n (pc := 1) (q := 3) dX11_lay_1 rfl rfl ?_
  obtain ⟨r3, T2, q1, h⟩ := zb_some h
  refine z_callVi (pc := 2) (st := []) [.int x3] dX11_lay_2 zm_X11_179 zM_X11_isTopic (by decide) oX_0 rfl (w_X11_isTopic l q1) rfl rfl (Nat.le_of_ble_eq_true rfl) ?_
  refine z_if_eq (pc := 5) (tgt := 31) dX11_lay_5 (by decide) (fun c4 => ?_) (fun c4 => ?_)
  · have h := zt_some c4 h
    refine z_iconst (pc := 31) (v := (-1)) dX11_lay_31 zci_m1 ?_
    obtain ⟨rfl, rfl⟩ := zr_some h
    exact z_iret dX11_lay_32
  · have h := ze_some c4 h
    refine z_iload (pc := 8) (q := 4) dX11_lay_8 rfl ?_
    obtain ⟨r7, T6, q5, h⟩ := zb_some h
    refine z_callSi (pc := 10) (st := []) [.int x4] dX11_lay_10 zm_X11_188 zM_X11_isSaying (by decide) (w_X11_isSaying l q5) rfl rfl (Nat.le_of_ble_eq_true rfl) ?_
    refine z_if_eq (pc := 13) (tgt := 31) dX11_lay_13 (by decide) (fun c8 => ?_) (fun c8 => ?_)
    · have h := zt_some c8 h
      refine z_iconst (pc := 31) (v := (-1)) dX11_lay_31 zci_m1 ?_
      obtain ⟨rfl, rfl⟩ := zr_some h
      exact z_iret dX11_lay_32
    · have h := ze_some c8 h
      refine z_iload (pc := 16) (q := 5) dX11_lay_16 rfl ?_
      refine z_iconst (pc := 18) (v := (-1)) dX11_lay_18 zci_m1 ?_
      refine z_icmp_eq (pc := 19) (tgt := 33) dX11_lay_19 (by decide) (fun c9 => ?_) (fun c9 => ?_)
      · have h := zt_some c9 h
        exact w_X11_lay_B33 l x1 x2 x3 x4 x5 T6 h
      · have h := ze_some c9 h
        refine z_aload_n (pc := 22) (q := 0) dX11_lay_22 rfl rfl ?_
        refine z_iload (pc := 23) (q := 5) dX11_lay_23 rfl ?_
        obtain ⟨r12, T11, q10, h⟩ := zb_some h
        refine z_callVi (pc := 25) (st := []) [.int x5] dX11_lay_25 zm_X11_127 zM_X11_isBill (by decide) oX_0 rfl (w_X11_isBill l q10) rfl rfl (Nat.le_of_ble_eq_true rfl) ?_
        refine z_if_ne (pc := 28) (tgt := 33) dX11_lay_28 (by decide) (fun c13 => ?_) (fun c13 => ?_)
        · have h := ze_some c13 h
          exact w_X11_lay_B33 l x1 x2 x3 x4 x5 T11 h
        · have h := zt_some c13 h
          refine z_iconst (pc := 31) (v := (-1)) dX11_lay_31 zci_m1 ?_
          obtain ⟨rfl, rfl⟩ := zr_some h
          exact z_iret dX11_lay_32
def f_X11_repeal (x1 : Int32) (x2 : Int32) (x3 : Int32) (S : zS) : Option (Int32 × zS) :=
  zb (f_X11_isBill x3 S) fun r3 T2 =>
  if r3 = 0 then
    some ((-1), T2)
  else
    zb (f_X11_layBill x1 x2 (-1) 0 (-1) x3 T2) fun r7 T6 =>
    some (r7, T6)
set_option maxRecDepth 100000 in
theorem w_X11_repeal (l : Launch) {x1 : Int32} {x2 : Int32} {x3 : Int32} {S : zS} {r : Int32} {S1 : zS} (h : f_X11_repeal x1 x2 x3 S = some (r, S1)) : zMet zLX l yX11_repeal cX11_repeal 4 (some .int) 4 [.ref 0, .int x1, .int x2, .int x3] S (some (.int r)) S1 := by
  unfold f_X11_repeal at h
  refine zMet.of (by decide +kernel) (Nat.le_of_ble_eq_true rfl) ?_
  show WA zLX l RX11 cX11_repeal 4 (some .int) 4 (some (.int r)) S1 0 [(0, .ref 0), (1, .int x1), (2, .int x2), (3, .int x3)] [] S
  refine z_aload_n (pc := 0) (q := 0) dX11_repeal_0 rfl rfl ?_
  refine z_iload_n (pc := 1) (q := 3) dX11_repeal_1 rfl rfl ?_
  obtain ⟨r3, T2, q1, h⟩ := zb_some h
  refine z_callVi (pc := 2) (st := []) [.int x3] dX11_repeal_2 zm_X11_127 zM_X11_isBill (by decide) oX_0 rfl (w_X11_isBill l q1) rfl rfl (Nat.le_of_ble_eq_true rfl) ?_
  refine z_if_eq (pc := 5) (tgt := 21) dX11_repeal_5 (by decide) (fun c4 => ?_) (fun c4 => ?_)
  · have h := zt_some c4 h
    refine z_iconst (pc := 21) (v := (-1)) dX11_repeal_21 zci_m1 ?_
    obtain ⟨rfl, rfl⟩ := zr_some h
    exact z_iret dX11_repeal_22
  · have h := ze_some c4 h
    refine z_aload_n (pc := 8) (q := 0) dX11_repeal_8 rfl rfl ?_
    refine z_iload_n (pc := 9) (q := 1) dX11_repeal_9 rfl rfl ?_
    refine z_iload_n (pc := 10) (q := 2) dX11_repeal_10 rfl rfl ?_
    refine z_iconst (pc := 11) (v := (-1)) dX11_repeal_11 zci_m1 ?_
    refine z_iconst (pc := 12) (v := 0) dX11_repeal_12 zci_0 ?_
    refine z_iconst (pc := 13) (v := (-1)) dX11_repeal_13 zci_m1 ?_
    refine z_iload_n (pc := 14) (q := 3) dX11_repeal_14 rfl rfl ?_
    obtain ⟨r7, T6, q5, h⟩ := zb_some h
    refine z_callVi (pc := 15) (st := []) [.int x1, .int x2, .int (-1), .int 0, .int (-1), .int x3] dX11_repeal_15 zm_X11_191 zM_X11_layBill (by decide) oX_0 rfl (w_X11_layBill l q5) rfl rfl (Nat.le_of_ble_eq_true rfl) ?_
    refine z_goto (pc := 18) (tgt := 22) dX11_repeal_18 (by decide) ?_
    obtain ⟨rfl, rfl⟩ := zr_some h
    exact z_iret dX11_repeal_22
def f_X11_pull (x1 : Int32) (S : zS) : Option (Int32 × zS) :=
  zb (f_X11_isBill x1 S) fun r3 T2 =>
  if r3 = 0 then
    some ((-1), T2)
  else
    if zin x1 12 then
    if (0 : Int32) < (T2.1 38 x1.toNatClampNeg) then
      if zin x1 12 then
      zlet (T2.1 38 x1.toNatClampNeg) fun v8 =>
      if zin x1 12 then
      zlet (zput T2 38 x1.toNatClampNeg 0) fun T10 =>
      zu (f_X0_keep_43_37 T10) fun T12 =>
      some (v8, T12) else none else none
    else
      some ((-1), T2) else none
set_option maxRecDepth 100000 in
theorem w_X11_pull (l : Launch) {x1 : Int32} {S : zS} {r : Int32} {S1 : zS} (h : f_X11_pull x1 S = some (r, S1)) : zMet zLX l yX11_pull cX11_pull 3 (some .int) 3 [.ref 0, .int x1] S (some (.int r)) S1 := by
  unfold f_X11_pull at h
  refine zMet.of (by decide +kernel) (Nat.le_of_ble_eq_true rfl) ?_
  show WA zLX l RX11 cX11_pull 3 (some .int) 3 (some (.int r)) S1 0 [(0, .ref 0), (1, .int x1)] [] S
  refine z_aload_n (pc := 0) (q := 0) dX11_pull_0 rfl rfl ?_
  refine z_iload_n (pc := 1) (q := 1) dX11_pull_1 rfl rfl ?_
  obtain ⟨r3, T2, q1, h⟩ := zb_some h
  refine z_callVi (pc := 2) (st := []) [.int x1] dX11_pull_2 zm_X11_127 zM_X11_isBill (by decide) oX_0 rfl (w_X11_isBill l q1) rfl rfl (Nat.le_of_ble_eq_true rfl) ?_
  refine z_if_eq (pc := 5) (tgt := 20) dX11_pull_5 (by decide) (fun c4 => ?_) (fun c4 => ?_)
  · have h := zt_some c4 h
    refine z_iconst (pc := 20) (v := (-1)) dX11_pull_20 zci_m1 ?_
    obtain ⟨rfl, rfl⟩ := zr_some h
    exact z_iret dX11_pull_21
  · have h := ze_some c4 h
    refine z_aload_n (pc := 8) (q := 0) dX11_pull_8 rfl rfl ?_
    refine z_getR (pc := 9) dX11_pull_9 zf_X11_35 gX_0_5 ?_
    refine z_getR (pc := 12) dX11_pull_12 zf_X11_135 gX_37_3 ?_
    refine z_iload_n (pc := 15) (q := 1) dX11_pull_15 rfl rfl ?_
    obtain ⟨c5, h⟩ := zg_some h
    refine z_iald (pc := 16) dX11_pull_16 aX_38 c5 ?_
    refine z_if_gt (pc := 17) (tgt := 22) dX11_pull_17 (by decide) (fun c6 => ?_) (fun c6 => ?_)
    · have h := zt_some c6 h
      refine z_aload_n (pc := 22) (q := 0) dX11_pull_22 rfl rfl ?_
      refine z_getR (pc := 23) dX11_pull_23 zf_X11_35 gX_0_5 ?_
      refine z_getR (pc := 26) dX11_pull_26 zf_X11_135 gX_37_3 ?_
      refine z_iload_n (pc := 29) (q := 1) dX11_pull_29 rfl rfl ?_
      obtain ⟨c7, h⟩ := zg_some h
      refine z_iald (pc := 30) dX11_pull_30 aX_38 c7 ?_
      obtain ⟨v8, ev8, h⟩ := zl_some h
      refine z_top ev8 ?_
      refine z_istore_n (pc := 31) (lo' := [(2, .int v8), (0, .ref 0), (1, .int x1)]) dX11_pull_31 rfl (by decide) rfl ?_
      refine z_aload_n (pc := 32) (q := 1) dX11_pull_32 rfl rfl ?_
      refine z_getR (pc := 33) dX11_pull_33 zf_X11_35 gX_0_5 ?_
      refine z_getR (pc := 36) dX11_pull_36 zf_X11_135 gX_37_3 ?_
      refine z_iload_n (pc := 39) (q := 2) dX11_pull_39 rfl rfl ?_
      refine z_iconst (pc := 40) (v := 0) dX11_pull_40 zci_0 ?_
      obtain ⟨c9, h⟩ := zg_some h
      obtain ⟨T10, eT10, h⟩ := zl_some h
      refine z_iast (pc := 41) dX11_pull_41 aX_38 c9 eT10 ?_
      refine z_aload_n (pc := 42) (q := 1) dX11_pull_42 rfl rfl ?_
      refine z_getR (pc := 43) dX11_pull_43 zf_X11_45 gX_0_7 ?_
      refine z_aload_n (pc := 46) (q := 1) dX11_pull_46 rfl rfl ?_
      refine z_getR (pc := 47) dX11_pull_47 zf_X11_35 gX_0_5 ?_
      obtain ⟨T12, q11, h⟩ := zu_some h
      refine z_callVv (pc := 50) (st := []) [.ref 37] dX11_pull_50 zm_X11_211 zM_X0_keep (by decide) oX_43 rfl (w_X0_keep_43_37 l q11) rfl rfl (Nat.le_of_ble_eq_true rfl) ?_
      refine z_iload_n (pc := 53) (q := 0) dX11_pull_53 rfl rfl ?_
      obtain ⟨rfl, rfl⟩ := zr_some h
      exact z_iret dX11_pull_54
    · have h := ze_some c6 h
      refine z_iconst (pc := 20) (v := (-1)) dX11_pull_20 zci_m1 ?_
      obtain ⟨rfl, rfl⟩ := zr_some h
      exact z_iret dX11_pull_21
def f_X3_cut_37_13_L3 : Nat → Int32 → Int32 → Int32 → zS → Option zS
  | 0, _, _, _, _ => none
  | n + 1, x2, x3, x4, S =>
    if x4 < (S.1 37 0) then
      if x4 < 12 then
        if zin x4 12 then
        if (S.1 14 x4.toNatClampNeg) = x2 then
          if zin x4 12 then
          if zin x4 12 then
          zlet (zput S 38 x4.toNatClampNeg (zmax 0 ((S.1 38 x4.toNatClampNeg) - x3))) fun T7 =>
          zlet (x4 + 1) fun v8 =>
          (f_X3_cut_37_13_L3 n) x2 x3 v8 T7 else none else none
        else
          zlet (x4 + 1) fun v5 =>
          (f_X3_cut_37_13_L3 n) x2 x3 v5 S else none
      else
        some S
    else
      some S
def f_X3_cut_37_13 (x2 : Int32) (x3 : Int32) (S : zS) : Option zS :=
  f_X3_cut_37_13_L3 zN x2 x3 0 S
set_option maxRecDepth 100000 in
theorem w_X3_cut_37_13_L3 (l : Launch) {S1 : zS} : ∀ (n : Nat) (x2 : Int32) (x3 : Int32) (x4 : Int32) (S : zS), f_X3_cut_37_13_L3 n x2 x3 x4 S = some S1 → WA zLX l RX3 cX3_cut 5 none 1 none S1 3 [(0, .ref 37), (1, .ref 13), (2, .int x2), (3, .int x3), (4, .int x4)] [] S := by
  intro n
  induction n with
  | zero =>
    intro x2 x3 x4 S h
    exact nomatch h
  | succ n ih =>
    intro x2 x3 x4 S h
    rw [f_X3_cut_37_13_L3] at h
    refine z_iload (pc := 3) (q := 4) dX3_cut_3 rfl ?_
    refine z_aload_n (pc := 5) (q := 0) dX3_cut_5 rfl rfl ?_
    refine z_getI (pc := 6) dX3_cut_6 zf_X3_24 gX_37_0 ?_
    refine z_icmp_ge (pc := 9) (tgt := 56) dX3_cut_9 (by decide) (fun c1 => ?_) (fun c1 => ?_)
    · have h := ze_some c1 h
      cases h
      exact z_vret dX3_cut_56
    · have h := zt_some c1 h
      refine z_iload (pc := 12) (q := 4) dX3_cut_12 rfl ?_
      refine z_bipush (pc := 14) (v := 12) dX3_cut_14 zcb_12 ?_
      refine z_icmp_ge (pc := 16) (tgt := 56) dX3_cut_16 (by decide) (fun c2 => ?_) (fun c2 => ?_)
      · have h := ze_some c2 h
        cases h
        exact z_vret dX3_cut_56
      · have h := zt_some c2 h
        refine z_aload_n (pc := 19) (q := 1) dX3_cut_19 rfl rfl ?_
        refine z_getR (pc := 20) dX3_cut_20 zf_X3_46 gX_13_0 ?_
        refine z_iload (pc := 23) (q := 4) dX3_cut_23 rfl ?_
        obtain ⟨c3, h⟩ := zg_some h
        refine z_iald (pc := 25) dX3_cut_25 aX_14 c3 ?_
        refine z_iload_n (pc := 26) (q := 2) dX3_cut_26 rfl rfl ?_
        refine z_icmp_ne (pc := 27) (tgt := 50) dX3_cut_27 (by decide) (fun c4 => ?_) (fun c4 => ?_)
        · have h := ze_some c4 h
          obtain ⟨v5, ev5, h⟩ := zl_some h
          refine z_iinc (pc := 50) (q := 4) (v := v5) (lo' := [(4, .int v5), (0, .ref 37), (1, .ref 13), (2, .int x2), (3, .int x3)]) dX3_cut_50 rfl (by rw [ev5, zci_1]) (by decide) rfl ?_
          refine z_goto (pc := 53) (tgt := 3) dX3_cut_53 (by decide) ?_
          exact z_sub [1, 2, 3, 4, 0] rfl (ih x2 x3 v5 S h)
        · have h := zt_some c4 h
          refine z_aload_n (pc := 30) (q := 0) dX3_cut_30 rfl rfl ?_
          refine z_getR (pc := 31) dX3_cut_31 zf_X3_9 gX_37_3 ?_
          refine z_iload (pc := 34) (q := 4) dX3_cut_34 rfl ?_
          refine z_iconst (pc := 36) (v := 0) dX3_cut_36 zci_0 ?_
          refine z_aload_n (pc := 37) (q := 0) dX3_cut_37 rfl rfl ?_
          refine z_getR (pc := 38) dX3_cut_38 zf_X3_9 gX_37_3 ?_
          refine z_iload (pc := 41) (q := 4) dX3_cut_41 rfl ?_
          obtain ⟨c5, h⟩ := zg_some h
          refine z_iald (pc := 43) dX3_cut_43 aX_38 c5 ?_
          refine z_iload_n (pc := 44) (q := 3) dX3_cut_44 rfl rfl ?_
          refine z_isub (pc := 45) dX3_cut_45 ?_
          refine z_max (pc := 46) dX3_cut_46 zm_X3_51 zM_max.1 zM_max.2.1 zM_max.2.2 (by decide) (Nat.le_of_ble_eq_true rfl) ?_
          obtain ⟨c6, h⟩ := zg_some h
          obtain ⟨T7, eT7, h⟩ := zl_some h
          refine z_iast (pc := 49) dX3_cut_49 aX_38 c6 eT7 ?_
          obtain ⟨v8, ev8, h⟩ := zl_some h
          refine z_iinc (pc := 50) (q := 4) (v := v8) (lo' := [(4, .int v8), (0, .ref 37), (1, .ref 13), (2, .int x2), (3, .int x3)]) dX3_cut_50 rfl (by rw [ev8, zci_1]) (by decide) rfl ?_
          refine z_goto (pc := 53) (tgt := 3) dX3_cut_53 (by decide) ?_
          exact z_sub [1, 2, 3, 4, 0] rfl (ih x2 x3 v8 T7 h)
set_option maxRecDepth 100000 in
theorem w_X3_cut_37_13 (l : Launch) {x2 : Int32} {x3 : Int32} {S : zS} {S1 : zS} (h : f_X3_cut_37_13 x2 x3 S = some S1) : zMet zLX l yX3_cut cX3_cut 5 none 1 [.ref 37, .ref 13, .int x2, .int x3] S none S1 := by
  unfold f_X3_cut_37_13 at h
  refine zMet.of (by decide +kernel) (Nat.le_of_ble_eq_true rfl) ?_
  show WA zLX l RX3 cX3_cut 5 none 1 none S1 0 [(0, .ref 37), (1, .ref 13), (2, .int x2), (3, .int x3)] [] S
  refine z_iconst (pc := 0) (v := 0) dX3_cut_0 zci_0 ?_
  refine z_istore (pc := 1) (lo' := [(4, .int 0), (0, .ref 37), (1, .ref 13), (2, .int x2), (3, .int x3)]) dX3_cut_1 (by decide) rfl ?_
  exact z_sub [1, 2, 3, 4, 0] rfl (w_X3_cut_37_13_L3 l zN x2 x3 0 S h)
def f_J6_bitCount_0f7a4 (x0 : Int32) (S : zS) : Option (Int32 × zS) :=
  zlet (x0 - ((zushr x0 1) &&& 1431655765)) fun v1 =>
  zlet ((v1 &&& 858993459) + ((zushr v1 2) &&& 858993459)) fun v2 =>
  zlet ((v2 + (zushr v2 4)) &&& 252645135) fun v3 =>
  zlet (v3 + (zushr v3 8)) fun v4 =>
  zlet (v4 + (zushr v4 16)) fun v5 =>
  some (v5 &&& 63, S)
set_option maxRecDepth 100000 in
theorem w_J6_bitCount_0f7a4 (l : Launch) {x0 : Int32} {S : zS} {r : Int32} {S1 : zS} (h : f_J6_bitCount_0f7a4 x0 S = some (r, S1)) : zMet zLX l yJ6_bitCount_0f7a4 cJ6_bitCount_0f7a4 1 (some .int) 1 [.int x0] S (some (.int r)) S1 := by
  unfold f_J6_bitCount_0f7a4 at h
  refine zMet.of (by decide +kernel) (Nat.le_of_ble_eq_true rfl) ?_
  show WA zLX l RJ6 cJ6_bitCount_0f7a4 1 (some .int) 1 (some (.int r)) S1 0 [(0, .int x0)] [] S
  refine z_iload_n (pc := 0) (q := 0) dJ6_bitCount_0f7a4_0 rfl rfl ?_
  refine z_iload_n (pc := 1) (q := 0) dJ6_bitCount_0f7a4_1 rfl rfl ?_
  refine z_iconst (pc := 2) (v := 1) dJ6_bitCount_0f7a4_2 zci_1 ?_
  refine z_iushr (pc := 3) (v := zushr x0 1) dJ6_bitCount_0f7a4_3 rfl ?_
  refine z_ldcw (pc := 4) dJ6_bitCount_0f7a4_4 zk_J6_265 ?_
  refine z_iand (pc := 7) dJ6_bitCount_0f7a4_7 ?_
  refine z_isub (pc := 8) dJ6_bitCount_0f7a4_8 ?_
  obtain ⟨v1, ev1, h⟩ := zl_some h
  refine z_top ev1 ?_
  refine z_istore_n (pc := 9) (lo' := [(0, .int v1)]) dJ6_bitCount_0f7a4_9 rfl (by decide) rfl ?_
  refine z_iload_n (pc := 10) (q := 0) dJ6_bitCount_0f7a4_10 rfl rfl ?_
  refine z_ldcw (pc := 11) dJ6_bitCount_0f7a4_11 zk_J6_266 ?_
  refine z_iand (pc := 14) dJ6_bitCount_0f7a4_14 ?_
  refine z_iload_n (pc := 15) (q := 0) dJ6_bitCount_0f7a4_15 rfl rfl ?_
  refine z_iconst (pc := 16) (v := 2) dJ6_bitCount_0f7a4_16 zci_2 ?_
  refine z_iushr (pc := 17) (v := zushr v1 2) dJ6_bitCount_0f7a4_17 rfl ?_
  refine z_ldcw (pc := 18) dJ6_bitCount_0f7a4_18 zk_J6_266 ?_
  refine z_iand (pc := 21) dJ6_bitCount_0f7a4_21 ?_
  refine z_iadd (pc := 22) dJ6_bitCount_0f7a4_22 ?_
  obtain ⟨v2, ev2, h⟩ := zl_some h
  refine z_top ev2 ?_
  refine z_istore_n (pc := 23) (lo' := [(0, .int v2)]) dJ6_bitCount_0f7a4_23 rfl (by decide) rfl ?_
  refine z_iload_n (pc := 24) (q := 0) dJ6_bitCount_0f7a4_24 rfl rfl ?_
  refine z_iload_n (pc := 25) (q := 0) dJ6_bitCount_0f7a4_25 rfl rfl ?_
  refine z_iconst (pc := 26) (v := 4) dJ6_bitCount_0f7a4_26 zci_4 ?_
  refine z_iushr (pc := 27) (v := zushr v2 4) dJ6_bitCount_0f7a4_27 rfl ?_
  refine z_iadd (pc := 28) dJ6_bitCount_0f7a4_28 ?_
  refine z_ldcw (pc := 29) dJ6_bitCount_0f7a4_29 zk_J6_267 ?_
  refine z_iand (pc := 32) dJ6_bitCount_0f7a4_32 ?_
  obtain ⟨v3, ev3, h⟩ := zl_some h
  refine z_top ev3 ?_
  refine z_istore_n (pc := 33) (lo' := [(0, .int v3)]) dJ6_bitCount_0f7a4_33 rfl (by decide) rfl ?_
  refine z_iload_n (pc := 34) (q := 0) dJ6_bitCount_0f7a4_34 rfl rfl ?_
  refine z_iload_n (pc := 35) (q := 0) dJ6_bitCount_0f7a4_35 rfl rfl ?_
  refine z_bipush (pc := 36) (v := 8) dJ6_bitCount_0f7a4_36 zcb_8 ?_
  refine z_iushr (pc := 38) (v := zushr v3 8) dJ6_bitCount_0f7a4_38 rfl ?_
  refine z_iadd (pc := 39) dJ6_bitCount_0f7a4_39 ?_
  obtain ⟨v4, ev4, h⟩ := zl_some h
  refine z_top ev4 ?_
  refine z_istore_n (pc := 40) (lo' := [(0, .int v4)]) dJ6_bitCount_0f7a4_40 rfl (by decide) rfl ?_
  refine z_iload_n (pc := 41) (q := 0) dJ6_bitCount_0f7a4_41 rfl rfl ?_
  refine z_iload_n (pc := 42) (q := 0) dJ6_bitCount_0f7a4_42 rfl rfl ?_
  refine z_bipush (pc := 43) (v := 16) dJ6_bitCount_0f7a4_43 zcb_16 ?_
  refine z_iushr (pc := 45) (v := zushr v4 16) dJ6_bitCount_0f7a4_45 rfl ?_
  refine z_iadd (pc := 46) dJ6_bitCount_0f7a4_46 ?_
  obtain ⟨v5, ev5, h⟩ := zl_some h
  refine z_top ev5 ?_
  refine z_istore_n (pc := 47) (lo' := [(0, .int v5)]) dJ6_bitCount_0f7a4_47 rfl (by decide) rfl ?_
  refine z_iload_n (pc := 48) (q := 0) dJ6_bitCount_0f7a4_48 rfl rfl ?_
  refine z_bipush (pc := 49) (v := 63) dJ6_bitCount_0f7a4_49 zcb_63 ?_
  refine z_iand (pc := 51) dJ6_bitCount_0f7a4_51 ?_
  obtain ⟨rfl, rfl⟩ := zr_some h
  exact z_iret dJ6_bitCount_0f7a4_52
def f_X11_trim (x1 : Int32) (x2 : Int32) (S : zS) : Option (Int32 × zS) :=
  zb (f_X11_isStake x1 S) fun r3 T2 =>
  if r3 = 0 then
    some ((-1), T2)
  else
    if x2 < 1 then
      some ((-1), T2)
    else
      if (99 : Int32) < x2 then
        some ((-1), T2)
      else
        zb (f_X3_livingBits_37 T2) fun r9 T8 =>
        zb (f_X1_onStake_13 x1 r9 T8) fun r12 T11 =>
        if r12 = 0 then
          some ((-1), T11)
        else
          zu (f_X3_cut_37_13 x1 x2 T11) fun T15 =>
          zu (f_X0_keep_43_37 T15) fun T17 =>
          zb (f_X3_livingBits_37 T17) fun r20 T19 =>
          zb (f_J6_bitCount_0f7a4 (r9 &&& (r20 ^^^ (-1))) T19) fun r23 T22 =>
          some (r23, T22)
set_option maxRecDepth 100000 in
theorem w_X11_trim (l : Launch) {x1 : Int32} {x2 : Int32} {S : zS} {r : Int32} {S1 : zS} (h : f_X11_trim x1 x2 S = some (r, S1)) : zMet zLX l yX11_trim cX11_trim 4 (some .int) 3 [.ref 0, .int x1, .int x2] S (some (.int r)) S1 := by
  unfold f_X11_trim at h
  refine zMet.of (by decide +kernel) (Nat.le_of_ble_eq_true rfl) ?_
  show WA zLX l RX11 cX11_trim 4 (some .int) 3 (some (.int r)) S1 0 [(0, .ref 0), (1, .int x1), (2, .int x2)] [] S
  refine z_aload_n (pc := 0) (q := 0) dX11_trim_0 rfl rfl ?_
  refine z_iload_n (pc := 1) (q := 1) dX11_trim_1 rfl rfl ?_
  obtain ⟨r3, T2, q1, h⟩ := zb_some h
  refine z_callVi (pc := 2) (st := []) [.int x1] dX11_trim_2 zm_X11_172 zM_X11_isStake (by decide) oX_0 rfl (w_X11_isStake l q1) rfl rfl (Nat.le_of_ble_eq_true rfl) ?_
  refine z_if_eq (pc := 5) (tgt := 19) dX11_trim_5 (by decide) (fun c4 => ?_) (fun c4 => ?_)
  · have h := zt_some c4 h
    refine z_iconst (pc := 19) (v := (-1)) dX11_trim_19 zci_m1 ?_
    obtain ⟨rfl, rfl⟩ := zr_some h
    exact z_iret dX11_trim_20
  · have h := ze_some c4 h
    refine z_iload_n (pc := 8) (q := 2) dX11_trim_8 rfl rfl ?_
    refine z_iconst (pc := 9) (v := 1) dX11_trim_9 zci_1 ?_
    refine z_icmp_lt (pc := 10) (tgt := 19) dX11_trim_10 (by decide) (fun c5 => ?_) (fun c5 => ?_)
    · have h := zt_some c5 h
      refine z_iconst (pc := 19) (v := (-1)) dX11_trim_19 zci_m1 ?_
      obtain ⟨rfl, rfl⟩ := zr_some h
      exact z_iret dX11_trim_20
    · have h := ze_some c5 h
      refine z_iload_n (pc := 13) (q := 2) dX11_trim_13 rfl rfl ?_
      refine z_bipush (pc := 14) (v := 99) dX11_trim_14 zcb_99 ?_
      refine z_icmp_le (pc := 16) (tgt := 21) dX11_trim_16 (by decide) (fun c6 => ?_) (fun c6 => ?_)
      · have h := ze_some c6 h
        refine z_aload_n (pc := 21) (q := 0) dX11_trim_21 rfl rfl ?_
        refine z_getR (pc := 22) dX11_trim_22 zf_X11_35 gX_0_5 ?_
        obtain ⟨r9, T8, q7, h⟩ := zb_some h
        refine z_callVi (pc := 25) (st := []) [] dX11_trim_25 zm_X11_165 zM_X3_livingBits (by decide) oX_37 rfl (w_X3_livingBits_37 l q7) rfl rfl (Nat.le_of_ble_eq_true rfl) ?_
        refine z_istore_n (pc := 28) (lo' := [(3, .int r9), (0, .ref 0), (1, .int x1), (2, .int x2)]) dX11_trim_28 rfl (by decide) rfl ?_
        refine z_aload_n (pc := 29) (q := 1) dX11_trim_29 rfl rfl ?_
        refine z_getR (pc := 30) dX11_trim_30 zf_X11_25 gX_0_3 ?_
        refine z_getR (pc := 33) dX11_trim_33 zf_X11_131 gX_5_13 ?_
        refine z_iload_n (pc := 36) (q := 2) dX11_trim_36 rfl rfl ?_
        refine z_iload_n (pc := 37) (q := 0) dX11_trim_37 rfl rfl ?_
        obtain ⟨r12, T11, q10, h⟩ := zb_some h
        refine z_callVi (pc := 38) (st := []) [.int x1, .int r9] dX11_trim_38 zm_X11_175 zM_X1_onStake (by decide) oX_13 rfl (w_X1_onStake_13 l q10) rfl rfl (Nat.le_of_ble_eq_true rfl) ?_
        refine z_if_ne (pc := 41) (tgt := 46) dX11_trim_41 (by decide) (fun c13 => ?_) (fun c13 => ?_)
        · have h := ze_some c13 h
          refine z_aload_n (pc := 46) (q := 1) dX11_trim_46 rfl rfl ?_
          refine z_getR (pc := 47) dX11_trim_47 zf_X11_35 gX_0_5 ?_
          refine z_aload_n (pc := 50) (q := 1) dX11_trim_50 rfl rfl ?_
          refine z_getR (pc := 51) dX11_trim_51 zf_X11_25 gX_0_3 ?_
          refine z_getR (pc := 54) dX11_trim_54 zf_X11_131 gX_5_13 ?_
          refine z_iload_n (pc := 57) (q := 2) dX11_trim_57 rfl rfl ?_
          refine z_iload_n (pc := 58) (q := 3) dX11_trim_58 rfl rfl ?_
          obtain ⟨T15, q14, h⟩ := zu_some h
          refine z_callVv (pc := 59) (st := []) [.ref 13, .int x1, .int x2] dX11_trim_59 zm_X11_214 zM_X3_cut (by decide) oX_37 rfl (w_X3_cut_37_13 l q14) rfl rfl (Nat.le_of_ble_eq_true rfl) ?_
          refine z_aload_n (pc := 62) (q := 1) dX11_trim_62 rfl rfl ?_
          refine z_getR (pc := 63) dX11_trim_63 zf_X11_45 gX_0_7 ?_
          refine z_aload_n (pc := 66) (q := 1) dX11_trim_66 rfl rfl ?_
          refine z_getR (pc := 67) dX11_trim_67 zf_X11_35 gX_0_5 ?_
          obtain ⟨T17, q16, h⟩ := zu_some h
          refine z_callVv (pc := 70) (st := []) [.ref 37] dX11_trim_70 zm_X11_211 zM_X0_keep (by decide) oX_43 rfl (w_X0_keep_43_37 l q16) rfl rfl (Nat.le_of_ble_eq_true rfl) ?_
          refine z_iload_n (pc := 73) (q := 0) dX11_trim_73 rfl rfl ?_
          refine z_aload_n (pc := 74) (q := 1) dX11_trim_74 rfl rfl ?_
          refine z_getR (pc := 75) dX11_trim_75 zf_X11_35 gX_0_5 ?_
          obtain ⟨r20, T19, q18, h⟩ := zb_some h
          refine z_callVi (pc := 78) (st := [.int r9]) [] dX11_trim_78 zm_X11_165 zM_X3_livingBits (by decide) oX_37 rfl (w_X3_livingBits_37 l q18) rfl rfl (Nat.le_of_ble_eq_true rfl) ?_
          refine z_iconst (pc := 81) (v := (-1)) dX11_trim_81 zci_m1 ?_
          refine z_ixor (pc := 82) dX11_trim_82 ?_
          refine z_iand (pc := 83) dX11_trim_83 ?_
          obtain ⟨r23, T22, q21, h⟩ := zb_some h
          refine z_callSi (pc := 84) (st := []) [.int (r9 &&& (r20 ^^^ (-1)))] dX11_trim_84 zm_X11_218 zM_J6_bitCount_0f7a4 (by decide) (w_J6_bitCount_0f7a4 l q21) rfl rfl (Nat.le_of_ble_eq_true rfl) ?_
          obtain ⟨rfl, rfl⟩ := zr_some h
          exact z_iret dX11_trim_87
        · have h := zt_some c13 h
          refine z_iconst (pc := 44) (v := (-1)) dX11_trim_44 zci_m1 ?_
          obtain ⟨rfl, rfl⟩ := zr_some h
          exact z_iret dX11_trim_45
      · have h := zt_some c6 h
        refine z_iconst (pc := 19) (v := (-1)) dX11_trim_19 zci_m1 ?_
        obtain ⟨rfl, rfl⟩ := zr_some h
        exact z_iret dX11_trim_20
def f_X1_othersNear_13_L17 : Nat → Int32 → Int32 → Int32 → Int32 → zS → Option (Int32 × zS)
  | 0, _, _, _, _, _ => none
  | n + 1, x1, x2, x3, x4, S =>
    if x4 < 12 then
      if x4 = x1 then
        zlet (x4 + 1) fun v3 =>
        (f_X1_othersNear_13_L17 n) x1 x2 x3 v3 S
      else
        if ((x2 >>> (x4 &&& 31)) &&& 1) = 0 then
          zlet (x4 + 1) fun v4 =>
          (f_X1_othersNear_13_L17 n) x1 x2 x3 v4 S
        else
          if zin x4 12 then
          if zin x1 12 then
          if (1 : Int32) < (zabs ((S.1 14 x4.toNatClampNeg) - (S.1 14 x1.toNatClampNeg))) then
            zlet (x4 + 1) fun v7 =>
            (f_X1_othersNear_13_L17 n) x1 x2 x3 v7 S
          else
            zlet (x3 + 1) fun v7 =>
            zlet (x4 + 1) fun v8 =>
            (f_X1_othersNear_13_L17 n) x1 x2 v7 v8 S else none else none
    else
      some (x3, S)
def f_X1_othersNear_13 (x1 : Int32) (x2 : Int32) (S : zS) : Option (Int32 × zS) :=
  if x1 < 0 then
    some (0, S)
  else
    if x1 < 12 then
      f_X1_othersNear_13_L17 zN x1 x2 0 0 S
    else
      some (0, S)
set_option maxRecDepth 100000 in
theorem w_X1_othersNear_13_L17 (l : Launch) {r : Int32} {S1 : zS} : ∀ (n : Nat) (x1 : Int32) (x2 : Int32) (x3 : Int32) (x4 : Int32) (S : zS), f_X1_othersNear_13_L17 n x1 x2 x3 x4 S = some (r, S1) → WA zLX l RX1 cX1_othersNear 5 (some .int) 1 (some (.int r)) S1 17 [(0, .ref 13), (1, .int x1), (2, .int x2), (3, .int x3), (4, .int x4)] [] S := by
  intro n
  induction n with
  | zero =>
    intro x1 x2 x3 x4 S h
    exact nomatch h
  | succ n ih =>
    intro x1 x2 x3 x4 S h
    rw [f_X1_othersNear_13_L17] at h
    refine z_iload (pc := 17) (q := 4) dX1_othersNear_17 rfl ?_
    refine z_bipush (pc := 19) (v := 12) dX1_othersNear_19 zcb_12 ?_
    refine z_icmp_ge (pc := 21) (tgt := 69) dX1_othersNear_21 (by decide) (fun c1 => ?_) (fun c1 => ?_)
    · have h := ze_some c1 h
      refine z_iload_n (pc := 69) (q := 3) dX1_othersNear_69 rfl rfl ?_
      obtain ⟨rfl, rfl⟩ := zr_some h
      exact z_iret dX1_othersNear_70
    · have h := zt_some c1 h
      refine z_iload (pc := 24) (q := 4) dX1_othersNear_24 rfl ?_
      refine z_iload_n (pc := 26) (q := 1) dX1_othersNear_26 rfl rfl ?_
      refine z_icmp_eq (pc := 27) (tgt := 63) dX1_othersNear_27 (by decide) (fun c2 => ?_) (fun c2 => ?_)
      · have h := zt_some c2 h
        obtain ⟨v3, ev3, h⟩ := zl_some h
        refine z_iinc (pc := 63) (q := 4) (v := v3) (lo' := [(4, .int v3), (0, .ref 13), (1, .int x1), (2, .int x2), (3, .int x3)]) dX1_othersNear_63 rfl (by rw [ev3, zci_1]) (by decide) rfl ?_
        refine z_goto (pc := 66) (tgt := 17) dX1_othersNear_66 (by decide) ?_
        exact z_sub [1, 2, 3, 4, 0] rfl (ih x1 x2 x3 v3 S h)
      · have h := ze_some c2 h
        refine z_iload_n (pc := 30) (q := 2) dX1_othersNear_30 rfl rfl ?_
        refine z_iload (pc := 31) (q := 4) dX1_othersNear_31 rfl ?_
        refine z_ishr (pc := 33) dX1_othersNear_33 ?_
        refine z_iconst (pc := 34) (v := 1) dX1_othersNear_34 zci_1 ?_
        refine z_iand (pc := 35) dX1_othersNear_35 ?_
        refine z_if_eq (pc := 36) (tgt := 63) dX1_othersNear_36 (by decide) (fun c3 => ?_) (fun c3 => ?_)
        · have h := zt_some c3 h
          obtain ⟨v4, ev4, h⟩ := zl_some h
          refine z_iinc (pc := 63) (q := 4) (v := v4) (lo' := [(4, .int v4), (0, .ref 13), (1, .int x1), (2, .int x2), (3, .int x3)]) dX1_othersNear_63 rfl (by rw [ev4, zci_1]) (by decide) rfl ?_
          refine z_goto (pc := 66) (tgt := 17) dX1_othersNear_66 (by decide) ?_
          exact z_sub [1, 2, 3, 4, 0] rfl (ih x1 x2 x3 v4 S h)
        · have h := ze_some c3 h
          refine z_aload_n (pc := 39) (q := 0) dX1_othersNear_39 rfl rfl ?_
          refine z_getR (pc := 40) dX1_othersNear_40 zf_X1_9 gX_13_0 ?_
          refine z_iload (pc := 43) (q := 4) dX1_othersNear_43 rfl ?_
          obtain ⟨c4, h⟩ := zg_some h
          refine z_iald (pc := 45) dX1_othersNear_45 aX_14 c4 ?_
          refine z_aload_n (pc := 46) (q := 0) dX1_othersNear_46 rfl rfl ?_
          refine z_getR (pc := 47) dX1_othersNear_47 zf_X1_9 gX_13_0 ?_
          refine z_iload_n (pc := 50) (q := 1) dX1_othersNear_50 rfl rfl ?_
          obtain ⟨c5, h⟩ := zg_some h
          refine z_iald (pc := 51) dX1_othersNear_51 aX_14 c5 ?_
          refine z_isub (pc := 52) dX1_othersNear_52 ?_
          refine z_abs (pc := 53) dX1_othersNear_53 zm_X1_46 zM_abs.1 zM_abs.2.1 zM_abs.2.2 (by decide) (Nat.le_of_ble_eq_true rfl) ?_
          refine z_iconst (pc := 56) (v := 1) dX1_othersNear_56 zci_1 ?_
          refine z_icmp_gt (pc := 57) (tgt := 63) dX1_othersNear_57 (by decide) (fun c6 => ?_) (fun c6 => ?_)
          · have h := zt_some c6 h
            obtain ⟨v7, ev7, h⟩ := zl_some h
            refine z_iinc (pc := 63) (q := 4) (v := v7) (lo' := [(4, .int v7), (0, .ref 13), (1, .int x1), (2, .int x2), (3, .int x3)]) dX1_othersNear_63 rfl (by rw [ev7, zci_1]) (by decide) rfl ?_
            refine z_goto (pc := 66) (tgt := 17) dX1_othersNear_66 (by decide) ?_
            exact z_sub [1, 2, 3, 4, 0] rfl (ih x1 x2 x3 v7 S h)
          · have h := ze_some c6 h
            obtain ⟨v7, ev7, h⟩ := zl_some h
            refine z_iinc (pc := 60) (q := 3) (v := v7) (lo' := [(3, .int v7), (0, .ref 13), (1, .int x1), (2, .int x2), (4, .int x4)]) dX1_othersNear_60 rfl (by rw [ev7, zci_1]) (by decide) rfl ?_
            obtain ⟨v8, ev8, h⟩ := zl_some h
            refine z_iinc (pc := 63) (q := 4) (v := v8) (lo' := [(4, .int v8), (3, .int v7), (0, .ref 13), (1, .int x1), (2, .int x2)]) dX1_othersNear_63 rfl (by rw [ev8, zci_1]) (by decide) rfl ?_
            refine z_goto (pc := 66) (tgt := 17) dX1_othersNear_66 (by decide) ?_
            exact z_sub [2, 3, 4, 1, 0] rfl (ih x1 x2 v7 v8 S h)
set_option maxRecDepth 100000 in
theorem w_X1_othersNear_13 (l : Launch) {x1 : Int32} {x2 : Int32} {S : zS} {r : Int32} {S1 : zS} (h : f_X1_othersNear_13 x1 x2 S = some (r, S1)) : zMet zLX l yX1_othersNear cX1_othersNear 5 (some .int) 1 [.ref 13, .int x1, .int x2] S (some (.int r)) S1 := by
  unfold f_X1_othersNear_13 at h
  refine zMet.of (by decide +kernel) (Nat.le_of_ble_eq_true rfl) ?_
  show WA zLX l RX1 cX1_othersNear 5 (some .int) 1 (some (.int r)) S1 0 [(0, .ref 13), (1, .int x1), (2, .int x2)] [] S
  refine z_iload_n (pc := 0) (q := 1) dX1_othersNear_0 rfl rfl ?_
  refine z_if_lt (pc := 1) (tgt := 10) dX1_othersNear_1 (by decide) (fun c1 => ?_) (fun c1 => ?_)
  · have h := zt_some c1 h
    refine z_iconst (pc := 10) (v := 0) dX1_othersNear_10 zci_0 ?_
    obtain ⟨rfl, rfl⟩ := zr_some h
    exact z_iret dX1_othersNear_11
  · have h := ze_some c1 h
    refine z_iload_n (pc := 4) (q := 1) dX1_othersNear_4 rfl rfl ?_
    refine z_bipush (pc := 5) (v := 12) dX1_othersNear_5 zcb_12 ?_
    refine z_icmp_lt (pc := 7) (tgt := 12) dX1_othersNear_7 (by decide) (fun c2 => ?_) (fun c2 => ?_)
    · have h := zt_some c2 h
      refine z_iconst (pc := 12) (v := 0) dX1_othersNear_12 zci_0 ?_
      refine z_istore_n (pc := 13) (lo' := [(3, .int 0), (0, .ref 13), (1, .int x1), (2, .int x2)]) dX1_othersNear_13 rfl (by decide) rfl ?_
      refine z_iconst (pc := 14) (v := 0) dX1_othersNear_14 zci_0 ?_
      refine z_istore (pc := 15) (lo' := [(4, .int 0), (3, .int 0), (0, .ref 13), (1, .int x1), (2, .int x2)]) dX1_othersNear_15 (by decide) rfl ?_
      exact z_sub [2, 3, 4, 1, 0] rfl (w_X1_othersNear_13_L17 l zN x1 x2 0 0 S h)
    · have h := ze_some c2 h
      refine z_iconst (pc := 10) (v := 0) dX1_othersNear_10 zci_0 ?_
      obtain ⟨rfl, rfl⟩ := zr_some h
      exact z_iret dX1_othersNear_11
