def f_X2_clear_H_4  (S : zS) : Option zS :=
  zlet (zput S 4 0 0) fun T1 =>
  zlet (zput T1 4 1 0) fun T2 =>
  some T2
set_option maxRecDepth 100000 in
theorem w_X2_clear_H_4 (l : Launch)  {S : zS} {S1 : zS} (h : f_X2_clear_H_4 S = some S1) : zMet zLH l yX2_clear cX2_clear 1 none 1 [.ref 4] S none S1 := by
  unfold f_X2_clear_H_4 at h
  refine zMet.of (by decide +kernel) (Nat.le_of_ble_eq_true rfl) ?_
  show WA zLH l RX2 cX2_clear 1 none 1 none S1 0 [(0, .ref 4)] [] S
  refine z_aload_n (pc := 0) (q := 0) dX2_clear_0 rfl rfl ?_
  refine z_iconst (pc := 1) (v := 0) dX2_clear_1 zci_0 ?_
  obtain ⟨T1, eT1, h⟩ := zl_some h
  refine z_putI (pc := 2) dX2_clear_2 zp_X2_19 gH_4_0 rfl rfl eT1 ?_
  refine z_aload_n (pc := 5) (q := 0) dX2_clear_5 rfl rfl ?_
  refine z_iconst (pc := 6) (v := 0) dX2_clear_6 zci_0 ?_
  obtain ⟨T2, eT2, h⟩ := zl_some h
  refine z_putI (pc := 7) dX2_clear_7 zp_X2_23 gH_4_1 rfl rfl eT2 ?_
  cases h
  exact z_vret dX2_clear_10
def f_X4_clear_H_0_L33 : Nat → Int32 → zS → Option zS
  | 0, _, _ => none
  | n + 1, x1, S =>
    if x1 < 12 then
      if zin x1 12 then
      zlet (zput S 3 x1.toNatClampNeg 0) fun T3 =>
      zlet (x1 + 1) fun v4 =>
      (f_X4_clear_H_0_L33 n) v4 T3 else none
    else
      zlet (zput S 0 9 0) fun T2 =>
      zlet (zput T2 0 10 1) fun T3 =>
      zlet (zput T3 0 11 0) fun T4 =>
      zu (f_X2_clear_H_4 T4) fun T6 =>
      some T6
def f_X4_clear_H_0  (S : zS) : Option zS :=
  zlet (zput S 0 0 8) fun T1 =>
  zlet (zput T1 0 1 0) fun T2 =>
  zlet (zput T2 0 2 0) fun T3 =>
  zlet (zput T3 0 3 0) fun T4 =>
  zlet (zput T4 0 4 0) fun T5 =>
  zlet (zput T5 0 6 0) fun T6 =>
  f_X4_clear_H_0_L33 zN 0 T6
set_option maxRecDepth 100000 in
theorem w_X4_clear_H_0_L33 (l : Launch) {S1 : zS} : ∀ (n : Nat) (x1 : Int32) (S : zS), f_X4_clear_H_0_L33 n x1 S = some S1 → WA zLH l RX4 cX4_clear 2 none 2 none S1 33 [(0, .ref 0), (1, .int x1)] [] S := by
  intro n
  induction n with
  | zero =>
    intro x1 S h
    exact nomatch h
  | succ n ih =>
    intro x1 S h
    rw [f_X4_clear_H_0_L33] at h
    refine z_iload_n (pc := 33) (q := 1) dX4_clear_33 rfl rfl ?_
    refine z_aload_n (pc := 34) (q := 0) dX4_clear_34 rfl rfl ?_
    refine z_getR (pc := 35) dX4_clear_35 zf_X4_18 gH_0_8 ?_
    refine z_alen (pc := 38) (v := 12) dX4_clear_38 aH_3 (by decide) (by decide) ?_
    refine z_icmp_ge (pc := 39) (tgt := 55) dX4_clear_39 (by decide) (fun c1 => ?_) (fun c1 => ?_)
    · have h := ze_some c1 h
      refine z_aload_n (pc := 55) (q := 0) dX4_clear_55 rfl rfl ?_
      refine z_iconst (pc := 56) (v := 0) dX4_clear_56 zci_0 ?_
      obtain ⟨T2, eT2, h⟩ := zl_some h
      refine z_putI (pc := 57) dX4_clear_57 zp_X4_57 gH_0_9 rfl rfl eT2 ?_
      refine z_aload_n (pc := 60) (q := 0) dX4_clear_60 rfl rfl ?_
      refine z_iconst (pc := 61) (v := 1) dX4_clear_61 zci_1 ?_
      obtain ⟨T3, eT3, h⟩ := zl_some h
      refine z_putI (pc := 62) dX4_clear_62 zp_X4_60 gH_0_10 rfl rfl eT3 ?_
      refine z_aload_n (pc := 65) (q := 0) dX4_clear_65 rfl rfl ?_
      refine z_iconst (pc := 66) (v := 0) dX4_clear_66 zci_0 ?_
      obtain ⟨T4, eT4, h⟩ := zl_some h
      refine z_putI (pc := 67) dX4_clear_67 zp_X4_63 gH_0_11 rfl rfl eT4 ?_
      refine z_aload_n (pc := 70) (q := 0) dX4_clear_70 rfl rfl ?_
      refine z_getR (pc := 71) dX4_clear_71 zf_X4_24 gH_0_12 ?_
      obtain ⟨T6, q5, h⟩ := zu_some h
      refine z_callVv (pc := 74) (st := []) [] dX4_clear_74 zm_X4_66 zM_X2_clear (by decide) oH_4 rfl (w_X2_clear_H_4 l q5) rfl rfl (Nat.le_of_ble_eq_true rfl) ?_
      cases h
      exact z_vret dX4_clear_77
    · have h := zt_some c1 h
      refine z_aload_n (pc := 42) (q := 0) dX4_clear_42 rfl rfl ?_
      refine z_getR (pc := 43) dX4_clear_43 zf_X4_18 gH_0_8 ?_
      refine z_iload_n (pc := 46) (q := 1) dX4_clear_46 rfl rfl ?_
      refine z_iconst (pc := 47) (v := 0) dX4_clear_47 zci_0 ?_
      obtain ⟨c2, h⟩ := zg_some h
      obtain ⟨T3, eT3, h⟩ := zl_some h
      refine z_iast (pc := 48) dX4_clear_48 aH_3 c2 eT3 ?_
      obtain ⟨v4, ev4, h⟩ := zl_some h
      refine z_iinc (pc := 49) (q := 1) (v := v4) (lo' := [(1, .int v4), (0, .ref 0)]) dX4_clear_49 rfl (by rw [ev4, zci_1]) (by decide) rfl ?_
      refine z_goto (pc := 52) (tgt := 33) dX4_clear_52 (by decide) ?_
      exact z_sub [1, 0] rfl (ih v4 T3 h)
set_option maxRecDepth 100000 in
theorem w_X4_clear_H_0 (l : Launch)  {S : zS} {S1 : zS} (h : f_X4_clear_H_0 S = some S1) : zMet zLH l yX4_clear cX4_clear 2 none 2 [.ref 0] S none S1 := by
  unfold f_X4_clear_H_0 at h
  refine zMet.of (by decide +kernel) (Nat.le_of_ble_eq_true rfl) ?_
  show WA zLH l RX4 cX4_clear 2 none 2 none S1 0 [(0, .ref 0)] [] S
  refine z_aload_n (pc := 0) (q := 0) dX4_clear_0 rfl rfl ?_
  refine z_bipush (pc := 1) (v := 8) dX4_clear_1 zcb_8 ?_
  obtain ⟨T1, eT1, h⟩ := zl_some h
  refine z_putI (pc := 3) dX4_clear_3 zp_X4_38 gH_0_0 rfl rfl eT1 ?_
  refine z_aload_n (pc := 6) (q := 0) dX4_clear_6 rfl rfl ?_
  refine z_iconst (pc := 7) (v := 0) dX4_clear_7 zci_0 ?_
  obtain ⟨T2, eT2, h⟩ := zl_some h
  refine z_putI (pc := 8) dX4_clear_8 zp_X4_42 gH_0_1 rfl rfl eT2 ?_
  refine z_aload_n (pc := 11) (q := 0) dX4_clear_11 rfl rfl ?_
  refine z_iconst (pc := 12) (v := 0) dX4_clear_12 zci_0 ?_
  obtain ⟨T3, eT3, h⟩ := zl_some h
  refine z_putI (pc := 13) dX4_clear_13 zp_X4_45 gH_0_2 rfl rfl eT3 ?_
  refine z_aload_n (pc := 16) (q := 0) dX4_clear_16 rfl rfl ?_
  refine z_iconst (pc := 17) (v := 0) dX4_clear_17 zci_0 ?_
  obtain ⟨T4, eT4, h⟩ := zl_some h
  refine z_putI (pc := 18) dX4_clear_18 zp_X4_48 gH_0_3 rfl rfl eT4 ?_
  refine z_aload_n (pc := 21) (q := 0) dX4_clear_21 rfl rfl ?_
  refine z_iconst (pc := 22) (v := 0) dX4_clear_22 zci_0 ?_
  obtain ⟨T5, eT5, h⟩ := zl_some h
  refine z_putI (pc := 23) dX4_clear_23 zp_X4_51 gH_0_4 rfl rfl eT5 ?_
  refine z_aload_n (pc := 26) (q := 0) dX4_clear_26 rfl rfl ?_
  refine z_iconst (pc := 27) (v := 0) dX4_clear_27 zci_0 ?_
  obtain ⟨T6, eT6, h⟩ := zl_some h
  refine z_putI (pc := 28) dX4_clear_28 zp_X4_54 gH_0_6 rfl rfl eT6 ?_
  refine z_iconst (pc := 31) (v := 0) dX4_clear_31 zci_0 ?_
  refine z_istore_n (pc := 32) (lo' := [(1, .int 0), (0, .ref 0)]) dX4_clear_32 rfl (by decide) rfl ?_
  exact z_sub [1, 0] rfl (w_X4_clear_H_0_L33 l zN 0 T6 h)
def f_J0_coder_7d493_R_1001  (S : zS) : Option (Int32 × zS) :=
  if (1 : Int32) = 0 then
    some (1, S)
  else
    some (0, S)
set_option maxRecDepth 100000 in
theorem w_J0_coder_7d493_R_1001 (l : Launch)  {S : zS} {r : Int32} {S1 : zS} (h : f_J0_coder_7d493_R_1001 S = some (r, S1)) : zMet zLR l yJ0_coder_7d493 cJ0_coder_7d493 1 (some .byte) 1 [.ref 1001] S (some (.int r)) S1 := by
  unfold f_J0_coder_7d493_R_1001 at h
  refine zMet.of (by decide +kernel) (Nat.le_of_ble_eq_true rfl) ?_
  show WA zLR l RJ0 cJ0_coder_7d493 1 (some .byte) 1 (some (.int r)) S1 0 [(0, .ref 1001)] [] S
  refine z_strK (pc := 0) dJ0_coder_7d493_0 zs_J0_38 ?_
  refine z_if_eq (pc := 3) (tgt := 13) dJ0_coder_7d493_3 (by decide) (fun c1 => ?_) (fun c1 => ?_)
  · have h := zt_some c1 h
    refine z_iconst (pc := 13) (v := 1) dJ0_coder_7d493_13 zci_1 ?_
    obtain ⟨rfl, rfl⟩ := zr_some h
    exact z_bret dJ0_coder_7d493_14 rfl
  · have h := ze_some c1 h
    refine z_aload_n (pc := 6) (q := 0) dJ0_coder_7d493_6 rfl rfl ?_
    refine z_strC (pc := 7) 1 dJ0_coder_7d493_7 zs_J0_15 (by decide) ?_
    refine z_goto (pc := 10) (tgt := 14) dJ0_coder_7d493_10 (by decide) ?_
    obtain ⟨rfl, rfl⟩ := zr_some h
    exact z_bret dJ0_coder_7d493_14 rfl
def f_J0_length_8abf5_R_1001  (S : zS) : Option (Int32 × zS) :=
  zb (f_J0_coder_7d493_R_1001 S) fun r3 T2 =>
  some (123 >>> (r3 &&& 31), T2)
set_option maxRecDepth 100000 in
theorem w_J0_length_8abf5_R_1001 (l : Launch)  {S : zS} {r : Int32} {S1 : zS} (h : f_J0_length_8abf5_R_1001 S = some (r, S1)) : zMet zLR l yJ0_length_8abf5 cJ0_length_8abf5 1 (some .int) 2 [.ref 1001] S (some (.int r)) S1 := by
  unfold f_J0_length_8abf5_R_1001 at h
  refine zMet.of (by decide +kernel) (Nat.le_of_ble_eq_true rfl) ?_
  show WA zLR l RJ0 cJ0_length_8abf5 1 (some .int) 2 (some (.int r)) S1 0 [(0, .ref 1001)] [] S
  refine z_aload_n (pc := 0) (q := 0) dJ0_length_8abf5_0 rfl rfl ?_
  refine z_strV (pc := 1) 1 dJ0_length_8abf5_1 zs_J0_9 (by decide) ?_
  refine z_strL (pc := 4) (v := 123) 1 dJ0_length_8abf5_4 (by decide) (by decide) ?_
  refine z_aload_n (pc := 5) (q := 0) dJ0_length_8abf5_5 rfl rfl ?_
  obtain ⟨r3, T2, q1, h⟩ := zb_some h
  refine z_callVS (pc := 6) (st := [.int 123]) 1 [] dJ0_length_8abf5_6 zm_J0_335 zM_J0_coder_7d493 (by decide) (by decide) rfl (w_J0_coder_7d493_R_1001 l q1) rfl rfl (Nat.le_of_ble_eq_true rfl) ?_
  refine z_ishr (pc := 9) dJ0_length_8abf5_9 ?_
  obtain ⟨rfl, rfl⟩ := zr_some h
  exact z_iret dJ0_length_8abf5_10
def f_J0_isLatin1_aae02_R_1001  (S : zS) : Option (Int32 × zS) :=
  if (1 : Int32) = 0 then
    some (0, S)
  else
    if (0 : Int32) = 0 then
      some (1, S)
    else
      some (0, S)
set_option maxRecDepth 100000 in
theorem w_J0_isLatin1_aae02_R_1001 (l : Launch)  {S : zS} {r : Int32} {S1 : zS} (h : f_J0_isLatin1_aae02_R_1001 S = some (r, S1)) : zMet zLR l yJ0_isLatin1_aae02 cJ0_isLatin1_aae02 1 (some .boolean) 1 [.ref 1001] S (some (.int r)) S1 := by
  unfold f_J0_isLatin1_aae02_R_1001 at h
  refine zMet.of (by decide +kernel) (Nat.le_of_ble_eq_true rfl) ?_
  show WA zLR l RJ0 cJ0_isLatin1_aae02 1 (some .boolean) 1 (some (.int r)) S1 0 [(0, .ref 1001)] [] S
  refine z_strK (pc := 0) dJ0_isLatin1_aae02_0 zs_J0_38 ?_
  refine z_if_eq (pc := 3) (tgt := 17) dJ0_isLatin1_aae02_3 (by decide) (fun c1 => ?_) (fun c1 => ?_)
  · have h := zt_some c1 h
    refine z_iconst (pc := 17) (v := 0) dJ0_isLatin1_aae02_17 zci_0 ?_
    obtain ⟨rfl, rfl⟩ := zr_some h
    exact z_zret dJ0_isLatin1_aae02_18 rfl
  · have h := ze_some c1 h
    refine z_aload_n (pc := 6) (q := 0) dJ0_isLatin1_aae02_6 rfl rfl ?_
    refine z_strC (pc := 7) 1 dJ0_isLatin1_aae02_7 zs_J0_15 (by decide) ?_
    refine z_if_ne (pc := 10) (tgt := 17) dJ0_isLatin1_aae02_10 (by decide) (fun c2 => ?_) (fun c2 => ?_)
    · have h := ze_some c2 h
      refine z_iconst (pc := 17) (v := 0) dJ0_isLatin1_aae02_17 zci_0 ?_
      obtain ⟨rfl, rfl⟩ := zr_some h
      exact z_zret dJ0_isLatin1_aae02_18 rfl
    · have h := zt_some c2 h
      refine z_iconst (pc := 13) (v := 1) dJ0_isLatin1_aae02_13 zci_1 ?_
      refine z_goto (pc := 14) (tgt := 18) dJ0_isLatin1_aae02_14 (by decide) ?_
      obtain ⟨rfl, rfl⟩ := zr_some h
      exact z_zret dJ0_isLatin1_aae02_18 rfl
def f_J3_checkIndex_8e157_R_n (x0 : Int32) (x1 : Int32) (S : zS) : Option (Int32 × zS) :=
  if x0 < 0 then
    none
  else
    if x0 < x1 then
      some (x0, S)
    else
      none
set_option maxRecDepth 100000 in
theorem w_J3_checkIndex_8e157_R_n (l : Launch) {x0 : Int32} {x1 : Int32} {S : zS} {r : Int32} {S1 : zS} (h : f_J3_checkIndex_8e157_R_n x0 x1 S = some (r, S1)) : zMet zLR l yJ3_checkIndex_8e157 cJ3_checkIndex_8e157 3 (some .int) 1 [.int x0, .int x1, .null] S (some (.int r)) S1 := by
  unfold f_J3_checkIndex_8e157_R_n at h
  refine zMet.of (by decide +kernel) (Nat.le_of_ble_eq_true rfl) ?_
  show WA zLR l RJ3 cJ3_checkIndex_8e157 3 (some .int) 1 (some (.int r)) S1 0 [(0, .int x0), (1, .int x1), (2, .null)] [] S
  refine z_iload_n (pc := 0) (q := 0) dJ3_checkIndex_8e157_0 rfl rfl ?_
  refine z_if_lt (pc := 1) (tgt := 9) dJ3_checkIndex_8e157_1 (by decide) (fun c1 => ?_) (fun c1 => ?_)
  · have h := zt_some c1 h
    exact nomatch h
  · have h := ze_some c1 h
    refine z_iload_n (pc := 4) (q := 0) dJ3_checkIndex_8e157_4 rfl rfl ?_
    refine z_iload_n (pc := 5) (q := 1) dJ3_checkIndex_8e157_5 rfl rfl ?_
    refine z_icmp_lt (pc := 6) (tgt := 16) dJ3_checkIndex_8e157_6 (by decide) (fun c2 => ?_) (fun c2 => ?_)
    · have h := zt_some c2 h
      refine z_iload_n (pc := 16) (q := 0) dJ3_checkIndex_8e157_16 rfl rfl ?_
      obtain ⟨rfl, rfl⟩ := zr_some h
      exact z_iret dJ3_checkIndex_8e157_17
    · have h := ze_some c2 h
      exact nomatch h
def f_J3_checkIndex_8e157_R_1020 (x0 : Int32) (x1 : Int32) (S : zS) : Option (Int32 × zS) :=
  if x0 < 0 then
    none
  else
    if x0 < x1 then
      some (x0, S)
    else
      none
set_option maxRecDepth 100000 in
theorem w_J3_checkIndex_8e157_R_1020 (l : Launch) {x0 : Int32} {x1 : Int32} {S : zS} {r : Int32} {S1 : zS} (h : f_J3_checkIndex_8e157_R_1020 x0 x1 S = some (r, S1)) : zMet zLR l yJ3_checkIndex_8e157 cJ3_checkIndex_8e157 3 (some .int) 1 [.int x0, .int x1, .ref 1020] S (some (.int r)) S1 := by
  unfold f_J3_checkIndex_8e157_R_1020 at h
  refine zMet.of (by decide +kernel) (Nat.le_of_ble_eq_true rfl) ?_
  show WA zLR l RJ3 cJ3_checkIndex_8e157 3 (some .int) 1 (some (.int r)) S1 0 [(0, .int x0), (1, .int x1), (2, .ref 1020)] [] S
  refine z_iload_n (pc := 0) (q := 0) dJ3_checkIndex_8e157_0 rfl rfl ?_
  refine z_if_lt (pc := 1) (tgt := 9) dJ3_checkIndex_8e157_1 (by decide) (fun c1 => ?_) (fun c1 => ?_)
  · have h := zt_some c1 h
    exact nomatch h
  · have h := ze_some c1 h
    refine z_iload_n (pc := 4) (q := 0) dJ3_checkIndex_8e157_4 rfl rfl ?_
    refine z_iload_n (pc := 5) (q := 1) dJ3_checkIndex_8e157_5 rfl rfl ?_
    refine z_icmp_lt (pc := 6) (tgt := 16) dJ3_checkIndex_8e157_6 (by decide) (fun c2 => ?_) (fun c2 => ?_)
    · have h := zt_some c2 h
      refine z_iload_n (pc := 16) (q := 0) dJ3_checkIndex_8e157_16 rfl rfl ?_
      obtain ⟨rfl, rfl⟩ := zr_some h
      exact z_iret dJ3_checkIndex_8e157_17
    · have h := ze_some c2 h
      exact nomatch h
def f_J0_checkIndex_df160_R (x0 : Int32) (x1 : Int32) (S : zS) : Option zS :=
  zb (f_J3_checkIndex_8e157_R_n x0 x1 S) fun r3 T2 =>
  some T2
set_option maxRecDepth 100000 in
theorem w_J0_checkIndex_df160_R (l : Launch) {x0 : Int32} {x1 : Int32} {S : zS} {S1 : zS} (h : f_J0_checkIndex_df160_R x0 x1 S = some S1) : zMet zLR l yJ0_checkIndex_df160 cJ0_checkIndex_df160 2 none 2 [.int x0, .int x1] S none S1 := by
  unfold f_J0_checkIndex_df160_R at h
  refine zMet.of (by decide +kernel) (Nat.le_of_ble_eq_true rfl) ?_
  show WA zLR l RJ0 cJ0_checkIndex_df160 2 none 2 none S1 0 [(0, .int x0), (1, .int x1)] [] S
  refine z_iload_n (pc := 0) (q := 0) dJ0_checkIndex_df160_0 rfl rfl ?_
  refine z_iload_n (pc := 1) (q := 1) dJ0_checkIndex_df160_1 rfl rfl ?_
  refine z_strQ (pc := 2) dJ0_checkIndex_df160_2 zs_J0_1053 ?_ ?_
  · obtain ⟨r3, T2, q1, h⟩ := zb_some h
    refine z_callSi (pc := 5) (st := []) [.int x0, .int x1, .null] dJ0_checkIndex_df160_5 zm_J0_1059 zM_J3_checkIndex_8e157 (by decide) (w_J3_checkIndex_8e157_R_n l q1) rfl rfl (Nat.le_of_ble_eq_true rfl) ?_
    refine z_pop (pc := 8) dJ0_checkIndex_df160_8 rfl ?_
    cases h
    exact z_vret dJ0_checkIndex_df160_9
  · obtain ⟨r3, T2, q1, h⟩ := zb_some h
    refine z_callSi (pc := 5) (st := []) [.int x0, .int x1, .ref 1020] dJ0_checkIndex_df160_5 zm_J0_1059 zM_J3_checkIndex_8e157 (by decide) (w_J3_checkIndex_8e157_R_1020 l q1) rfl rfl (Nat.le_of_ble_eq_true rfl) ?_
    refine z_pop (pc := 8) dJ0_checkIndex_df160_8 rfl ?_
    cases h
    exact z_vret dJ0_checkIndex_df160_9
def f_J1_charAt_3b067_R_1011 (x1 : Int32) (S : zS) : Option (Int32 × zS) :=
  zu (f_J0_checkIndex_df160_R x1 123 S) fun T2 =>
  if zin x1 123 then
  if zchr ((Int32.toUInt32 ((zsby 1 x1) &&& 255) % 65536).toInt32) then some ((Int32.toUInt32 ((zsby 1 x1) &&& 255) % 65536).toInt32, T2) else none else none
set_option maxRecDepth 100000 in
theorem w_J1_charAt_3b067_R_1011 (l : Launch) {x1 : Int32} {S : zS} {r : Int32} {S1 : zS} (h : f_J1_charAt_3b067_R_1011 x1 S = some (r, S1)) : zMet zLR l yJ1_charAt_3b067 cJ1_charAt_3b067 2 (some .char) 3 [.ref 1011, .int x1] S (some (.int r)) S1 := by
  unfold f_J1_charAt_3b067_R_1011 at h
  refine zMet.of (by decide +kernel) (Nat.le_of_ble_eq_true rfl) ?_
  show WA zLR l RJ1 cJ1_charAt_3b067 2 (some .char) 3 (some (.int r)) S1 0 [(0, .ref 1011), (1, .int x1)] [] S
  refine z_iload_n (pc := 0) (q := 1) dJ1_charAt_3b067_0 rfl rfl ?_
  refine z_aload_n (pc := 1) (q := 0) dJ1_charAt_3b067_1 rfl rfl ?_
  refine z_strL (pc := 2) (v := 123) 1 dJ1_charAt_3b067_2 (by decide) (by decide) ?_
  obtain ⟨T2, q1, h⟩ := zu_some h
  refine z_callSv (pc := 3) (st := []) [.int x1, .int 123] dJ1_charAt_3b067_3 zm_J1_9 zM_J0_checkIndex_df160 (by decide) (w_J0_checkIndex_df160_R l q1) rfl rfl (Nat.le_of_ble_eq_true rfl) ?_
  refine z_aload_n (pc := 6) (q := 0) dJ1_charAt_3b067_6 rfl rfl ?_
  refine z_iload_n (pc := 7) (q := 1) dJ1_charAt_3b067_7 rfl rfl ?_
  obtain ⟨c3, h⟩ := zg_some h
  refine z_strB (pc := 8) 1 dJ1_charAt_3b067_8 (by decide) c3 ?_
  refine z_sipush (pc := 9) (v := 255) dJ1_charAt_3b067_9 zcs_255 ?_
  refine z_iand (pc := 12) dJ1_charAt_3b067_12 ?_
  refine z_i2c (pc := 13) dJ1_charAt_3b067_13 ?_
  obtain ⟨c4, h⟩ := zg_some h
  obtain ⟨rfl, rfl⟩ := zr_some h
  exact z_bret dJ1_charAt_3b067_14 (zchr_n c4)
def f_J0_charAt_5068e_R_1001 (x1 : Int32) (S : zS) : Option (Int32 × zS) :=
  zb (f_J0_isLatin1_aae02_R_1001 S) fun r3 T2 =>
  if r3 = 0 then
    none
  else
    zb (f_J1_charAt_3b067_R_1011 x1 T2) fun r7 T6 =>
    if zchr r7 then some (r7, T6) else none
set_option maxRecDepth 100000 in
theorem w_J0_charAt_5068e_R_1001 (l : Launch) {x1 : Int32} {S : zS} {r : Int32} {S1 : zS} (h : f_J0_charAt_5068e_R_1001 x1 S = some (r, S1)) : zMet zLR l yJ0_charAt_5068e cJ0_charAt_5068e 2 (some .char) 4 [.ref 1001, .int x1] S (some (.int r)) S1 := by
  unfold f_J0_charAt_5068e_R_1001 at h
  refine zMet.of (by decide +kernel) (Nat.le_of_ble_eq_true rfl) ?_
  show WA zLR l RJ0 cJ0_charAt_5068e 2 (some .char) 4 (some (.int r)) S1 0 [(0, .ref 1001), (1, .int x1)] [] S
  refine z_aload_n (pc := 0) (q := 0) dJ0_charAt_5068e_0 rfl rfl ?_
  obtain ⟨r3, T2, q1, h⟩ := zb_some h
  refine z_callVS (pc := 1) (st := []) 1 [] dJ0_charAt_5068e_1 zm_J0_492 zM_J0_isLatin1_aae02 (by decide) (by decide) rfl (w_J0_isLatin1_aae02_R_1001 l q1) rfl rfl (Nat.le_of_ble_eq_true rfl) ?_
  refine z_if_eq (pc := 4) (tgt := 16) dJ0_charAt_5068e_4 (by decide) (fun c4 => ?_) (fun c4 => ?_)
  · have h := zt_some c4 h
    refine z_aload_n (pc := 16) (q := 0) dJ0_charAt_5068e_16 rfl rfl ?_
    refine z_strV (pc := 17) 1 dJ0_charAt_5068e_17 zs_J0_9 (by decide) ?_
    refine z_iload_n (pc := 20) (q := 1) dJ0_charAt_5068e_20 rfl rfl ?_
    exact nomatch h
  · have h := ze_some c4 h
    refine z_aload_n (pc := 7) (q := 0) dJ0_charAt_5068e_7 rfl rfl ?_
    refine z_strV (pc := 8) 1 dJ0_charAt_5068e_8 zs_J0_9 (by decide) ?_
    refine z_iload_n (pc := 11) (q := 1) dJ0_charAt_5068e_11 rfl rfl ?_
    obtain ⟨r7, T6, q5, h⟩ := zb_some h
    refine z_callSi (pc := 12) (st := []) [.ref 1011, .int x1] dJ0_charAt_5068e_12 zm_J0_495 zM_J1_charAt_3b067 (by decide) (w_J1_charAt_3b067_R_1011 l q5) rfl rfl (Nat.le_of_ble_eq_true rfl) ?_
    obtain ⟨c8, h⟩ := zg_some h
    obtain ⟨rfl, rfl⟩ := zr_some h
    exact z_bret dJ0_charAt_5068e_15 (zchr_n c8)
