def f_X2_clear_25  (S : zS) : Option zS :=
  zlet (zput S 25 0 0) fun T1 =>
  zlet (zput T1 25 1 0) fun T2 =>
  some T2
set_option maxRecDepth 100000 in
theorem w_X2_clear_25 (l : Launch)  {S : zS} {S1 : zS} (h : f_X2_clear_25 S = some S1) : zMet zLX l yX2_clear cX2_clear 1 none 1 [.ref 25] S none S1 := by
  unfold f_X2_clear_25 at h
  refine zMet.of (by decide +kernel) (Nat.le_of_ble_eq_true rfl) ?_
  show WA zLX l RX2 cX2_clear 1 none 1 none S1 0 [(0, .ref 25)] [] S
  refine z_aload_n (pc := 0) (q := 0) dX2_clear_0 rfl rfl ?_
  refine z_iconst (pc := 1) (v := 0) dX2_clear_1 zci_0 ?_
  obtain ⟨T1, eT1, h⟩ := zl_some h
  refine z_putI (pc := 2) dX2_clear_2 zp_X2_19 gX_25_0 rfl rfl eT1 ?_
  refine z_aload_n (pc := 5) (q := 0) dX2_clear_5 rfl rfl ?_
  refine z_iconst (pc := 6) (v := 0) dX2_clear_6 zci_0 ?_
  obtain ⟨T2, eT2, h⟩ := zl_some h
  refine z_putI (pc := 7) dX2_clear_7 zp_X2_23 gX_25_1 rfl rfl eT2 ?_
  cases h
  exact z_vret dX2_clear_10
def f_X4_clear_21_L33 : Nat → Int32 → zS → Option zS
  | 0, _, _ => none
  | n + 1, x1, S =>
    if x1 < 12 then
      if zin x1 12 then
      zlet (zput S 24 x1.toNatClampNeg 0) fun T3 =>
      zlet (x1 + 1) fun v4 =>
      (f_X4_clear_21_L33 n) v4 T3 else none
    else
      zlet (zput S 21 9 0) fun T2 =>
      zlet (zput T2 21 10 1) fun T3 =>
      zlet (zput T3 21 11 0) fun T4 =>
      zu (f_X2_clear_25 T4) fun T6 =>
      some T6
def f_X4_clear_21  (S : zS) : Option zS :=
  zlet (zput S 21 0 8) fun T1 =>
  zlet (zput T1 21 1 0) fun T2 =>
  zlet (zput T2 21 2 0) fun T3 =>
  zlet (zput T3 21 3 0) fun T4 =>
  zlet (zput T4 21 4 0) fun T5 =>
  zlet (zput T5 21 6 0) fun T6 =>
  f_X4_clear_21_L33 zN 0 T6
set_option maxRecDepth 100000 in
theorem w_X4_clear_21_L33 (l : Launch) {S1 : zS} : ∀ (n : Nat) (x1 : Int32) (S : zS), f_X4_clear_21_L33 n x1 S = some S1 → WA zLX l RX4 cX4_clear 2 none 2 none S1 33 [(0, .ref 21), (1, .int x1)] [] S := by
  intro n
  induction n with
  | zero =>
    intro x1 S h
    exact nomatch h
  | succ n ih =>
    intro x1 S h
    rw [f_X4_clear_21_L33] at h
    refine z_iload_n (pc := 33) (q := 1) dX4_clear_33 rfl rfl ?_
    refine z_aload_n (pc := 34) (q := 0) dX4_clear_34 rfl rfl ?_
    refine z_getR (pc := 35) dX4_clear_35 zf_X4_18 gX_21_8 ?_
    refine z_alen (pc := 38) (v := 12) dX4_clear_38 aX_24 (by decide) (by decide) ?_
    refine z_icmp_ge (pc := 39) (tgt := 55) dX4_clear_39 (by decide) (fun c1 => ?_) (fun c1 => ?_)
    · have h := ze_some c1 h
      refine z_aload_n (pc := 55) (q := 0) dX4_clear_55 rfl rfl ?_
      refine z_iconst (pc := 56) (v := 0) dX4_clear_56 zci_0 ?_
      obtain ⟨T2, eT2, h⟩ := zl_some h
      refine z_putI (pc := 57) dX4_clear_57 zp_X4_57 gX_21_9 rfl rfl eT2 ?_
      refine z_aload_n (pc := 60) (q := 0) dX4_clear_60 rfl rfl ?_
      refine z_iconst (pc := 61) (v := 1) dX4_clear_61 zci_1 ?_
      obtain ⟨T3, eT3, h⟩ := zl_some h
      refine z_putI (pc := 62) dX4_clear_62 zp_X4_60 gX_21_10 rfl rfl eT3 ?_
      refine z_aload_n (pc := 65) (q := 0) dX4_clear_65 rfl rfl ?_
      refine z_iconst (pc := 66) (v := 0) dX4_clear_66 zci_0 ?_
      obtain ⟨T4, eT4, h⟩ := zl_some h
      refine z_putI (pc := 67) dX4_clear_67 zp_X4_63 gX_21_11 rfl rfl eT4 ?_
      refine z_aload_n (pc := 70) (q := 0) dX4_clear_70 rfl rfl ?_
      refine z_getR (pc := 71) dX4_clear_71 zf_X4_24 gX_21_12 ?_
      obtain ⟨T6, q5, h⟩ := zu_some h
      refine z_callVv (pc := 74) (st := []) [] dX4_clear_74 zm_X4_66 zM_X2_clear (by decide) oX_25 rfl (w_X2_clear_25 l q5) rfl rfl (Nat.le_of_ble_eq_true rfl) ?_
      cases h
      exact z_vret dX4_clear_77
    · have h := zt_some c1 h
      refine z_aload_n (pc := 42) (q := 0) dX4_clear_42 rfl rfl ?_
      refine z_getR (pc := 43) dX4_clear_43 zf_X4_18 gX_21_8 ?_
      refine z_iload_n (pc := 46) (q := 1) dX4_clear_46 rfl rfl ?_
      refine z_iconst (pc := 47) (v := 0) dX4_clear_47 zci_0 ?_
      obtain ⟨c2, h⟩ := zg_some h
      obtain ⟨T3, eT3, h⟩ := zl_some h
      refine z_iast (pc := 48) dX4_clear_48 aX_24 c2 eT3 ?_
      obtain ⟨v4, ev4, h⟩ := zl_some h
      refine z_iinc (pc := 49) (q := 1) (v := v4) (lo' := [(1, .int v4), (0, .ref 21)]) dX4_clear_49 rfl (by rw [ev4, zci_1]) (by decide) rfl ?_
      refine z_goto (pc := 52) (tgt := 33) dX4_clear_52 (by decide) ?_
      exact z_sub [1, 0] rfl (ih v4 T3 h)
set_option maxRecDepth 100000 in
theorem w_X4_clear_21 (l : Launch)  {S : zS} {S1 : zS} (h : f_X4_clear_21 S = some S1) : zMet zLX l yX4_clear cX4_clear 2 none 2 [.ref 21] S none S1 := by
  unfold f_X4_clear_21 at h
  refine zMet.of (by decide +kernel) (Nat.le_of_ble_eq_true rfl) ?_
  show WA zLX l RX4 cX4_clear 2 none 2 none S1 0 [(0, .ref 21)] [] S
  refine z_aload_n (pc := 0) (q := 0) dX4_clear_0 rfl rfl ?_
  refine z_bipush (pc := 1) (v := 8) dX4_clear_1 zcb_8 ?_
  obtain ⟨T1, eT1, h⟩ := zl_some h
  refine z_putI (pc := 3) dX4_clear_3 zp_X4_38 gX_21_0 rfl rfl eT1 ?_
  refine z_aload_n (pc := 6) (q := 0) dX4_clear_6 rfl rfl ?_
  refine z_iconst (pc := 7) (v := 0) dX4_clear_7 zci_0 ?_
  obtain ⟨T2, eT2, h⟩ := zl_some h
  refine z_putI (pc := 8) dX4_clear_8 zp_X4_42 gX_21_1 rfl rfl eT2 ?_
  refine z_aload_n (pc := 11) (q := 0) dX4_clear_11 rfl rfl ?_
  refine z_iconst (pc := 12) (v := 0) dX4_clear_12 zci_0 ?_
  obtain ⟨T3, eT3, h⟩ := zl_some h
  refine z_putI (pc := 13) dX4_clear_13 zp_X4_45 gX_21_2 rfl rfl eT3 ?_
  refine z_aload_n (pc := 16) (q := 0) dX4_clear_16 rfl rfl ?_
  refine z_iconst (pc := 17) (v := 0) dX4_clear_17 zci_0 ?_
  obtain ⟨T4, eT4, h⟩ := zl_some h
  refine z_putI (pc := 18) dX4_clear_18 zp_X4_48 gX_21_3 rfl rfl eT4 ?_
  refine z_aload_n (pc := 21) (q := 0) dX4_clear_21 rfl rfl ?_
  refine z_iconst (pc := 22) (v := 0) dX4_clear_22 zci_0 ?_
  obtain ⟨T5, eT5, h⟩ := zl_some h
  refine z_putI (pc := 23) dX4_clear_23 zp_X4_51 gX_21_4 rfl rfl eT5 ?_
  refine z_aload_n (pc := 26) (q := 0) dX4_clear_26 rfl rfl ?_
  refine z_iconst (pc := 27) (v := 0) dX4_clear_27 zci_0 ?_
  obtain ⟨T6, eT6, h⟩ := zl_some h
  refine z_putI (pc := 28) dX4_clear_28 zp_X4_54 gX_21_6 rfl rfl eT6 ?_
  refine z_iconst (pc := 31) (v := 0) dX4_clear_31 zci_0 ?_
  refine z_istore_n (pc := 32) (lo' := [(1, .int 0), (0, .ref 21)]) dX4_clear_32 rfl (by decide) rfl ?_
  exact z_sub [1, 0] rfl (w_X4_clear_21_L33 l zN 0 T6 h)
def f_J0_isLatin1_aae02_1000  (S : zS) : Option (Int32 × zS) :=
  if (1 : Int32) = 0 then
    some (0, S)
  else
    if (0 : Int32) = 0 then
      some (1, S)
    else
      some (0, S)
set_option maxRecDepth 100000 in
theorem w_J0_isLatin1_aae02_1000 (l : Launch)  {S : zS} {r : Int32} {S1 : zS} (h : f_J0_isLatin1_aae02_1000 S = some (r, S1)) : zMet zLX l yJ0_isLatin1_aae02 cJ0_isLatin1_aae02 1 (some .boolean) 1 [.ref 1000] S (some (.int r)) S1 := by
  unfold f_J0_isLatin1_aae02_1000 at h
  refine zMet.of (by decide +kernel) (Nat.le_of_ble_eq_true rfl) ?_
  show WA zLX l RJ0 cJ0_isLatin1_aae02 1 (some .boolean) 1 (some (.int r)) S1 0 [(0, .ref 1000)] [] S
  refine z_strK (pc := 0) dJ0_isLatin1_aae02_0 zs_J0_38 ?_
  refine z_if_eq (pc := 3) (tgt := 17) dJ0_isLatin1_aae02_3 (by decide) (fun c1 => ?_) (fun c1 => ?_)
  · have h := zt_some c1 h
    refine z_iconst (pc := 17) (v := 0) dJ0_isLatin1_aae02_17 zci_0 ?_
    obtain ⟨rfl, rfl⟩ := zr_some h
    exact z_zret dJ0_isLatin1_aae02_18 rfl
  · have h := ze_some c1 h
    refine z_aload_n (pc := 6) (q := 0) dJ0_isLatin1_aae02_6 rfl rfl ?_
    refine z_strC (pc := 7) 0 dJ0_isLatin1_aae02_7 zs_J0_15 (by decide) ?_
    refine z_if_ne (pc := 10) (tgt := 17) dJ0_isLatin1_aae02_10 (by decide) (fun c2 => ?_) (fun c2 => ?_)
    · have h := ze_some c2 h
      refine z_iconst (pc := 17) (v := 0) dJ0_isLatin1_aae02_17 zci_0 ?_
      obtain ⟨rfl, rfl⟩ := zr_some h
      exact z_zret dJ0_isLatin1_aae02_18 rfl
    · have h := zt_some c2 h
      refine z_iconst (pc := 13) (v := 1) dJ0_isLatin1_aae02_13 zci_1 ?_
      refine z_goto (pc := 14) (tgt := 18) dJ0_isLatin1_aae02_14 (by decide) ?_
      obtain ⟨rfl, rfl⟩ := zr_some h
      exact z_zret dJ0_isLatin1_aae02_18 rfl
def f_J0_coder_7d493_1000  (S : zS) : Option (Int32 × zS) :=
  if (1 : Int32) = 0 then
    some (1, S)
  else
    some (0, S)
set_option maxRecDepth 100000 in
theorem w_J0_coder_7d493_1000 (l : Launch)  {S : zS} {r : Int32} {S1 : zS} (h : f_J0_coder_7d493_1000 S = some (r, S1)) : zMet zLX l yJ0_coder_7d493 cJ0_coder_7d493 1 (some .byte) 1 [.ref 1000] S (some (.int r)) S1 := by
  unfold f_J0_coder_7d493_1000 at h
  refine zMet.of (by decide +kernel) (Nat.le_of_ble_eq_true rfl) ?_
  show WA zLX l RJ0 cJ0_coder_7d493 1 (some .byte) 1 (some (.int r)) S1 0 [(0, .ref 1000)] [] S
  refine z_strK (pc := 0) dJ0_coder_7d493_0 zs_J0_38 ?_
  refine z_if_eq (pc := 3) (tgt := 13) dJ0_coder_7d493_3 (by decide) (fun c1 => ?_) (fun c1 => ?_)
  · have h := zt_some c1 h
    refine z_iconst (pc := 13) (v := 1) dJ0_coder_7d493_13 zci_1 ?_
    obtain ⟨rfl, rfl⟩ := zr_some h
    exact z_bret dJ0_coder_7d493_14 rfl
  · have h := ze_some c1 h
    refine z_aload_n (pc := 6) (q := 0) dJ0_coder_7d493_6 rfl rfl ?_
    refine z_strC (pc := 7) 0 dJ0_coder_7d493_7 zs_J0_15 (by decide) ?_
    refine z_goto (pc := 10) (tgt := 14) dJ0_coder_7d493_10 (by decide) ?_
    obtain ⟨rfl, rfl⟩ := zr_some h
    exact z_bret dJ0_coder_7d493_14 rfl
def f_J0_length_8abf5_1000  (S : zS) : Option (Int32 × zS) :=
  zb (f_J0_coder_7d493_1000 S) fun r3 T2 =>
  some (11 >>> (r3 &&& 31), T2)
set_option maxRecDepth 100000 in
theorem w_J0_length_8abf5_1000 (l : Launch)  {S : zS} {r : Int32} {S1 : zS} (h : f_J0_length_8abf5_1000 S = some (r, S1)) : zMet zLX l yJ0_length_8abf5 cJ0_length_8abf5 1 (some .int) 2 [.ref 1000] S (some (.int r)) S1 := by
  unfold f_J0_length_8abf5_1000 at h
  refine zMet.of (by decide +kernel) (Nat.le_of_ble_eq_true rfl) ?_
  show WA zLX l RJ0 cJ0_length_8abf5 1 (some .int) 2 (some (.int r)) S1 0 [(0, .ref 1000)] [] S
  refine z_aload_n (pc := 0) (q := 0) dJ0_length_8abf5_0 rfl rfl ?_
  refine z_strV (pc := 1) 0 dJ0_length_8abf5_1 zs_J0_9 (by decide) ?_
  refine z_strL (pc := 4) (v := 11) 0 dJ0_length_8abf5_4 (by decide) (by decide) ?_
  refine z_aload_n (pc := 5) (q := 0) dJ0_length_8abf5_5 rfl rfl ?_
  obtain ⟨r3, T2, q1, h⟩ := zb_some h
  refine z_callVS (pc := 6) (st := [.int 11]) 0 [] dJ0_length_8abf5_6 zm_J0_335 zM_J0_coder_7d493 (by decide) (by decide) rfl (w_J0_coder_7d493_1000 l q1) rfl rfl (Nat.le_of_ble_eq_true rfl) ?_
  refine z_ishr (pc := 9) dJ0_length_8abf5_9 ?_
  obtain ⟨rfl, rfl⟩ := zr_some h
  exact z_iret dJ0_length_8abf5_10
def f_J1_canEncode_9a6ad (x0 : Int32) (S : zS) : Option (Int32 × zS) :=
  if x0 < 0 then
    some (0, S)
  else
    if (255 : Int32) < x0 then
      some (0, S)
    else
      some (1, S)
set_option maxRecDepth 100000 in
theorem w_J1_canEncode_9a6ad (l : Launch) {x0 : Int32} {S : zS} {r : Int32} {S1 : zS} (h : f_J1_canEncode_9a6ad x0 S = some (r, S1)) : zMet zLX l yJ1_canEncode_9a6ad cJ1_canEncode_9a6ad 1 (some .boolean) 1 [.int x0] S (some (.int r)) S1 := by
  unfold f_J1_canEncode_9a6ad at h
  refine zMet.of (by decide +kernel) (Nat.le_of_ble_eq_true rfl) ?_
  show WA zLX l RJ1 cJ1_canEncode_9a6ad 1 (some .boolean) 1 (some (.int r)) S1 0 [(0, .int x0)] [] S
  refine z_iload_n (pc := 0) (q := 0) dJ1_canEncode_9a6ad_0 rfl rfl ?_
  refine z_if_lt (pc := 1) (tgt := 15) dJ1_canEncode_9a6ad_1 (by decide) (fun c1 => ?_) (fun c1 => ?_)
  · have h := zt_some c1 h
    refine z_iconst (pc := 15) (v := 0) dJ1_canEncode_9a6ad_15 zci_0 ?_
    obtain ⟨rfl, rfl⟩ := zr_some h
    exact z_zret dJ1_canEncode_9a6ad_16 rfl
  · have h := ze_some c1 h
    refine z_iload_n (pc := 4) (q := 0) dJ1_canEncode_9a6ad_4 rfl rfl ?_
    refine z_sipush (pc := 5) (v := 255) dJ1_canEncode_9a6ad_5 zcs_255 ?_
    refine z_icmp_gt (pc := 8) (tgt := 15) dJ1_canEncode_9a6ad_8 (by decide) (fun c2 => ?_) (fun c2 => ?_)
    · have h := zt_some c2 h
      refine z_iconst (pc := 15) (v := 0) dJ1_canEncode_9a6ad_15 zci_0 ?_
      obtain ⟨rfl, rfl⟩ := zr_some h
      exact z_zret dJ1_canEncode_9a6ad_16 rfl
    · have h := ze_some c2 h
      refine z_iconst (pc := 11) (v := 1) dJ1_canEncode_9a6ad_11 zci_1 ?_
      refine z_goto (pc := 12) (tgt := 16) dJ1_canEncode_9a6ad_12 (by decide) ?_
      obtain ⟨rfl, rfl⟩ := zr_some h
      exact z_zret dJ1_canEncode_9a6ad_16 rfl
def f_J1_indexOfChar_4cfef_1010_L7 : Nat → Int32 → Int32 → Int32 → zS → Option (Int32 × zS)
  | 0, _, _, _, _ => none
  | n + 1, x3, x4, x5, S =>
    if x5 < x3 then
      if zin x5 11 then
      if (zsby 0 x5) = x4 then
        some (x5, S)
      else
        zlet (x5 + 1) fun v4 =>
        (f_J1_indexOfChar_4cfef_1010_L7 n) x3 x4 v4 S else none
    else
      some ((-1), S)
def f_J1_indexOfChar_4cfef_1010 (x1 : Int32) (x2 : Int32) (x3 : Int32) (S : zS) : Option (Int32 × zS) :=
  zlet ((Int32.toInt8 x1).toInt32) fun v1 =>
  f_J1_indexOfChar_4cfef_1010_L7 zN x3 v1 x2 S
set_option maxRecDepth 100000 in
theorem w_J1_indexOfChar_4cfef_1010_L7 (l : Launch) {r : Int32} {S1 : zS} : ∀ (n : Nat) (x3 : Int32) (x4 : Int32) (x5 : Int32) (S : zS), f_J1_indexOfChar_4cfef_1010_L7 n x3 x4 x5 S = some (r, S1) → WA zLX l RJ1 cJ1_indexOfChar_4cfef 6 (some .int) 1 (some (.int r)) S1 7 [(0, .ref 1010), (3, .int x3), (4, .int x4), (5, .int x5)] [] S := by
  intro n
  induction n with
  | zero =>
    intro x3 x4 x5 S h
    exact nomatch h
  | succ n ih =>
    intro x3 x4 x5 S h
    rw [f_J1_indexOfChar_4cfef_1010_L7] at h
    refine z_iload (pc := 7) (q := 3) dJ1_indexOfChar_4cfef_7 rfl ?_
    refine z_iload_n (pc := 9) (q := 1) dJ1_indexOfChar_4cfef_9 rfl rfl ?_
    refine z_icmp_ge (pc := 10) (tgt := 31) dJ1_indexOfChar_4cfef_10 (by decide) (fun c1 => ?_) (fun c1 => ?_)
    · have h := ze_some c1 h
      refine z_iconst (pc := 31) (v := (-1)) dJ1_indexOfChar_4cfef_31 zci_m1 ?_
      obtain ⟨rfl, rfl⟩ := zr_some h
      exact z_iret dJ1_indexOfChar_4cfef_32
    · have h := zt_some c1 h
      refine z_aload_n (pc := 13) (q := 0) dJ1_indexOfChar_4cfef_13 rfl rfl ?_
      refine z_iload (pc := 14) (q := 3) dJ1_indexOfChar_4cfef_14 rfl ?_
      obtain ⟨c2, h⟩ := zg_some h
      refine z_strB (pc := 16) 0 dJ1_indexOfChar_4cfef_16 (by decide) c2 ?_
      refine z_iload (pc := 17) (q := 2) dJ1_indexOfChar_4cfef_17 rfl ?_
      refine z_icmp_ne (pc := 19) (tgt := 25) dJ1_indexOfChar_4cfef_19 (by decide) (fun c3 => ?_) (fun c3 => ?_)
      · have h := ze_some c3 h
        obtain ⟨v4, ev4, h⟩ := zl_some h
        refine z_iinc (pc := 25) (q := 3) (v := v4) (lo' := [(5, .int v4), (0, .ref 1010), (3, .int x3), (4, .int x4)]) dJ1_indexOfChar_4cfef_25 rfl (by rw [ev4, zci_1]) (by decide) rfl ?_
        refine z_goto (pc := 28) (tgt := 7) dJ1_indexOfChar_4cfef_28 (by decide) ?_
        exact z_sub [1, 2, 3, 0] rfl (ih x3 x4 v4 S h)
      · have h := zt_some c3 h
        refine z_iload (pc := 22) (q := 3) dJ1_indexOfChar_4cfef_22 rfl ?_
        obtain ⟨rfl, rfl⟩ := zr_some h
        exact z_iret dJ1_indexOfChar_4cfef_24
set_option maxRecDepth 100000 in
theorem w_J1_indexOfChar_4cfef_1010 (l : Launch) {x1 : Int32} {x2 : Int32} {x3 : Int32} {S : zS} {r : Int32} {S1 : zS} (h : f_J1_indexOfChar_4cfef_1010 x1 x2 x3 S = some (r, S1)) : zMet zLX l yJ1_indexOfChar_4cfef cJ1_indexOfChar_4cfef 6 (some .int) 1 [.ref 1010, .int x1, .int x2, .int x3] S (some (.int r)) S1 := by
  unfold f_J1_indexOfChar_4cfef_1010 at h
  refine zMet.of (by decide +kernel) (Nat.le_of_ble_eq_true rfl) ?_
  show WA zLX l RJ1 cJ1_indexOfChar_4cfef 6 (some .int) 1 (some (.int r)) S1 0 [(0, .ref 1010), (1, .int x1), (2, .int x2), (3, .int x3)] [] S
  refine z_iload_n (pc := 0) (q := 1) dJ1_indexOfChar_4cfef_0 rfl rfl ?_
  refine z_i2b (pc := 1) dJ1_indexOfChar_4cfef_1 ?_
  obtain ⟨v1, ev1, h⟩ := zl_some h
  refine z_top ev1 ?_
  refine z_istore (pc := 2) (lo' := [(4, .int v1), (0, .ref 1010), (1, .int x1), (2, .int x2), (3, .int x3)]) dJ1_indexOfChar_4cfef_2 (by decide) rfl ?_
  refine z_iload_n (pc := 4) (q := 3) dJ1_indexOfChar_4cfef_4 rfl rfl ?_
  refine z_istore (pc := 5) (lo' := [(5, .int x2), (4, .int v1), (0, .ref 1010), (1, .int x1), (2, .int x2), (3, .int x3)]) dJ1_indexOfChar_4cfef_5 (by decide) rfl ?_
  exact z_sub [2, 5, 1, 0] rfl (w_J1_indexOfChar_4cfef_1010_L7 l zN x3 v1 x2 S h)
def f_J1_indexOf_4cfef_1010 (x1 : Int32) (x2 : Int32) (x3 : Int32) (S : zS) : Option (Int32 × zS) :=
  zb (f_J1_canEncode_9a6ad x1 S) fun r3 T2 =>
  if r3 = 0 then
    some ((-1), T2)
  else
    zlet (zmax x2 0) fun v5 =>
    zlet (zmin x3 11) fun v6 =>
    if v5 < v6 then
      zb (f_J1_indexOfChar_4cfef_1010 x1 v5 v6 T2) fun r10 T9 =>
      some (r10, T9)
    else
      some ((-1), T2)
set_option maxRecDepth 100000 in
theorem w_J1_indexOf_4cfef_1010 (l : Launch) {x1 : Int32} {x2 : Int32} {x3 : Int32} {S : zS} {r : Int32} {S1 : zS} (h : f_J1_indexOf_4cfef_1010 x1 x2 x3 S = some (r, S1)) : zMet zLX l yJ1_indexOf_4cfef cJ1_indexOf_4cfef 4 (some .int) 2 [.ref 1010, .int x1, .int x2, .int x3] S (some (.int r)) S1 := by
  unfold f_J1_indexOf_4cfef_1010 at h
  refine zMet.of (by decide +kernel) (Nat.le_of_ble_eq_true rfl) ?_
  show WA zLX l RJ1 cJ1_indexOf_4cfef 4 (some .int) 2 (some (.int r)) S1 0 [(0, .ref 1010), (1, .int x1), (2, .int x2), (3, .int x3)] [] S
  refine z_iload_n (pc := 0) (q := 1) dJ1_indexOf_4cfef_0 rfl rfl ?_
  obtain ⟨r3, T2, q1, h⟩ := zb_some h
  refine z_callSi (pc := 1) (st := []) [.int x1] dJ1_indexOf_4cfef_1 zm_J1_88 zM_J1_canEncode_9a6ad (by decide) (w_J1_canEncode_9a6ad l q1) rfl rfl (Nat.le_of_ble_eq_true rfl) ?_
  refine z_if_ne (pc := 4) (tgt := 9) dJ1_indexOf_4cfef_4 (by decide) (fun c4 => ?_) (fun c4 => ?_)
  · have h := ze_some c4 h
    refine z_iload_n (pc := 9) (q := 2) dJ1_indexOf_4cfef_9 rfl rfl ?_
    refine z_iconst (pc := 10) (v := 0) dJ1_indexOf_4cfef_10 zci_0 ?_
    refine z_max (pc := 11) dJ1_indexOf_4cfef_11 zm_J1_92 zM_max.1 zM_max.2.1 zM_max.2.2 (by decide) (Nat.le_of_ble_eq_true rfl) ?_
    obtain ⟨v5, ev5, h⟩ := zl_some h
    refine z_top ev5 ?_
    refine z_istore_n (pc := 14) (lo' := [(2, .int v5), (0, .ref 1010), (1, .int x1), (3, .int x3)]) dJ1_indexOf_4cfef_14 rfl (by decide) rfl ?_
    refine z_iload_n (pc := 15) (q := 3) dJ1_indexOf_4cfef_15 rfl rfl ?_
    refine z_aload_n (pc := 16) (q := 1) dJ1_indexOf_4cfef_16 rfl rfl ?_
    refine z_strL (pc := 17) (v := 11) 0 dJ1_indexOf_4cfef_17 (by decide) (by decide) ?_
    refine z_min (pc := 18) dJ1_indexOf_4cfef_18 zm_J1_38 zM_min.1 zM_min.2.1 zM_min.2.2 (by decide) (Nat.le_of_ble_eq_true rfl) ?_
    obtain ⟨v6, ev6, h⟩ := zl_some h
    refine z_top ev6 ?_
    refine z_istore_n (pc := 21) (lo' := [(3, .int v6), (2, .int v5), (0, .ref 1010), (1, .int x1)]) dJ1_indexOf_4cfef_21 rfl (by decide) rfl ?_
    refine z_iload_n (pc := 22) (q := 1) dJ1_indexOf_4cfef_22 rfl rfl ?_
    refine z_iload_n (pc := 23) (q := 0) dJ1_indexOf_4cfef_23 rfl rfl ?_
    refine z_icmp_lt (pc := 24) (tgt := 29) dJ1_indexOf_4cfef_24 (by decide) (fun c7 => ?_) (fun c7 => ?_)
    · have h := zt_some c7 h
      refine z_aload_n (pc := 29) (q := 2) dJ1_indexOf_4cfef_29 rfl rfl ?_
      refine z_iload_n (pc := 30) (q := 3) dJ1_indexOf_4cfef_30 rfl rfl ?_
      refine z_iload_n (pc := 31) (q := 1) dJ1_indexOf_4cfef_31 rfl rfl ?_
      refine z_iload_n (pc := 32) (q := 0) dJ1_indexOf_4cfef_32 rfl rfl ?_
      obtain ⟨r10, T9, q8, h⟩ := zb_some h
      refine z_callSi (pc := 33) (st := []) [.ref 1010, .int x1, .int v5, .int v6] dJ1_indexOf_4cfef_33 zm_J1_95 zM_J1_indexOfChar_4cfef (by decide) (w_J1_indexOfChar_4cfef_1010 l q8) rfl rfl (Nat.le_of_ble_eq_true rfl) ?_
      obtain ⟨rfl, rfl⟩ := zr_some h
      exact z_iret dJ1_indexOf_4cfef_36
    · have h := ze_some c7 h
      refine z_iconst (pc := 27) (v := (-1)) dJ1_indexOf_4cfef_27 zci_m1 ?_
      obtain ⟨rfl, rfl⟩ := zr_some h
      exact z_iret dJ1_indexOf_4cfef_28
  · have h := zt_some c4 h
    refine z_iconst (pc := 7) (v := (-1)) dJ1_indexOf_4cfef_7 zci_m1 ?_
    obtain ⟨rfl, rfl⟩ := zr_some h
    exact z_iret dJ1_indexOf_4cfef_8
def f_J0_indexOf_7cf53_1000 (x1 : Int32) (x2 : Int32) (S : zS) : Option (Int32 × zS) :=
  zb (f_J0_isLatin1_aae02_1000 S) fun r3 T2 =>
  if r3 = 0 then
    zb (f_J0_length_8abf5_1000 T2) fun r7 T6 =>
    none
  else
    zb (f_J0_length_8abf5_1000 T2) fun r7 T6 =>
    zb (f_J1_indexOf_4cfef_1010 x1 x2 r7 T6) fun r10 T9 =>
    some (r10, T9)
set_option maxRecDepth 100000 in
theorem w_J0_indexOf_7cf53_1000 (l : Launch) {x1 : Int32} {x2 : Int32} {S : zS} {r : Int32} {S1 : zS} (h : f_J0_indexOf_7cf53_1000 x1 x2 S = some (r, S1)) : zMet zLX l yJ0_indexOf_7cf53 cJ0_indexOf_7cf53 3 (some .int) 3 [.ref 1000, .int x1, .int x2] S (some (.int r)) S1 := by
  unfold f_J0_indexOf_7cf53_1000 at h
  refine zMet.of (by decide +kernel) (Nat.le_of_ble_eq_true rfl) ?_
  show WA zLX l RJ0 cJ0_indexOf_7cf53 3 (some .int) 3 (some (.int r)) S1 0 [(0, .ref 1000), (1, .int x1), (2, .int x2)] [] S
  refine z_aload_n (pc := 0) (q := 0) dJ0_indexOf_7cf53_0 rfl rfl ?_
  obtain ⟨r3, T2, q1, h⟩ := zb_some h
  refine z_callVS (pc := 1) (st := []) 0 [] dJ0_indexOf_7cf53_1 zm_J0_492 zM_J0_isLatin1_aae02 (by decide) (by decide) rfl (w_J0_isLatin1_aae02_1000 l q1) rfl rfl (Nat.le_of_ble_eq_true rfl) ?_
  refine z_if_eq (pc := 4) (tgt := 23) dJ0_indexOf_7cf53_4 (by decide) (fun c4 => ?_) (fun c4 => ?_)
  · have h := zt_some c4 h
    refine z_aload_n (pc := 23) (q := 0) dJ0_indexOf_7cf53_23 rfl rfl ?_
    refine z_strV (pc := 24) 0 dJ0_indexOf_7cf53_24 zs_J0_9 (by decide) ?_
    refine z_iload_n (pc := 27) (q := 1) dJ0_indexOf_7cf53_27 rfl rfl ?_
    refine z_iload_n (pc := 28) (q := 2) dJ0_indexOf_7cf53_28 rfl rfl ?_
    refine z_aload_n (pc := 29) (q := 0) dJ0_indexOf_7cf53_29 rfl rfl ?_
    obtain ⟨r7, T6, q5, h⟩ := zb_some h
    refine z_callVS (pc := 30) (st := [.int x2, .int x1, .ref 1010]) 0 [] dJ0_indexOf_7cf53_30 zm_J0_505 zM_J0_length_8abf5 (by decide) (by decide) rfl (w_J0_length_8abf5_1000 l q5) rfl rfl (Nat.le_of_ble_eq_true rfl) ?_
    exact nomatch h
  · have h := ze_some c4 h
    refine z_aload_n (pc := 7) (q := 0) dJ0_indexOf_7cf53_7 rfl rfl ?_
    refine z_strV (pc := 8) 0 dJ0_indexOf_7cf53_8 zs_J0_9 (by decide) ?_
    refine z_iload_n (pc := 11) (q := 1) dJ0_indexOf_7cf53_11 rfl rfl ?_
    refine z_iload_n (pc := 12) (q := 2) dJ0_indexOf_7cf53_12 rfl rfl ?_
    refine z_aload_n (pc := 13) (q := 0) dJ0_indexOf_7cf53_13 rfl rfl ?_
    obtain ⟨r7, T6, q5, h⟩ := zb_some h
    refine z_callVS (pc := 14) (st := [.int x2, .int x1, .ref 1010]) 0 [] dJ0_indexOf_7cf53_14 zm_J0_505 zM_J0_length_8abf5 (by decide) (by decide) rfl (w_J0_length_8abf5_1000 l q5) rfl rfl (Nat.le_of_ble_eq_true rfl) ?_
    obtain ⟨r10, T9, q8, h⟩ := zb_some h
    refine z_callSi (pc := 17) (st := []) [.ref 1010, .int x1, .int x2, .int r7] dJ0_indexOf_7cf53_17 zm_J0_637 zM_J1_indexOf_4cfef (by decide) (w_J1_indexOf_4cfef_1010 l q8) rfl rfl (Nat.le_of_ble_eq_true rfl) ?_
    refine z_goto (pc := 20) (tgt := 36) dJ0_indexOf_7cf53_20 (by decide) ?_
    obtain ⟨rfl, rfl⟩ := zr_some h
    exact z_iret dJ0_indexOf_7cf53_36
def f_J0_indexOf_0f7a4_1000 (x1 : Int32) (S : zS) : Option (Int32 × zS) :=
  zb (f_J0_indexOf_7cf53_1000 x1 0 S) fun r3 T2 =>
  some (r3, T2)
set_option maxRecDepth 100000 in
theorem w_J0_indexOf_0f7a4_1000 (l : Launch) {x1 : Int32} {S : zS} {r : Int32} {S1 : zS} (h : f_J0_indexOf_0f7a4_1000 x1 S = some (r, S1)) : zMet zLX l yJ0_indexOf_0f7a4 cJ0_indexOf_0f7a4 2 (some .int) 4 [.ref 1000, .int x1] S (some (.int r)) S1 := by
  unfold f_J0_indexOf_0f7a4_1000 at h
  refine zMet.of (by decide +kernel) (Nat.le_of_ble_eq_true rfl) ?_
  show WA zLX l RJ0 cJ0_indexOf_0f7a4 2 (some .int) 4 (some (.int r)) S1 0 [(0, .ref 1000), (1, .int x1)] [] S
  refine z_aload_n (pc := 0) (q := 0) dJ0_indexOf_0f7a4_0 rfl rfl ?_
  refine z_iload_n (pc := 1) (q := 1) dJ0_indexOf_0f7a4_1 rfl rfl ?_
  refine z_iconst (pc := 2) (v := 0) dJ0_indexOf_0f7a4_2 zci_0 ?_
  obtain ⟨r3, T2, q1, h⟩ := zb_some h
  refine z_callVS (pc := 3) (st := []) 0 [.int x1, .int 0] dJ0_indexOf_0f7a4_3 zm_J0_633 zM_J0_indexOf_7cf53 (by decide) (by decide) rfl (w_J0_indexOf_7cf53_1000 l q1) rfl rfl (Nat.le_of_ble_eq_true rfl) ?_
  obtain ⟨rfl, rfl⟩ := zr_some h
  exact z_iret dJ0_indexOf_0f7a4_6
def f_X7_stepNumber_2_B149 (s0 : Int32) (S : zS) : Option zS :=
  zlet (zput S 2 6 s0) fun T1 =>
  some T1
def f_X7_stepNumber_2_B125 (s0 : Int32) (S : zS) : Option zS :=
  if s0 = 0 then
    if (4 : Int32) < ((S.1 2 5) - (S.1 2 4)) then
      f_X7_stepNumber_2_B149 4 S
    else
      f_X7_stepNumber_2_B149 2 S
  else
    f_X7_stepNumber_2_B149 4 S
def f_X7_stepNumber_2_B81  (S : zS) : Option zS :=
  if (S.1 2 5) < (S.1 2 3) then
    if zin (S.1 2 5) 1600 then
    if (S.1 1 (S.1 2 5).toNatClampNeg) < 97 then
      f_X7_stepNumber_2_B125 0 S
    else
      if zin (S.1 2 5) 1600 then
      if (122 : Int32) < (S.1 1 (S.1 2 5).toNatClampNeg) then
        f_X7_stepNumber_2_B125 0 S
      else
        f_X7_stepNumber_2_B125 1 S else none else none
  else
    f_X7_stepNumber_2_B125 0 S
def f_X7_stepNumber_2_L5 : Nat → zS → Option zS
  | 0, _ => none
  | n + 1, S =>
    if (S.1 2 5) < (S.1 2 3) then
      if zin (S.1 2 5) 1600 then
      if (S.1 1 (S.1 2 5).toNatClampNeg) < 48 then
        f_X7_stepNumber_2_B81 S
      else
        if zin (S.1 2 5) 1600 then
        if (57 : Int32) < (S.1 1 (S.1 2 5).toNatClampNeg) then
          f_X7_stepNumber_2_B81 S
        else
          if zin (S.1 2 5) 1600 then
          zlet (zput S 2 7 (((S.1 2 7) * 10) + ((S.1 1 (S.1 2 5).toNatClampNeg) - 48))) fun T7 =>
          zlet (zput T7 2 5 ((T7.1 2 5) + 1)) fun T8 =>
          (f_X7_stepNumber_2_L5 n) T8 else none else none else none
    else
      f_X7_stepNumber_2_B81 S
def f_X7_stepNumber_2  (S : zS) : Option zS :=
  zlet (zput S 2 7 0) fun T1 =>
  f_X7_stepNumber_2_L5 zN T1
set_option maxRecDepth 100000 in
theorem w_X7_stepNumber_2_B149 (l : Launch) {S1 : zS} (s0 : Int32) (S : zS) (h : f_X7_stepNumber_2_B149 s0 S = some S1) : WA zLX l RX7 cX7_stepNumber 2 none 1 none S1 149 [] [.int s0, .ref 2] S := by
  unfold f_X7_stepNumber_2_B149 at h
  obtain ⟨T1, eT1, h⟩ := zl_some h
  refine z_putI (pc := 149) dX7_stepNumber_149 zp_X7_68 gX_2_6 rfl rfl eT1 ?_
  cases h
  exact z_vret dX7_stepNumber_152
set_option maxRecDepth 100000 in
theorem w_X7_stepNumber_2_B125 (l : Launch) {S1 : zS} (s0 : Int32) (S : zS) (h : f_X7_stepNumber_2_B125 s0 S = some S1) : WA zLX l RX7 cX7_stepNumber 2 none 1 none S1 125 [(0, .ref 2)] [.int s0] S := by
  unfold f_X7_stepNumber_2_B125 at h
  refine z_istore_n (pc := 125) (lo' := [(1, .int s0), (0, .ref 2)]) dX7_stepNumber_125 rfl (by decide) rfl ?_
  refine z_aload_n (pc := 126) (q := 1) dX7_stepNumber_126 rfl rfl ?_
  refine z_iload_n (pc := 127) (q := 0) dX7_stepNumber_127 rfl rfl ?_
  refine z_if_ne (pc := 128) (tgt := 144) dX7_stepNumber_128 (by decide) (fun c1 => ?_) (fun c1 => ?_)
  · have h := ze_some c1 h
    refine z_iconst (pc := 144) (v := 4) dX7_stepNumber_144 zci_4 ?_
    refine z_goto (pc := 145) (tgt := 149) dX7_stepNumber_145 (by decide) ?_
    exact z_sub [] rfl (w_X7_stepNumber_2_B149 l 4 S h)
  · have h := zt_some c1 h
    refine z_aload_n (pc := 131) (q := 1) dX7_stepNumber_131 rfl rfl ?_
    refine z_getI (pc := 132) dX7_stepNumber_132 zf_X7_51 gX_2_5 ?_
    refine z_aload_n (pc := 135) (q := 1) dX7_stepNumber_135 rfl rfl ?_
    refine z_getI (pc := 136) dX7_stepNumber_136 zf_X7_182 gX_2_4 ?_
    refine z_isub (pc := 139) dX7_stepNumber_139 ?_
    refine z_iconst (pc := 140) (v := 4) dX7_stepNumber_140 zci_4 ?_
    refine z_icmp_le (pc := 141) (tgt := 148) dX7_stepNumber_141 (by decide) (fun c2 => ?_) (fun c2 => ?_)
    · have h := ze_some c2 h
      refine z_iconst (pc := 148) (v := 2) dX7_stepNumber_148 zci_2 ?_
      exact z_sub [] rfl (w_X7_stepNumber_2_B149 l 2 S h)
    · have h := zt_some c2 h
      refine z_iconst (pc := 144) (v := 4) dX7_stepNumber_144 zci_4 ?_
      refine z_goto (pc := 145) (tgt := 149) dX7_stepNumber_145 (by decide) ?_
      exact z_sub [] rfl (w_X7_stepNumber_2_B149 l 4 S h)
set_option maxRecDepth 100000 in
theorem w_X7_stepNumber_2_B81 (l : Launch) {S1 : zS}  (S : zS) (h : f_X7_stepNumber_2_B81 S = some S1) : WA zLX l RX7 cX7_stepNumber 2 none 1 none S1 81 [(0, .ref 2)] [] S := by
  unfold f_X7_stepNumber_2_B81 at h
  refine z_aload_n (pc := 81) (q := 0) dX7_stepNumber_81 rfl rfl ?_
  refine z_getI (pc := 82) dX7_stepNumber_82 zf_X7_51 gX_2_5 ?_
  refine z_aload_n (pc := 85) (q := 0) dX7_stepNumber_85 rfl rfl ?_
  refine z_getI (pc := 86) dX7_stepNumber_86 zf_X7_49 gX_2_3 ?_
  refine z_icmp_ge (pc := 89) (tgt := 124) dX7_stepNumber_89 (by decide) (fun c1 => ?_) (fun c1 => ?_)
  · have h := ze_some c1 h
    refine z_iconst (pc := 124) (v := 0) dX7_stepNumber_124 zci_0 ?_
    exact w_X7_stepNumber_2_B125 l 0 S h
  · have h := zt_some c1 h
    refine z_aload_n (pc := 92) (q := 0) dX7_stepNumber_92 rfl rfl ?_
    refine z_getR (pc := 93) dX7_stepNumber_93 zf_X7_17 gX_2_2 ?_
    refine z_aload_n (pc := 96) (q := 0) dX7_stepNumber_96 rfl rfl ?_
    refine z_getI (pc := 97) dX7_stepNumber_97 zf_X7_51 gX_2_5 ?_
    obtain ⟨c2, h⟩ := zg_some h
    refine z_bald (pc := 100) dX7_stepNumber_100 aX_1 c2 ?_
    refine z_bipush (pc := 101) (v := 97) dX7_stepNumber_101 zcb_97 ?_
    refine z_icmp_lt (pc := 103) (tgt := 124) dX7_stepNumber_103 (by decide) (fun c3 => ?_) (fun c3 => ?_)
    · have h := zt_some c3 h
      refine z_iconst (pc := 124) (v := 0) dX7_stepNumber_124 zci_0 ?_
      exact w_X7_stepNumber_2_B125 l 0 S h
    · have h := ze_some c3 h
      refine z_aload_n (pc := 106) (q := 0) dX7_stepNumber_106 rfl rfl ?_
      refine z_getR (pc := 107) dX7_stepNumber_107 zf_X7_17 gX_2_2 ?_
      refine z_aload_n (pc := 110) (q := 0) dX7_stepNumber_110 rfl rfl ?_
      refine z_getI (pc := 111) dX7_stepNumber_111 zf_X7_51 gX_2_5 ?_
      obtain ⟨c4, h⟩ := zg_some h
      refine z_bald (pc := 114) dX7_stepNumber_114 aX_1 c4 ?_
      refine z_bipush (pc := 115) (v := 122) dX7_stepNumber_115 zcb_122 ?_
      refine z_icmp_gt (pc := 117) (tgt := 124) dX7_stepNumber_117 (by decide) (fun c5 => ?_) (fun c5 => ?_)
      · have h := zt_some c5 h
        refine z_iconst (pc := 124) (v := 0) dX7_stepNumber_124 zci_0 ?_
        exact w_X7_stepNumber_2_B125 l 0 S h
      · have h := ze_some c5 h
        refine z_iconst (pc := 120) (v := 1) dX7_stepNumber_120 zci_1 ?_
        refine z_goto (pc := 121) (tgt := 125) dX7_stepNumber_121 (by decide) ?_
        exact w_X7_stepNumber_2_B125 l 1 S h
set_option maxRecDepth 100000 in
theorem w_X7_stepNumber_2_L5 (l : Launch) {S1 : zS} : ∀ (n : Nat)  (S : zS), f_X7_stepNumber_2_L5 n S = some S1 → WA zLX l RX7 cX7_stepNumber 2 none 1 none S1 5 [(0, .ref 2)] [] S := by
  intro n
  induction n with
  | zero =>
    intro  S h
    exact nomatch h
  | succ n ih =>
    intro  S h
    rw [f_X7_stepNumber_2_L5] at h
    refine z_aload_n (pc := 5) (q := 0) dX7_stepNumber_5 rfl rfl ?_
    refine z_getI (pc := 6) dX7_stepNumber_6 zf_X7_51 gX_2_5 ?_
    refine z_aload_n (pc := 9) (q := 0) dX7_stepNumber_9 rfl rfl ?_
    refine z_getI (pc := 10) dX7_stepNumber_10 zf_X7_49 gX_2_3 ?_
    refine z_icmp_ge (pc := 13) (tgt := 81) dX7_stepNumber_13 (by decide) (fun c1 => ?_) (fun c1 => ?_)
    · have h := ze_some c1 h
      exact w_X7_stepNumber_2_B81 l S h
    · have h := zt_some c1 h
      refine z_aload_n (pc := 16) (q := 0) dX7_stepNumber_16 rfl rfl ?_
      refine z_getR (pc := 17) dX7_stepNumber_17 zf_X7_17 gX_2_2 ?_
      refine z_aload_n (pc := 20) (q := 0) dX7_stepNumber_20 rfl rfl ?_
      refine z_getI (pc := 21) dX7_stepNumber_21 zf_X7_51 gX_2_5 ?_
      obtain ⟨c2, h⟩ := zg_some h
      refine z_bald (pc := 24) dX7_stepNumber_24 aX_1 c2 ?_
      refine z_bipush (pc := 25) (v := 48) dX7_stepNumber_25 zcb_48 ?_
      refine z_icmp_lt (pc := 27) (tgt := 81) dX7_stepNumber_27 (by decide) (fun c3 => ?_) (fun c3 => ?_)
      · have h := zt_some c3 h
        exact w_X7_stepNumber_2_B81 l S h
      · have h := ze_some c3 h
        refine z_aload_n (pc := 30) (q := 0) dX7_stepNumber_30 rfl rfl ?_
        refine z_getR (pc := 31) dX7_stepNumber_31 zf_X7_17 gX_2_2 ?_
        refine z_aload_n (pc := 34) (q := 0) dX7_stepNumber_34 rfl rfl ?_
        refine z_getI (pc := 35) dX7_stepNumber_35 zf_X7_51 gX_2_5 ?_
        obtain ⟨c4, h⟩ := zg_some h
        refine z_bald (pc := 38) dX7_stepNumber_38 aX_1 c4 ?_
        refine z_bipush (pc := 39) (v := 57) dX7_stepNumber_39 zcb_57 ?_
        refine z_icmp_gt (pc := 41) (tgt := 81) dX7_stepNumber_41 (by decide) (fun c5 => ?_) (fun c5 => ?_)
        · have h := zt_some c5 h
          exact w_X7_stepNumber_2_B81 l S h
        · have h := ze_some c5 h
          refine z_aload_n (pc := 44) (q := 0) dX7_stepNumber_44 rfl rfl ?_
          refine z_aload_n (pc := 45) (q := 0) dX7_stepNumber_45 rfl rfl ?_
          refine z_getI (pc := 46) dX7_stepNumber_46 zf_X7_88 gX_2_7 ?_
          refine z_bipush (pc := 49) (v := 10) dX7_stepNumber_49 zcb_10 ?_
          refine z_imul (pc := 51) dX7_stepNumber_51 ?_
          refine z_aload_n (pc := 52) (q := 0) dX7_stepNumber_52 rfl rfl ?_
          refine z_getR (pc := 53) dX7_stepNumber_53 zf_X7_17 gX_2_2 ?_
          refine z_aload_n (pc := 56) (q := 0) dX7_stepNumber_56 rfl rfl ?_
          refine z_getI (pc := 57) dX7_stepNumber_57 zf_X7_51 gX_2_5 ?_
          obtain ⟨c6, h⟩ := zg_some h
          refine z_bald (pc := 60) dX7_stepNumber_60 aX_1 c6 ?_
          refine z_bipush (pc := 61) (v := 48) dX7_stepNumber_61 zcb_48 ?_
          refine z_isub (pc := 63) dX7_stepNumber_63 ?_
          refine z_iadd (pc := 64) dX7_stepNumber_64 ?_
          obtain ⟨T7, eT7, h⟩ := zl_some h
          refine z_putI (pc := 65) dX7_stepNumber_65 zp_X7_88 gX_2_7 rfl rfl eT7 ?_
          refine z_aload_n (pc := 68) (q := 0) dX7_stepNumber_68 rfl rfl ?_
          refine z_dup (pc := 69) dX7_stepNumber_69 rfl ?_
          refine z_getI (pc := 70) dX7_stepNumber_70 zf_X7_51 gX_2_5 ?_
          refine z_iconst (pc := 73) (v := 1) dX7_stepNumber_73 zci_1 ?_
          refine z_iadd (pc := 74) dX7_stepNumber_74 ?_
          obtain ⟨T8, eT8, h⟩ := zl_some h
          refine z_putI (pc := 75) dX7_stepNumber_75 zp_X7_51 gX_2_5 rfl rfl eT8 ?_
          refine z_goto (pc := 78) (tgt := 5) dX7_stepNumber_78 (by decide) ?_
          exact ih T8 h
set_option maxRecDepth 100000 in
theorem w_X7_stepNumber_2 (l : Launch)  {S : zS} {S1 : zS} (h : f_X7_stepNumber_2 S = some S1) : zMet zLX l yX7_stepNumber cX7_stepNumber 2 none 1 [.ref 2] S none S1 := by
  unfold f_X7_stepNumber_2 at h
  refine zMet.of (by decide +kernel) (Nat.le_of_ble_eq_true rfl) ?_
  show WA zLX l RX7 cX7_stepNumber 2 none 1 none S1 0 [(0, .ref 2)] [] S
  refine z_aload_n (pc := 0) (q := 0) dX7_stepNumber_0 rfl rfl ?_
  refine z_iconst (pc := 1) (v := 0) dX7_stepNumber_1 zci_0 ?_
  obtain ⟨T1, eT1, h⟩ := zl_some h
  refine z_putI (pc := 2) dX7_stepNumber_2 zp_X7_88 gX_2_7 rfl rfl eT1 ?_
  exact w_X7_stepNumber_2_L5 l zN T1 h
def f_X7_stepWord_2_L113 : Nat → Int32 → zS → Option zS
  | 0, _, _ => none
  | n + 1, x1, S =>
    if x1 < 24 then
      if zin x1 24 then
      if (lg_cmp (S.2 4 x1.toNatClampNeg) (S.2 2 8)) = 0 then
        zlet (zput S 2 7 x1) fun T4 =>
        zlet (x1 + 1) fun v5 =>
        (f_X7_stepWord_2_L113 n) v5 T4
      else
        zlet (x1 + 1) fun v4 =>
        (f_X7_stepWord_2_L113 n) v4 S else none
    else
      some S
def f_X7_stepWord_2_B103 (s0 : Int32) (S : zS) : Option zS :=
  zlet (zput S 2 6 s0) fun T1 =>
  zlet (zput T1 2 7 (-1)) fun T2 =>
  f_X7_stepWord_2_L113 zN 0 T2
def f_X7_stepWord_2_B83  (S : zS) : Option zS :=
  if (8 : Int32) < ((S.1 2 5) - (S.1 2 4)) then
    f_X7_stepWord_2_B103 4 S
  else
    f_X7_stepWord_2_B103 1 S
def f_X7_stepWord_2_L5 : Nat → zS → Option zS
  | 0, _ => none
  | n + 1, S =>
    if (S.1 2 5) < (S.1 2 3) then
      if zin (S.1 2 5) 1600 then
      if (S.1 1 (S.1 2 5).toNatClampNeg) < 97 then
        f_X7_stepWord_2_B83 S
      else
        if zin (S.1 2 5) 1600 then
        if (122 : Int32) < (S.1 1 (S.1 2 5).toNatClampNeg) then
          f_X7_stepWord_2_B83 S
        else
          if zin (S.1 2 5) 1600 then
          zlet (zputL S 2 8 (((S.2 2 8) <<< (Int32.toInt64 5 &&& 63)) ||| (Int32.toInt64 (((S.1 1 (S.1 2 5).toNatClampNeg) - 97) + 1)))) fun T7 =>
          zlet (zput T7 2 5 ((T7.1 2 5) + 1)) fun T8 =>
          (f_X7_stepWord_2_L5 n) T8 else none else none else none
    else
      f_X7_stepWord_2_B83 S
def f_X7_stepWord_2  (S : zS) : Option zS :=
  zlet (zputL S 2 8 0) fun T1 =>
  f_X7_stepWord_2_L5 zN T1
set_option maxRecDepth 100000 in
theorem w_X7_stepWord_2_L113 (l : Launch) {S1 : zS} : ∀ (n : Nat) (x1 : Int32) (S : zS), f_X7_stepWord_2_L113 n x1 S = some S1 → WA zLX l RX7 cX7_stepWord 2 none 1 none S1 113 [(0, .ref 2), (1, .int x1)] [] S := by
  intro n
  induction n with
  | zero =>
    intro x1 S h
    exact nomatch h
  | succ n ih =>
    intro x1 S h
    rw [f_X7_stepWord_2_L113] at h
    refine z_iload_n (pc := 113) (q := 1) dX7_stepWord_113 rfl rfl ?_
    refine z_aload_n (pc := 114) (q := 0) dX7_stepWord_114 rfl rfl ?_
    refine z_getR (pc := 115) dX7_stepWord_115 zf_X7_25 gX_2_13 ?_
    refine z_alen (pc := 118) (v := 24) dX7_stepWord_118 aX_4 (by decide) (by decide) ?_
    refine z_icmp_ge (pc := 119) (tgt := 147) dX7_stepWord_119 (by decide) (fun c1 => ?_) (fun c1 => ?_)
    · have h := ze_some c1 h
      cases h
      exact z_vret dX7_stepWord_147
    · have h := zt_some c1 h
      refine z_aload_n (pc := 122) (q := 0) dX7_stepWord_122 rfl rfl ?_
      refine z_getR (pc := 123) dX7_stepWord_123 zf_X7_25 gX_2_13 ?_
      refine z_iload_n (pc := 126) (q := 1) dX7_stepWord_126 rfl rfl ?_
      obtain ⟨c2, h⟩ := zg_some h
      refine z_lald (pc := 127) dX7_stepWord_127 aX_4 c2 ?_
      refine z_aload_n (pc := 128) (q := 0) dX7_stepWord_128 rfl rfl ?_
      refine z_getJ (pc := 129) dX7_stepWord_129 zf_X7_209 gX_2_8 ?_
      refine z_lcmp (pc := 132) dX7_stepWord_132 ?_
      refine z_if_ne (pc := 133) (tgt := 141) dX7_stepWord_133 (by decide) (fun c3 => ?_) (fun c3 => ?_)
      · have h := ze_some c3 h
        obtain ⟨v4, ev4, h⟩ := zl_some h
        refine z_iinc (pc := 141) (q := 1) (v := v4) (lo' := [(1, .int v4), (0, .ref 2)]) dX7_stepWord_141 rfl (by rw [ev4, zci_1]) (by decide) rfl ?_
        refine z_goto (pc := 144) (tgt := 113) dX7_stepWord_144 (by decide) ?_
        exact z_sub [1, 0] rfl (ih v4 S h)
      · have h := zt_some c3 h
        refine z_aload_n (pc := 136) (q := 0) dX7_stepWord_136 rfl rfl ?_
        refine z_iload_n (pc := 137) (q := 1) dX7_stepWord_137 rfl rfl ?_
        obtain ⟨T4, eT4, h⟩ := zl_some h
        refine z_putI (pc := 138) dX7_stepWord_138 zp_X7_88 gX_2_7 rfl rfl eT4 ?_
        obtain ⟨v5, ev5, h⟩ := zl_some h
        refine z_iinc (pc := 141) (q := 1) (v := v5) (lo' := [(1, .int v5), (0, .ref 2)]) dX7_stepWord_141 rfl (by rw [ev5, zci_1]) (by decide) rfl ?_
        refine z_goto (pc := 144) (tgt := 113) dX7_stepWord_144 (by decide) ?_
        exact z_sub [1, 0] rfl (ih v5 T4 h)
set_option maxRecDepth 100000 in
theorem w_X7_stepWord_2_B103 (l : Launch) {S1 : zS} (s0 : Int32) (S : zS) (h : f_X7_stepWord_2_B103 s0 S = some S1) : WA zLX l RX7 cX7_stepWord 2 none 1 none S1 103 [(0, .ref 2)] [.int s0, .ref 2] S := by
  unfold f_X7_stepWord_2_B103 at h
  obtain ⟨T1, eT1, h⟩ := zl_some h
  refine z_putI (pc := 103) dX7_stepWord_103 zp_X7_68 gX_2_6 rfl rfl eT1 ?_
  refine z_aload_n (pc := 106) (q := 0) dX7_stepWord_106 rfl rfl ?_
  refine z_iconst (pc := 107) (v := (-1)) dX7_stepWord_107 zci_m1 ?_
  obtain ⟨T2, eT2, h⟩ := zl_some h
  refine z_putI (pc := 108) dX7_stepWord_108 zp_X7_88 gX_2_7 rfl rfl eT2 ?_
  refine z_iconst (pc := 111) (v := 0) dX7_stepWord_111 zci_0 ?_
  refine z_istore_n (pc := 112) (lo' := [(1, .int 0), (0, .ref 2)]) dX7_stepWord_112 rfl (by decide) rfl ?_
  exact z_sub [1, 0] rfl (w_X7_stepWord_2_L113 l zN 0 T2 h)
set_option maxRecDepth 100000 in
theorem w_X7_stepWord_2_B83 (l : Launch) {S1 : zS}  (S : zS) (h : f_X7_stepWord_2_B83 S = some S1) : WA zLX l RX7 cX7_stepWord 2 none 1 none S1 83 [(0, .ref 2)] [] S := by
  unfold f_X7_stepWord_2_B83 at h
  refine z_aload_n (pc := 83) (q := 0) dX7_stepWord_83 rfl rfl ?_
  refine z_aload_n (pc := 84) (q := 0) dX7_stepWord_84 rfl rfl ?_
  refine z_getI (pc := 85) dX7_stepWord_85 zf_X7_51 gX_2_5 ?_
  refine z_aload_n (pc := 88) (q := 0) dX7_stepWord_88 rfl rfl ?_
  refine z_getI (pc := 89) dX7_stepWord_89 zf_X7_182 gX_2_4 ?_
  refine z_isub (pc := 92) dX7_stepWord_92 ?_
  refine z_bipush (pc := 93) (v := 8) dX7_stepWord_93 zcb_8 ?_
  refine z_icmp_le (pc := 95) (tgt := 102) dX7_stepWord_95 (by decide) (fun c1 => ?_) (fun c1 => ?_)
  · have h := ze_some c1 h
    refine z_iconst (pc := 102) (v := 1) dX7_stepWord_102 zci_1 ?_
    exact w_X7_stepWord_2_B103 l 1 S h
  · have h := zt_some c1 h
    refine z_iconst (pc := 98) (v := 4) dX7_stepWord_98 zci_4 ?_
    refine z_goto (pc := 99) (tgt := 103) dX7_stepWord_99 (by decide) ?_
    exact w_X7_stepWord_2_B103 l 4 S h
set_option maxRecDepth 100000 in
theorem w_X7_stepWord_2_L5 (l : Launch) {S1 : zS} : ∀ (n : Nat)  (S : zS), f_X7_stepWord_2_L5 n S = some S1 → WA zLX l RX7 cX7_stepWord 2 none 1 none S1 5 [(0, .ref 2)] [] S := by
  intro n
  induction n with
  | zero =>
    intro  S h
    exact nomatch h
  | succ n ih =>
    intro  S h
    rw [f_X7_stepWord_2_L5] at h
    refine z_aload_n (pc := 5) (q := 0) dX7_stepWord_5 rfl rfl ?_
    refine z_getI (pc := 6) dX7_stepWord_6 zf_X7_51 gX_2_5 ?_
    refine z_aload_n (pc := 9) (q := 0) dX7_stepWord_9 rfl rfl ?_
    refine z_getI (pc := 10) dX7_stepWord_10 zf_X7_49 gX_2_3 ?_
    refine z_icmp_ge (pc := 13) (tgt := 83) dX7_stepWord_13 (by decide) (fun c1 => ?_) (fun c1 => ?_)
    · have h := ze_some c1 h
      exact w_X7_stepWord_2_B83 l S h
    · have h := zt_some c1 h
      refine z_aload_n (pc := 16) (q := 0) dX7_stepWord_16 rfl rfl ?_
      refine z_getR (pc := 17) dX7_stepWord_17 zf_X7_17 gX_2_2 ?_
      refine z_aload_n (pc := 20) (q := 0) dX7_stepWord_20 rfl rfl ?_
      refine z_getI (pc := 21) dX7_stepWord_21 zf_X7_51 gX_2_5 ?_
      obtain ⟨c2, h⟩ := zg_some h
      refine z_bald (pc := 24) dX7_stepWord_24 aX_1 c2 ?_
      refine z_bipush (pc := 25) (v := 97) dX7_stepWord_25 zcb_97 ?_
      refine z_icmp_lt (pc := 27) (tgt := 83) dX7_stepWord_27 (by decide) (fun c3 => ?_) (fun c3 => ?_)
      · have h := zt_some c3 h
        exact w_X7_stepWord_2_B83 l S h
      · have h := ze_some c3 h
        refine z_aload_n (pc := 30) (q := 0) dX7_stepWord_30 rfl rfl ?_
        refine z_getR (pc := 31) dX7_stepWord_31 zf_X7_17 gX_2_2 ?_
        refine z_aload_n (pc := 34) (q := 0) dX7_stepWord_34 rfl rfl ?_
        refine z_getI (pc := 35) dX7_stepWord_35 zf_X7_51 gX_2_5 ?_
        obtain ⟨c4, h⟩ := zg_some h
        refine z_bald (pc := 38) dX7_stepWord_38 aX_1 c4 ?_
        refine z_bipush (pc := 39) (v := 122) dX7_stepWord_39 zcb_122 ?_
        refine z_icmp_gt (pc := 41) (tgt := 83) dX7_stepWord_41 (by decide) (fun c5 => ?_) (fun c5 => ?_)
        · have h := zt_some c5 h
          exact w_X7_stepWord_2_B83 l S h
        · have h := ze_some c5 h
          refine z_aload_n (pc := 44) (q := 0) dX7_stepWord_44 rfl rfl ?_
          refine z_aload_n (pc := 45) (q := 0) dX7_stepWord_45 rfl rfl ?_
          refine z_getJ (pc := 46) dX7_stepWord_46 zf_X7_209 gX_2_8 ?_
          refine z_iconst (pc := 49) (v := 5) dX7_stepWord_49 zci_5 ?_
          refine z_lshl (pc := 50) dX7_stepWord_50 ?_
          refine z_aload_n (pc := 51) (q := 0) dX7_stepWord_51 rfl rfl ?_
          refine z_getR (pc := 52) dX7_stepWord_52 zf_X7_17 gX_2_2 ?_
          refine z_aload_n (pc := 55) (q := 0) dX7_stepWord_55 rfl rfl ?_
          refine z_getI (pc := 56) dX7_stepWord_56 zf_X7_51 gX_2_5 ?_
          obtain ⟨c6, h⟩ := zg_some h
          refine z_bald (pc := 59) dX7_stepWord_59 aX_1 c6 ?_
          refine z_bipush (pc := 60) (v := 97) dX7_stepWord_60 zcb_97 ?_
          refine z_isub (pc := 62) dX7_stepWord_62 ?_
          refine z_iconst (pc := 63) (v := 1) dX7_stepWord_63 zci_1 ?_
          refine z_iadd (pc := 64) dX7_stepWord_64 ?_
          refine z_i2l (pc := 65) dX7_stepWord_65 ?_
          refine z_lor (pc := 66) dX7_stepWord_66 ?_
          obtain ⟨T7, eT7, h⟩ := zl_some h
          refine z_putJ (pc := 67) dX7_stepWord_67 zp_X7_209 gX_2_8 eT7 ?_
          refine z_aload_n (pc := 70) (q := 0) dX7_stepWord_70 rfl rfl ?_
          refine z_dup (pc := 71) dX7_stepWord_71 rfl ?_
          refine z_getI (pc := 72) dX7_stepWord_72 zf_X7_51 gX_2_5 ?_
          refine z_iconst (pc := 75) (v := 1) dX7_stepWord_75 zci_1 ?_
          refine z_iadd (pc := 76) dX7_stepWord_76 ?_
          obtain ⟨T8, eT8, h⟩ := zl_some h
          refine z_putI (pc := 77) dX7_stepWord_77 zp_X7_51 gX_2_5 rfl rfl eT8 ?_
          refine z_goto (pc := 80) (tgt := 5) dX7_stepWord_80 (by decide) ?_
          exact ih T8 h
set_option maxRecDepth 100000 in
theorem w_X7_stepWord_2 (l : Launch)  {S : zS} {S1 : zS} (h : f_X7_stepWord_2 S = some S1) : zMet zLX l yX7_stepWord cX7_stepWord 2 none 1 [.ref 2] S none S1 := by
  unfold f_X7_stepWord_2 at h
  refine zMet.of (by decide +kernel) (Nat.le_of_ble_eq_true rfl) ?_
  show WA zLX l RX7 cX7_stepWord 2 none 1 none S1 0 [(0, .ref 2)] [] S
  refine z_aload_n (pc := 0) (q := 0) dX7_stepWord_0 rfl rfl ?_
  refine z_lconst (pc := 1) (v := 0) dX7_stepWord_1 (by decide) ?_
  obtain ⟨T1, eT1, h⟩ := zl_some h
  refine z_putJ (pc := 2) dX7_stepWord_2 zp_X7_209 gX_2_8 eT1 ?_
  exact w_X7_stepWord_2_L5 l zN T1 h
def f_X7_step_2_B193 (s0 : Int32) (S : zS) : Option zS :=
  zlet (zput S 2 6 s0) fun T1 =>
  zlet (zput T1 2 5 ((T1.1 2 4) + 1)) fun T2 =>
  some T2
def f_X7_step_2_B157  (S : zS) : Option zS :=
  if zin (S.1 2 4) 1600 then
  zlet (zput S 2 7 ((S.1 1 (S.1 2 4).toNatClampNeg) &&& 255)) fun T2 =>
  zb (f_J0_indexOf_0f7a4_1000 ((Int32.toUInt32 (T2.1 2 7) % 65536).toInt32) T2) fun r5 T4 =>
  if r5 < 0 then
    f_X7_step_2_B193 4 T4
  else
    f_X7_step_2_B193 3 T4 else none
def f_X7_step_2_B122  (S : zS) : Option zS :=
  if zin (S.1 2 4) 1600 then
  if (S.1 1 (S.1 2 4).toNatClampNeg) < 48 then
    f_X7_step_2_B157 S
  else
    if zin (S.1 2 4) 1600 then
    if (57 : Int32) < (S.1 1 (S.1 2 4).toNatClampNeg) then
      f_X7_step_2_B157 S
    else
      zu (f_X7_stepNumber_2 S) fun T6 =>
      some T6 else none else none
def f_X7_step_2_B60  (S : zS) : Option zS :=
  zlet (zput S 2 5 (S.1 2 4)) fun T1 =>
  if (T1.1 2 4) < (T1.1 2 3) then
    if zin (T1.1 2 4) 1600 then
    if (T1.1 1 (T1.1 2 4).toNatClampNeg) < 97 then
      f_X7_step_2_B122 T1
    else
      if zin (T1.1 2 4) 1600 then
      if (122 : Int32) < (T1.1 1 (T1.1 2 4).toNatClampNeg) then
        f_X7_step_2_B122 T1
      else
        zu (f_X7_stepWord_2 T1) fun T8 =>
        some T8 else none else none
  else
    zlet (zput T1 2 6 0) fun T3 =>
    some T3
def f_X7_step_2_B47 (K8 : zS → Option zS)  (S : zS) : Option zS :=
  zlet (zput S 2 4 ((S.1 2 4) + 1)) fun T1 =>
  K8 T1
def f_X7_step_2_L8 : Nat → zS → Option zS
  | 0, _ => none
  | n + 1, S =>
    if (S.1 2 4) < (S.1 2 3) then
      if zin (S.1 2 4) 1600 then
      if (S.1 1 (S.1 2 4).toNatClampNeg) = 32 then
        f_X7_step_2_B47 (f_X7_step_2_L8 n) S
      else
        if zin (S.1 2 4) 1600 then
        if (S.1 1 (S.1 2 4).toNatClampNeg) = 10 then
          f_X7_step_2_B47 (f_X7_step_2_L8 n) S
        else
          f_X7_step_2_B60 S else none else none
    else
      f_X7_step_2_B60 S
def f_X7_step_2  (S : zS) : Option zS :=
  zlet (zput S 2 4 (S.1 2 5)) fun T1 =>
  f_X7_step_2_L8 zN T1
set_option maxRecDepth 100000 in
theorem w_X7_step_2_B193 (l : Launch) {S1 : zS} (s0 : Int32) (S : zS) (h : f_X7_step_2_B193 s0 S = some S1) : WA zLX l RX7 cX7_step 1 none 5 none S1 193 [(0, .ref 2)] [.int s0, .ref 2] S := by
  unfold f_X7_step_2_B193 at h
  obtain ⟨T1, eT1, h⟩ := zl_some h
  refine z_putI (pc := 193) dX7_step_193 zp_X7_68 gX_2_6 rfl rfl eT1 ?_
  refine z_aload_n (pc := 196) (q := 0) dX7_step_196 rfl rfl ?_
  refine z_aload_n (pc := 197) (q := 0) dX7_step_197 rfl rfl ?_
  refine z_getI (pc := 198) dX7_step_198 zf_X7_182 gX_2_4 ?_
  refine z_iconst (pc := 201) (v := 1) dX7_step_201 zci_1 ?_
  refine z_iadd (pc := 202) dX7_step_202 ?_
  obtain ⟨T2, eT2, h⟩ := zl_some h
  refine z_putI (pc := 203) dX7_step_203 zp_X7_51 gX_2_5 rfl rfl eT2 ?_
  cases h
  exact z_vret dX7_step_206
set_option maxRecDepth 100000 in
theorem w_X7_step_2_B157 (l : Launch) {S1 : zS}  (S : zS) (h : f_X7_step_2_B157 S = some S1) : WA zLX l RX7 cX7_step 1 none 5 none S1 157 [(0, .ref 2)] [] S := by
  unfold f_X7_step_2_B157 at h
  refine z_aload_n (pc := 157) (q := 0) dX7_step_157 rfl rfl ?_
  refine z_aload_n (pc := 158) (q := 0) dX7_step_158 rfl rfl ?_
  refine z_getR (pc := 159) dX7_step_159 zf_X7_17 gX_2_2 ?_
  refine z_aload_n (pc := 162) (q := 0) dX7_step_162 rfl rfl ?_
  refine z_getI (pc := 163) dX7_step_163 zf_X7_182 gX_2_4 ?_
  obtain ⟨c1, h⟩ := zg_some h
  refine z_bald (pc := 166) dX7_step_166 aX_1 c1 ?_
  refine z_sipush (pc := 167) (v := 255) dX7_step_167 zcs_255 ?_
  refine z_iand (pc := 170) dX7_step_170 ?_
  obtain ⟨T2, eT2, h⟩ := zl_some h
  refine z_putI (pc := 171) dX7_step_171 zp_X7_88 gX_2_7 rfl rfl eT2 ?_
  refine z_aload_n (pc := 174) (q := 0) dX7_step_174 rfl rfl ?_
  refine z_ldcS1000 (pc := 175) dX7_step_175 ?_
  refine z_aload_n (pc := 177) (q := 0) dX7_step_177 rfl rfl ?_
  refine z_getI (pc := 178) dX7_step_178 zf_X7_88 gX_2_7 ?_
  refine z_i2c (pc := 181) dX7_step_181 ?_
  obtain ⟨r5, T4, q3, h⟩ := zb_some h
  refine z_callVS (pc := 182) (st := [.ref 2]) 0 [.int ((Int32.toUInt32 (T2.1 2 7) % 65536).toInt32)] dX7_step_182 zm_X7_245 zM_J0_indexOf_0f7a4 (by decide) (by decide) rfl (w_J0_indexOf_0f7a4_1000 l q3) rfl rfl (Nat.le_of_ble_eq_true rfl) ?_
  refine z_if_lt (pc := 185) (tgt := 192) dX7_step_185 (by decide) (fun c6 => ?_) (fun c6 => ?_)
  · have h := zt_some c6 h
    refine z_iconst (pc := 192) (v := 4) dX7_step_192 zci_4 ?_
    exact w_X7_step_2_B193 l 4 T4 h
  · have h := ze_some c6 h
    refine z_iconst (pc := 188) (v := 3) dX7_step_188 zci_3 ?_
    refine z_goto (pc := 189) (tgt := 193) dX7_step_189 (by decide) ?_
    exact w_X7_step_2_B193 l 3 T4 h
set_option maxRecDepth 100000 in
theorem w_X7_step_2_B122 (l : Launch) {S1 : zS}  (S : zS) (h : f_X7_step_2_B122 S = some S1) : WA zLX l RX7 cX7_step 1 none 5 none S1 122 [(0, .ref 2)] [] S := by
  unfold f_X7_step_2_B122 at h
  refine z_aload_n (pc := 122) (q := 0) dX7_step_122 rfl rfl ?_
  refine z_getR (pc := 123) dX7_step_123 zf_X7_17 gX_2_2 ?_
  refine z_aload_n (pc := 126) (q := 0) dX7_step_126 rfl rfl ?_
  refine z_getI (pc := 127) dX7_step_127 zf_X7_182 gX_2_4 ?_
  obtain ⟨c1, h⟩ := zg_some h
  refine z_bald (pc := 130) dX7_step_130 aX_1 c1 ?_
  refine z_bipush (pc := 131) (v := 48) dX7_step_131 zcb_48 ?_
  refine z_icmp_lt (pc := 133) (tgt := 157) dX7_step_133 (by decide) (fun c2 => ?_) (fun c2 => ?_)
  · have h := zt_some c2 h
    exact w_X7_step_2_B157 l S h
  · have h := ze_some c2 h
    refine z_aload_n (pc := 136) (q := 0) dX7_step_136 rfl rfl ?_
    refine z_getR (pc := 137) dX7_step_137 zf_X7_17 gX_2_2 ?_
    refine z_aload_n (pc := 140) (q := 0) dX7_step_140 rfl rfl ?_
    refine z_getI (pc := 141) dX7_step_141 zf_X7_182 gX_2_4 ?_
    obtain ⟨c3, h⟩ := zg_some h
    refine z_bald (pc := 144) dX7_step_144 aX_1 c3 ?_
    refine z_bipush (pc := 145) (v := 57) dX7_step_145 zcb_57 ?_
    refine z_icmp_gt (pc := 147) (tgt := 157) dX7_step_147 (by decide) (fun c4 => ?_) (fun c4 => ?_)
    · have h := zt_some c4 h
      exact w_X7_step_2_B157 l S h
    · have h := ze_some c4 h
      refine z_aload_n (pc := 150) (q := 0) dX7_step_150 rfl rfl ?_
      obtain ⟨T6, q5, h⟩ := zu_some h
      refine z_callVv (pc := 151) (st := []) [] dX7_step_151 zm_X7_240 zM_X7_stepNumber (by decide) oX_2 rfl (w_X7_stepNumber_2 l q5) rfl rfl (Nat.le_of_ble_eq_true rfl) ?_
      refine z_goto (pc := 154) (tgt := 206) dX7_step_154 (by decide) ?_
      cases h
      exact z_vret dX7_step_206
set_option maxRecDepth 100000 in
theorem w_X7_step_2_B60 (l : Launch) {S1 : zS}  (S : zS) (h : f_X7_step_2_B60 S = some S1) : WA zLX l RX7 cX7_step 1 none 5 none S1 60 [(0, .ref 2)] [] S := by
  unfold f_X7_step_2_B60 at h
  refine z_aload_n (pc := 60) (q := 0) dX7_step_60 rfl rfl ?_
  refine z_aload_n (pc := 61) (q := 0) dX7_step_61 rfl rfl ?_
  refine z_getI (pc := 62) dX7_step_62 zf_X7_182 gX_2_4 ?_
  obtain ⟨T1, eT1, h⟩ := zl_some h
  refine z_putI (pc := 65) dX7_step_65 zp_X7_51 gX_2_5 rfl rfl eT1 ?_
  refine z_aload_n (pc := 68) (q := 0) dX7_step_68 rfl rfl ?_
  refine z_getI (pc := 69) dX7_step_69 zf_X7_182 gX_2_4 ?_
  refine z_aload_n (pc := 72) (q := 0) dX7_step_72 rfl rfl ?_
  refine z_getI (pc := 73) dX7_step_73 zf_X7_49 gX_2_3 ?_
  refine z_icmp_lt (pc := 76) (tgt := 87) dX7_step_76 (by decide) (fun c2 => ?_) (fun c2 => ?_)
  · have h := zt_some c2 h
    refine z_aload_n (pc := 87) (q := 0) dX7_step_87 rfl rfl ?_
    refine z_getR (pc := 88) dX7_step_88 zf_X7_17 gX_2_2 ?_
    refine z_aload_n (pc := 91) (q := 0) dX7_step_91 rfl rfl ?_
    refine z_getI (pc := 92) dX7_step_92 zf_X7_182 gX_2_4 ?_
    obtain ⟨c3, h⟩ := zg_some h
    refine z_bald (pc := 95) dX7_step_95 aX_1 c3 ?_
    refine z_bipush (pc := 96) (v := 97) dX7_step_96 zcb_97 ?_
    refine z_icmp_lt (pc := 98) (tgt := 122) dX7_step_98 (by decide) (fun c4 => ?_) (fun c4 => ?_)
    · have h := zt_some c4 h
      exact w_X7_step_2_B122 l T1 h
    · have h := ze_some c4 h
      refine z_aload_n (pc := 101) (q := 0) dX7_step_101 rfl rfl ?_
      refine z_getR (pc := 102) dX7_step_102 zf_X7_17 gX_2_2 ?_
      refine z_aload_n (pc := 105) (q := 0) dX7_step_105 rfl rfl ?_
      refine z_getI (pc := 106) dX7_step_106 zf_X7_182 gX_2_4 ?_
      obtain ⟨c5, h⟩ := zg_some h
      refine z_bald (pc := 109) dX7_step_109 aX_1 c5 ?_
      refine z_bipush (pc := 110) (v := 122) dX7_step_110 zcb_122 ?_
      refine z_icmp_gt (pc := 112) (tgt := 122) dX7_step_112 (by decide) (fun c6 => ?_) (fun c6 => ?_)
      · have h := zt_some c6 h
        exact w_X7_step_2_B122 l T1 h
      · have h := ze_some c6 h
        refine z_aload_n (pc := 115) (q := 0) dX7_step_115 rfl rfl ?_
        obtain ⟨T8, q7, h⟩ := zu_some h
        refine z_callVv (pc := 116) (st := []) [] dX7_step_116 zm_X7_237 zM_X7_stepWord (by decide) oX_2 rfl (w_X7_stepWord_2 l q7) rfl rfl (Nat.le_of_ble_eq_true rfl) ?_
        refine z_goto (pc := 119) (tgt := 206) dX7_step_119 (by decide) ?_
        cases h
        exact z_vret dX7_step_206
  · have h := ze_some c2 h
    refine z_aload_n (pc := 79) (q := 0) dX7_step_79 rfl rfl ?_
    refine z_iconst (pc := 80) (v := 0) dX7_step_80 zci_0 ?_
    obtain ⟨T3, eT3, h⟩ := zl_some h
    refine z_putI (pc := 81) dX7_step_81 zp_X7_68 gX_2_6 rfl rfl eT3 ?_
    refine z_goto (pc := 84) (tgt := 206) dX7_step_84 (by decide) ?_
    cases h
    exact z_vret dX7_step_206
set_option maxRecDepth 100000 in
theorem w_X7_step_2_B47 (l : Launch) {S1 : zS} (K8 : zS → Option zS) (hK8 : ∀  (S : zS), K8  S = some S1 → WA zLX l RX7 cX7_step 1 none 5 none S1 8 [(0, .ref 2)] [] S)  (S : zS) (h : f_X7_step_2_B47 K8 S = some S1) : WA zLX l RX7 cX7_step 1 none 5 none S1 47 [(0, .ref 2)] [] S := by
  unfold f_X7_step_2_B47 at h
  refine z_aload_n (pc := 47) (q := 0) dX7_step_47 rfl rfl ?_
  refine z_dup (pc := 48) dX7_step_48 rfl ?_
  refine z_getI (pc := 49) dX7_step_49 zf_X7_182 gX_2_4 ?_
  refine z_iconst (pc := 52) (v := 1) dX7_step_52 zci_1 ?_
  refine z_iadd (pc := 53) dX7_step_53 ?_
  obtain ⟨T1, eT1, h⟩ := zl_some h
  refine z_putI (pc := 54) dX7_step_54 zp_X7_182 gX_2_4 rfl rfl eT1 ?_
  refine z_goto (pc := 57) (tgt := 8) dX7_step_57 (by decide) ?_
  exact hK8 T1 h
set_option maxRecDepth 100000 in
theorem w_X7_step_2_L8 (l : Launch) {S1 : zS} : ∀ (n : Nat)  (S : zS), f_X7_step_2_L8 n S = some S1 → WA zLX l RX7 cX7_step 1 none 5 none S1 8 [(0, .ref 2)] [] S := by
  intro n
  induction n with
  | zero =>
    intro  S h
    exact nomatch h
  | succ n ih =>
    intro  S h
    rw [f_X7_step_2_L8] at h
    refine z_aload_n (pc := 8) (q := 0) dX7_step_8 rfl rfl ?_
    refine z_getI (pc := 9) dX7_step_9 zf_X7_182 gX_2_4 ?_
    refine z_aload_n (pc := 12) (q := 0) dX7_step_12 rfl rfl ?_
    refine z_getI (pc := 13) dX7_step_13 zf_X7_49 gX_2_3 ?_
    refine z_icmp_ge (pc := 16) (tgt := 60) dX7_step_16 (by decide) (fun c1 => ?_) (fun c1 => ?_)
    · have h := ze_some c1 h
      exact w_X7_step_2_B60 l S h
    · have h := zt_some c1 h
      refine z_aload_n (pc := 19) (q := 0) dX7_step_19 rfl rfl ?_
      refine z_getR (pc := 20) dX7_step_20 zf_X7_17 gX_2_2 ?_
      refine z_aload_n (pc := 23) (q := 0) dX7_step_23 rfl rfl ?_
      refine z_getI (pc := 24) dX7_step_24 zf_X7_182 gX_2_4 ?_
      obtain ⟨c2, h⟩ := zg_some h
      refine z_bald (pc := 27) dX7_step_27 aX_1 c2 ?_
      refine z_bipush (pc := 28) (v := 32) dX7_step_28 zcb_32 ?_
      refine z_icmp_eq (pc := 30) (tgt := 47) dX7_step_30 (by decide) (fun c3 => ?_) (fun c3 => ?_)
      · have h := zt_some c3 h
        exact w_X7_step_2_B47 l (f_X7_step_2_L8 n) ih S h
      · have h := ze_some c3 h
        refine z_aload_n (pc := 33) (q := 0) dX7_step_33 rfl rfl ?_
        refine z_getR (pc := 34) dX7_step_34 zf_X7_17 gX_2_2 ?_
        refine z_aload_n (pc := 37) (q := 0) dX7_step_37 rfl rfl ?_
        refine z_getI (pc := 38) dX7_step_38 zf_X7_182 gX_2_4 ?_
        obtain ⟨c4, h⟩ := zg_some h
        refine z_bald (pc := 41) dX7_step_41 aX_1 c4 ?_
        refine z_bipush (pc := 42) (v := 10) dX7_step_42 zcb_10 ?_
        refine z_icmp_ne (pc := 44) (tgt := 60) dX7_step_44 (by decide) (fun c5 => ?_) (fun c5 => ?_)
        · have h := ze_some c5 h
          exact w_X7_step_2_B60 l S h
        · have h := zt_some c5 h
          exact w_X7_step_2_B47 l (f_X7_step_2_L8 n) ih S h
set_option maxRecDepth 100000 in
theorem w_X7_step_2 (l : Launch)  {S : zS} {S1 : zS} (h : f_X7_step_2 S = some S1) : zMet zLX l yX7_step cX7_step 1 none 5 [.ref 2] S none S1 := by
  unfold f_X7_step_2 at h
  refine zMet.of (by decide +kernel) (Nat.le_of_ble_eq_true rfl) ?_
  show WA zLX l RX7 cX7_step 1 none 5 none S1 0 [(0, .ref 2)] [] S
  refine z_aload_n (pc := 0) (q := 0) dX7_step_0 rfl rfl ?_
  refine z_aload_n (pc := 1) (q := 0) dX7_step_1 rfl rfl ?_
  refine z_getI (pc := 2) dX7_step_2 zf_X7_51 gX_2_5 ?_
  obtain ⟨T1, eT1, h⟩ := zl_some h
  refine z_putI (pc := 5) dX7_step_5 zp_X7_182 gX_2_4 rfl rfl eT1 ?_
  exact w_X7_step_2_L8 l zN T1 h
def f_X1_sortForReading_29_L12 (K4 : Int32 → Int32 → zS → Option zS) : Nat → Int32 → Int32 → Int32 → zS → Option zS
  | 0, _, _, _, _ => none
  | n + 1, x1, x2, x3, S =>
    if x3 < 12 then
      if zin x3 12 then
      if (S.1 30 x3.toNatClampNeg) = x2 then
        if x1 < 12 then
          if zin x1 12 then
          zlet (zput S 36 x1.toNatClampNeg x3) fun T6 =>
          zlet (x1 + 1) fun v7 =>
          zlet (x3 + 1) fun v8 =>
          (f_X1_sortForReading_29_L12 K4 n) v7 x2 v8 T6 else none
        else
          zlet (x3 + 1) fun v5 =>
          (f_X1_sortForReading_29_L12 K4 n) x1 x2 v5 S
      else
        zlet (x3 + 1) fun v4 =>
        (f_X1_sortForReading_29_L12 K4 n) x1 x2 v4 S else none
    else
      zlet (x2 + 1) fun v2 =>
      K4 x1 v2 S
def f_X1_sortForReading_29_L4 : Nat → Int32 → Int32 → zS → Option zS
  | 0, _, _, _ => none
  | n + 1, x1, x2, S =>
    if x2 < 12 then
      f_X1_sortForReading_29_L12 (f_X1_sortForReading_29_L4 n) zN x1 x2 0 S
    else
      some S
def f_X1_sortForReading_29  (S : zS) : Option zS :=
  f_X1_sortForReading_29_L4 zN 0 0 S
set_option maxRecDepth 100000 in
theorem w_X1_sortForReading_29_L12 (l : Launch) {S1 : zS} (K4 : Int32 → Int32 → zS → Option zS) (hK4 : ∀ (x1 : Int32) (x2 : Int32) (S : zS), K4 x1 x2 S = some S1 → WA zLX l RX1 cX1_sortForReading 4 none 1 none S1 4 [(0, .ref 29), (1, .int x1), (2, .int x2)] [] S) : ∀ (n : Nat) (x1 : Int32) (x2 : Int32) (x3 : Int32) (S : zS), f_X1_sortForReading_29_L12 K4 n x1 x2 x3 S = some S1 → WA zLX l RX1 cX1_sortForReading 4 none 1 none S1 12 [(0, .ref 29), (1, .int x1), (2, .int x2), (3, .int x3)] [] S := by
  intro n
  induction n with
  | zero =>
    intro x1 x2 x3 S h
    exact nomatch h
  | succ n ih =>
    intro x1 x2 x3 S h
    rw [f_X1_sortForReading_29_L12] at h
    refine z_iload_n (pc := 12) (q := 3) dX1_sortForReading_12 rfl rfl ?_
    refine z_bipush (pc := 13) (v := 12) dX1_sortForReading_13 zcb_12 ?_
    refine z_icmp_ge (pc := 15) (tgt := 53) dX1_sortForReading_15 (by decide) (fun c1 => ?_) (fun c1 => ?_)
    · have h := ze_some c1 h
      obtain ⟨v2, ev2, h⟩ := zl_some h
      refine z_iinc (pc := 53) (q := 2) (v := v2) (lo' := [(2, .int v2), (0, .ref 29), (1, .int x1), (3, .int x3)]) dX1_sortForReading_53 rfl (by rw [ev2, zci_1]) (by decide) rfl ?_
      refine z_goto (pc := 56) (tgt := 4) dX1_sortForReading_56 (by decide) ?_
      exact z_sub [1, 2, 0] rfl (hK4 x1 v2 S h)
    · have h := zt_some c1 h
      refine z_aload_n (pc := 18) (q := 0) dX1_sortForReading_18 rfl rfl ?_
      refine z_getR (pc := 19) dX1_sortForReading_19 zf_X1_9 gX_29_0 ?_
      refine z_iload_n (pc := 22) (q := 3) dX1_sortForReading_22 rfl rfl ?_
      obtain ⟨c2, h⟩ := zg_some h
      refine z_iald (pc := 23) dX1_sortForReading_23 aX_30 c2 ?_
      refine z_iload_n (pc := 24) (q := 2) dX1_sortForReading_24 rfl rfl ?_
      refine z_icmp_ne (pc := 25) (tgt := 47) dX1_sortForReading_25 (by decide) (fun c3 => ?_) (fun c3 => ?_)
      · have h := ze_some c3 h
        obtain ⟨v4, ev4, h⟩ := zl_some h
        refine z_iinc (pc := 47) (q := 3) (v := v4) (lo' := [(3, .int v4), (0, .ref 29), (1, .int x1), (2, .int x2)]) dX1_sortForReading_47 rfl (by rw [ev4, zci_1]) (by decide) rfl ?_
        refine z_goto (pc := 50) (tgt := 12) dX1_sortForReading_50 (by decide) ?_
        exact z_sub [1, 2, 3, 0] rfl (ih x1 x2 v4 S h)
      · have h := zt_some c3 h
        refine z_iload_n (pc := 28) (q := 1) dX1_sortForReading_28 rfl rfl ?_
        refine z_aload_n (pc := 29) (q := 0) dX1_sortForReading_29 rfl rfl ?_
        refine z_getR (pc := 30) dX1_sortForReading_30 zf_X1_30 gX_29_6 ?_
        refine z_alen (pc := 33) (v := 12) dX1_sortForReading_33 aX_36 (by decide) (by decide) ?_
        refine z_icmp_ge (pc := 34) (tgt := 47) dX1_sortForReading_34 (by decide) (fun c4 => ?_) (fun c4 => ?_)
        · have h := ze_some c4 h
          obtain ⟨v5, ev5, h⟩ := zl_some h
          refine z_iinc (pc := 47) (q := 3) (v := v5) (lo' := [(3, .int v5), (0, .ref 29), (1, .int x1), (2, .int x2)]) dX1_sortForReading_47 rfl (by rw [ev5, zci_1]) (by decide) rfl ?_
          refine z_goto (pc := 50) (tgt := 12) dX1_sortForReading_50 (by decide) ?_
          exact z_sub [1, 2, 3, 0] rfl (ih x1 x2 v5 S h)
        · have h := zt_some c4 h
          refine z_aload_n (pc := 37) (q := 0) dX1_sortForReading_37 rfl rfl ?_
          refine z_getR (pc := 38) dX1_sortForReading_38 zf_X1_30 gX_29_6 ?_
          refine z_iload_n (pc := 41) (q := 1) dX1_sortForReading_41 rfl rfl ?_
          refine z_iload_n (pc := 42) (q := 3) dX1_sortForReading_42 rfl rfl ?_
          obtain ⟨c5, h⟩ := zg_some h
          obtain ⟨T6, eT6, h⟩ := zl_some h
          refine z_iast (pc := 43) dX1_sortForReading_43 aX_36 c5 eT6 ?_
          obtain ⟨v7, ev7, h⟩ := zl_some h
          refine z_iinc (pc := 44) (q := 1) (v := v7) (lo' := [(1, .int v7), (0, .ref 29), (2, .int x2), (3, .int x3)]) dX1_sortForReading_44 rfl (by rw [ev7, zci_1]) (by decide) rfl ?_
          obtain ⟨v8, ev8, h⟩ := zl_some h
          refine z_iinc (pc := 47) (q := 3) (v := v8) (lo' := [(3, .int v8), (1, .int v7), (0, .ref 29), (2, .int x2)]) dX1_sortForReading_47 rfl (by rw [ev8, zci_1]) (by decide) rfl ?_
          refine z_goto (pc := 50) (tgt := 12) dX1_sortForReading_50 (by decide) ?_
          exact z_sub [2, 1, 3, 0] rfl (ih v7 x2 v8 T6 h)
set_option maxRecDepth 100000 in
theorem w_X1_sortForReading_29_L4 (l : Launch) {S1 : zS} : ∀ (n : Nat) (x1 : Int32) (x2 : Int32) (S : zS), f_X1_sortForReading_29_L4 n x1 x2 S = some S1 → WA zLX l RX1 cX1_sortForReading 4 none 1 none S1 4 [(0, .ref 29), (1, .int x1), (2, .int x2)] [] S := by
  intro n
  induction n with
  | zero =>
    intro x1 x2 S h
    exact nomatch h
  | succ n ih =>
    intro x1 x2 S h
    rw [f_X1_sortForReading_29_L4] at h
    refine z_iload_n (pc := 4) (q := 2) dX1_sortForReading_4 rfl rfl ?_
    refine z_bipush (pc := 5) (v := 12) dX1_sortForReading_5 zcb_12 ?_
    refine z_icmp_ge (pc := 7) (tgt := 59) dX1_sortForReading_7 (by decide) (fun c1 => ?_) (fun c1 => ?_)
    · have h := ze_some c1 h
      cases h
      exact z_vret dX1_sortForReading_59
    · have h := zt_some c1 h
      refine z_iconst (pc := 10) (v := 0) dX1_sortForReading_10 zci_0 ?_
      refine z_istore_n (pc := 11) (lo' := [(3, .int 0), (0, .ref 29), (1, .int x1), (2, .int x2)]) dX1_sortForReading_11 rfl (by decide) rfl ?_
      exact z_sub [1, 2, 3, 0] rfl (w_X1_sortForReading_29_L12 l (f_X1_sortForReading_29_L4 n) ih zN x1 x2 0 S h)
set_option maxRecDepth 100000 in
theorem w_X1_sortForReading_29 (l : Launch)  {S : zS} {S1 : zS} (h : f_X1_sortForReading_29 S = some S1) : zMet zLX l yX1_sortForReading cX1_sortForReading 4 none 1 [.ref 29] S none S1 := by
  unfold f_X1_sortForReading_29 at h
  refine zMet.of (by decide +kernel) (Nat.le_of_ble_eq_true rfl) ?_
  show WA zLX l RX1 cX1_sortForReading 4 none 1 none S1 0 [(0, .ref 29)] [] S
  refine z_iconst (pc := 0) (v := 0) dX1_sortForReading_0 zci_0 ?_
  refine z_istore_n (pc := 1) (lo' := [(1, .int 0), (0, .ref 29)]) dX1_sortForReading_1 rfl (by decide) rfl ?_
  refine z_iconst (pc := 2) (v := 0) dX1_sortForReading_2 zci_0 ?_
  refine z_istore_n (pc := 3) (lo' := [(2, .int 0), (1, .int 0), (0, .ref 29)]) dX1_sortForReading_3 rfl (by decide) rfl ?_
  exact z_sub [2, 1, 0] rfl (w_X1_sortForReading_29_L4 l zN 0 0 S h)
def f_X7_refuse_2 (x1 : Int32) (x2 : Int32) (S : zS) : Option (Int32 × zS) :=
  zlet (zput S 2 0 x1) fun T1 =>
  zlet (zput T1 2 1 x2) fun T2 =>
  some (0, T2)
set_option maxRecDepth 100000 in
theorem w_X7_refuse_2 (l : Launch) {x1 : Int32} {x2 : Int32} {S : zS} {r : Int32} {S1 : zS} (h : f_X7_refuse_2 x1 x2 S = some (r, S1)) : zMet zLX l yX7_refuse cX7_refuse 3 (some .boolean) 1 [.ref 2, .int x1, .int x2] S (some (.int r)) S1 := by
  unfold f_X7_refuse_2 at h
  refine zMet.of (by decide +kernel) (Nat.le_of_ble_eq_true rfl) ?_
  show WA zLX l RX7 cX7_refuse 3 (some .boolean) 1 (some (.int r)) S1 0 [(0, .ref 2), (1, .int x1), (2, .int x2)] [] S
  refine z_aload_n (pc := 0) (q := 0) dX7_refuse_0 rfl rfl ?_
  refine z_iload_n (pc := 1) (q := 1) dX7_refuse_1 rfl rfl ?_
  obtain ⟨T1, eT1, h⟩ := zl_some h
  refine z_putI (pc := 2) dX7_refuse_2 zp_X7_40 gX_2_0 rfl rfl eT1 ?_
  refine z_aload_n (pc := 5) (q := 0) dX7_refuse_5 rfl rfl ?_
  refine z_iload_n (pc := 6) (q := 2) dX7_refuse_6 rfl rfl ?_
  obtain ⟨T2, eT2, h⟩ := zl_some h
  refine z_putI (pc := 7) dX7_refuse_7 zp_X7_13 gX_2_1 rfl rfl eT2 ?_
  refine z_iconst (pc := 10) (v := 0) dX7_refuse_10 zci_0 ?_
  obtain ⟨rfl, rfl⟩ := zr_some h
  exact z_zret dX7_refuse_11 rfl
def f_X7_refuseToken_2_B14 (s0 : Int32) (S : zS) : Option (Int32 × zS) :=
  zb (f_X7_refuse_2 s0 (S.1 2 4) S) fun r3 T2 =>
  if znb r3 then some (r3, T2) else none
def f_X7_refuseToken_2  (S : zS) : Option (Int32 × zS) :=
  if (S.1 2 6) = 4 then
    f_X7_refuseToken_2_B14 1 S
  else
    f_X7_refuseToken_2_B14 2 S
set_option maxRecDepth 100000 in
theorem w_X7_refuseToken_2_B14 (l : Launch) {r : Int32} {S1 : zS} (s0 : Int32) (S : zS) (h : f_X7_refuseToken_2_B14 s0 S = some (r, S1)) : WA zLX l RX7 cX7_refuseToken 1 (some .boolean) 2 (some (.int r)) S1 14 [(0, .ref 2)] [.int s0, .ref 2] S := by
  unfold f_X7_refuseToken_2_B14 at h
  refine z_aload_n (pc := 14) (q := 0) dX7_refuseToken_14 rfl rfl ?_
  refine z_getI (pc := 15) dX7_refuseToken_15 zf_X7_182 gX_2_4 ?_
  obtain ⟨r3, T2, q1, h⟩ := zb_some h
  refine z_callVi (pc := 18) (st := []) [.int s0, .int (S.1 2 4)] dX7_refuseToken_18 zm_X7_191 zM_X7_refuse (by decide) oX_2 rfl (w_X7_refuse_2 l q1) rfl rfl (Nat.le_of_ble_eq_true rfl) ?_
  obtain ⟨c4, h⟩ := zg_some h
  obtain ⟨rfl, rfl⟩ := zr_some h
  exact z_zret dX7_refuseToken_21 (znb_n c4)
set_option maxRecDepth 100000 in
theorem w_X7_refuseToken_2 (l : Launch)  {S : zS} {r : Int32} {S1 : zS} (h : f_X7_refuseToken_2 S = some (r, S1)) : zMet zLX l yX7_refuseToken cX7_refuseToken 1 (some .boolean) 2 [.ref 2] S (some (.int r)) S1 := by
  unfold f_X7_refuseToken_2 at h
  refine zMet.of (by decide +kernel) (Nat.le_of_ble_eq_true rfl) ?_
  show WA zLX l RX7 cX7_refuseToken 1 (some .boolean) 2 (some (.int r)) S1 0 [(0, .ref 2)] [] S
  refine z_aload_n (pc := 0) (q := 0) dX7_refuseToken_0 rfl rfl ?_
  refine z_aload_n (pc := 1) (q := 0) dX7_refuseToken_1 rfl rfl ?_
  refine z_getI (pc := 2) dX7_refuseToken_2 zf_X7_68 gX_2_6 ?_
  refine z_iconst (pc := 5) (v := 4) dX7_refuseToken_5 zci_4 ?_
  refine z_icmp_ne (pc := 6) (tgt := 13) dX7_refuseToken_6 (by decide) (fun c1 => ?_) (fun c1 => ?_)
  · have h := ze_some c1 h
    refine z_iconst (pc := 13) (v := 2) dX7_refuseToken_13 zci_2 ?_
    exact w_X7_refuseToken_2_B14 l 2 S h
  · have h := zt_some c1 h
    refine z_iconst (pc := 9) (v := 1) dX7_refuseToken_9 zci_1 ?_
    refine z_goto (pc := 10) (tgt := 14) dX7_refuseToken_10 (by decide) ?_
    exact w_X7_refuseToken_2_B14 l 1 S h
def f_X7_takeNumber_2_B29  (S : zS) : Option (Int32 × zS) :=
  zb (f_X7_refuse_2 4 (S.1 2 4) S) fun r3 T2 =>
  if znb r3 then some (r3, T2) else none
def f_X7_takeNumber_2 (x1 : Int32) (x2 : Int32) (S : zS) : Option (Int32 × zS) :=
  if (S.1 2 6) = 2 then
    if (S.1 2 7) < x1 then
      f_X7_takeNumber_2_B29 S
    else
      if x2 < (S.1 2 7) then
        f_X7_takeNumber_2_B29 S
      else
        zlet (zput S 2 11 (S.1 2 7)) fun T4 =>
        zu (f_X7_step_2 T4) fun T6 =>
        some (1, T6)
  else
    zb (f_X7_refuseToken_2 S) fun r4 T3 =>
    if znb r4 then some (r4, T3) else none
set_option maxRecDepth 100000 in
theorem w_X7_takeNumber_2_B29 (l : Launch) {r : Int32} {S1 : zS}  (S : zS) (h : f_X7_takeNumber_2_B29 S = some (r, S1)) : WA zLX l RX7 cX7_takeNumber 3 (some .boolean) 6 (some (.int r)) S1 29 [(0, .ref 2)] [] S := by
  unfold f_X7_takeNumber_2_B29 at h
  refine z_aload_n (pc := 29) (q := 0) dX7_takeNumber_29 rfl rfl ?_
  refine z_iconst (pc := 30) (v := 4) dX7_takeNumber_30 zci_4 ?_
  refine z_aload_n (pc := 31) (q := 0) dX7_takeNumber_31 rfl rfl ?_
  refine z_getI (pc := 32) dX7_takeNumber_32 zf_X7_182 gX_2_4 ?_
  obtain ⟨r3, T2, q1, h⟩ := zb_some h
  refine z_callVi (pc := 35) (st := []) [.int 4, .int (S.1 2 4)] dX7_takeNumber_35 zm_X7_191 zM_X7_refuse (by decide) oX_2 rfl (w_X7_refuse_2 l q1) rfl rfl (Nat.le_of_ble_eq_true rfl) ?_
  obtain ⟨c4, h⟩ := zg_some h
  obtain ⟨rfl, rfl⟩ := zr_some h
  exact z_zret dX7_takeNumber_38 (znb_n c4)
set_option maxRecDepth 100000 in
theorem w_X7_takeNumber_2 (l : Launch) {x1 : Int32} {x2 : Int32} {S : zS} {r : Int32} {S1 : zS} (h : f_X7_takeNumber_2 x1 x2 S = some (r, S1)) : zMet zLX l yX7_takeNumber cX7_takeNumber 3 (some .boolean) 6 [.ref 2, .int x1, .int x2] S (some (.int r)) S1 := by
  unfold f_X7_takeNumber_2 at h
  refine zMet.of (by decide +kernel) (Nat.le_of_ble_eq_true rfl) ?_
  show WA zLX l RX7 cX7_takeNumber 3 (some .boolean) 6 (some (.int r)) S1 0 [(0, .ref 2), (1, .int x1), (2, .int x2)] [] S
  refine z_aload_n (pc := 0) (q := 0) dX7_takeNumber_0 rfl rfl ?_
  refine z_getI (pc := 1) dX7_takeNumber_1 zf_X7_68 gX_2_6 ?_
  refine z_iconst (pc := 4) (v := 2) dX7_takeNumber_4 zci_2 ?_
  refine z_icmp_eq (pc := 5) (tgt := 13) dX7_takeNumber_5 (by decide) (fun c1 => ?_) (fun c1 => ?_)
  · have h := zt_some c1 h
    refine z_aload_n (pc := 13) (q := 0) dX7_takeNumber_13 rfl rfl ?_
    refine z_getI (pc := 14) dX7_takeNumber_14 zf_X7_88 gX_2_7 ?_
    refine z_iload_n (pc := 17) (q := 1) dX7_takeNumber_17 rfl rfl ?_
    refine z_icmp_lt (pc := 18) (tgt := 29) dX7_takeNumber_18 (by decide) (fun c2 => ?_) (fun c2 => ?_)
    · have h := zt_some c2 h
      exact z_sub [0] rfl (w_X7_takeNumber_2_B29 l S h)
    · have h := ze_some c2 h
      refine z_aload_n (pc := 21) (q := 0) dX7_takeNumber_21 rfl rfl ?_
      refine z_getI (pc := 22) dX7_takeNumber_22 zf_X7_88 gX_2_7 ?_
      refine z_iload_n (pc := 25) (q := 2) dX7_takeNumber_25 rfl rfl ?_
      refine z_icmp_le (pc := 26) (tgt := 39) dX7_takeNumber_26 (by decide) (fun c3 => ?_) (fun c3 => ?_)
      · have h := ze_some c3 h
        refine z_aload_n (pc := 39) (q := 0) dX7_takeNumber_39 rfl rfl ?_
        refine z_aload_n (pc := 40) (q := 0) dX7_takeNumber_40 rfl rfl ?_
        refine z_getI (pc := 41) dX7_takeNumber_41 zf_X7_88 gX_2_7 ?_
        obtain ⟨T4, eT4, h⟩ := zl_some h
        refine z_putI (pc := 44) dX7_takeNumber_44 zp_X7_134 gX_2_11 rfl rfl eT4 ?_
        refine z_aload_n (pc := 47) (q := 0) dX7_takeNumber_47 rfl rfl ?_
        obtain ⟨T6, q5, h⟩ := zu_some h
        refine z_callVv (pc := 48) (st := []) [] dX7_takeNumber_48 zm_X7_62 zM_X7_step (by decide) oX_2 rfl (w_X7_step_2 l q5) rfl rfl (Nat.le_of_ble_eq_true rfl) ?_
        refine z_iconst (pc := 51) (v := 1) dX7_takeNumber_51 zci_1 ?_
        obtain ⟨rfl, rfl⟩ := zr_some h
        exact z_zret dX7_takeNumber_52 rfl
      · have h := zt_some c3 h
        exact z_sub [0] rfl (w_X7_takeNumber_2_B29 l S h)
  · have h := ze_some c1 h
    refine z_aload_n (pc := 8) (q := 0) dX7_takeNumber_8 rfl rfl ?_
    obtain ⟨r4, T3, q2, h⟩ := zb_some h
    refine z_callVi (pc := 9) (st := []) [] dX7_takeNumber_9 zm_X7_127 zM_X7_refuseToken (by decide) oX_2 rfl (w_X7_refuseToken_2 l q2) rfl rfl (Nat.le_of_ble_eq_true rfl) ?_
    obtain ⟨c5, h⟩ := zg_some h
    obtain ⟨rfl, rfl⟩ := zr_some h
    exact z_zret dX7_takeNumber_12 (znb_n c5)
def f_X7_readStakes_2_21  (S : zS) : Option (Int32 × zS) :=
  if (0 : Int32) < (S.1 2 9) then
    zb (f_X7_refuseToken_2 S) fun r4 T3 =>
    if znb r4 then some (r4, T3) else none
  else
    zu (f_X7_step_2 S) fun T3 =>
    zb (f_X7_takeNumber_2 2 12 T3) fun r6 T5 =>
    if r6 = 0 then
      some (0, T5)
    else
      zlet (zput T5 21 0 (T5.1 2 11)) fun T8 =>
      some (1, T8)
set_option maxRecDepth 100000 in
theorem w_X7_readStakes_2_21 (l : Launch)  {S : zS} {r : Int32} {S1 : zS} (h : f_X7_readStakes_2_21 S = some (r, S1)) : zMet zLX l yX7_readStakes cX7_readStakes 2 (some .boolean) 7 [.ref 2, .ref 21] S (some (.int r)) S1 := by
  unfold f_X7_readStakes_2_21 at h
  refine zMet.of (by decide +kernel) (Nat.le_of_ble_eq_true rfl) ?_
  show WA zLX l RX7 cX7_readStakes 2 (some .boolean) 7 (some (.int r)) S1 0 [(0, .ref 2), (1, .ref 21)] [] S
  refine z_aload_n (pc := 0) (q := 0) dX7_readStakes_0 rfl rfl ?_
  refine z_getI (pc := 1) dX7_readStakes_1 zf_X7_65 gX_2_9 ?_
  refine z_if_le (pc := 4) (tgt := 12) dX7_readStakes_4 (by decide) (fun c1 => ?_) (fun c1 => ?_)
  · have h := ze_some c1 h
    refine z_aload_n (pc := 12) (q := 0) dX7_readStakes_12 rfl rfl ?_
    obtain ⟨T3, q2, h⟩ := zu_some h
    refine z_callVv (pc := 13) (st := []) [] dX7_readStakes_13 zm_X7_62 zM_X7_step (by decide) oX_2 rfl (w_X7_step_2 l q2) rfl rfl (Nat.le_of_ble_eq_true rfl) ?_
    refine z_aload_n (pc := 16) (q := 0) dX7_readStakes_16 rfl rfl ?_
    refine z_iconst (pc := 17) (v := 2) dX7_readStakes_17 zci_2 ?_
    refine z_bipush (pc := 18) (v := 12) dX7_readStakes_18 zcb_12 ?_
    obtain ⟨r6, T5, q4, h⟩ := zb_some h
    refine z_callVi (pc := 20) (st := []) [.int 2, .int 12] dX7_readStakes_20 zm_X7_130 zM_X7_takeNumber (by decide) oX_2 rfl (w_X7_takeNumber_2 l q4) rfl rfl (Nat.le_of_ble_eq_true rfl) ?_
    refine z_if_ne (pc := 23) (tgt := 28) dX7_readStakes_23 (by decide) (fun c7 => ?_) (fun c7 => ?_)
    · have h := ze_some c7 h
      refine z_aload_n (pc := 28) (q := 1) dX7_readStakes_28 rfl rfl ?_
      refine z_aload_n (pc := 29) (q := 0) dX7_readStakes_29 rfl rfl ?_
      refine z_getI (pc := 30) dX7_readStakes_30 zf_X7_134 gX_2_11 ?_
      obtain ⟨T8, eT8, h⟩ := zl_some h
      refine z_putI (pc := 33) dX7_readStakes_33 zp_X7_137 gX_21_0 rfl rfl eT8 ?_
      refine z_iconst (pc := 36) (v := 1) dX7_readStakes_36 zci_1 ?_
      obtain ⟨rfl, rfl⟩ := zr_some h
      exact z_zret dX7_readStakes_37 rfl
    · have h := zt_some c7 h
      refine z_iconst (pc := 26) (v := 0) dX7_readStakes_26 zci_0 ?_
      obtain ⟨rfl, rfl⟩ := zr_some h
      exact z_zret dX7_readStakes_27 rfl
  · have h := zt_some c1 h
    refine z_aload_n (pc := 7) (q := 0) dX7_readStakes_7 rfl rfl ?_
    obtain ⟨r4, T3, q2, h⟩ := zb_some h
    refine z_callVi (pc := 8) (st := []) [] dX7_readStakes_8 zm_X7_127 zM_X7_refuseToken (by decide) oX_2 rfl (w_X7_refuseToken_2 l q2) rfl rfl (Nat.le_of_ble_eq_true rfl) ?_
    obtain ⟨c5, h⟩ := zg_some h
    obtain ⟨rfl, rfl⟩ := zr_some h
    exact z_zret dX7_readStakes_11 (znb_n c5)
def f_X7_isName_2  (S : zS) : Option (Int32 × zS) :=
  if (S.1 2 6) = 1 then
    if (S.1 2 7) = (-1) then
      some (1, S)
    else
      some (0, S)
  else
    some (0, S)
set_option maxRecDepth 100000 in
theorem w_X7_isName_2 (l : Launch)  {S : zS} {r : Int32} {S1 : zS} (h : f_X7_isName_2 S = some (r, S1)) : zMet zLX l yX7_isName cX7_isName 1 (some .boolean) 1 [.ref 2] S (some (.int r)) S1 := by
  unfold f_X7_isName_2 at h
  refine zMet.of (by decide +kernel) (Nat.le_of_ble_eq_true rfl) ?_
  show WA zLX l RX7 cX7_isName 1 (some .boolean) 1 (some (.int r)) S1 0 [(0, .ref 2)] [] S
  refine z_aload_n (pc := 0) (q := 0) dX7_isName_0 rfl rfl ?_
  refine z_getI (pc := 1) dX7_isName_1 zf_X7_68 gX_2_6 ?_
  refine z_iconst (pc := 4) (v := 1) dX7_isName_4 zci_1 ?_
  refine z_icmp_ne (pc := 5) (tgt := 20) dX7_isName_5 (by decide) (fun c1 => ?_) (fun c1 => ?_)
  · have h := ze_some c1 h
    refine z_iconst (pc := 20) (v := 0) dX7_isName_20 zci_0 ?_
    obtain ⟨rfl, rfl⟩ := zr_some h
    exact z_zret dX7_isName_21 rfl
  · have h := zt_some c1 h
    refine z_aload_n (pc := 8) (q := 0) dX7_isName_8 rfl rfl ?_
    refine z_getI (pc := 9) dX7_isName_9 zf_X7_88 gX_2_7 ?_
    refine z_iconst (pc := 12) (v := (-1)) dX7_isName_12 zci_m1 ?_
    refine z_icmp_ne (pc := 13) (tgt := 20) dX7_isName_13 (by decide) (fun c2 => ?_) (fun c2 => ?_)
    · have h := ze_some c2 h
      refine z_iconst (pc := 20) (v := 0) dX7_isName_20 zci_0 ?_
      obtain ⟨rfl, rfl⟩ := zr_some h
      exact z_zret dX7_isName_21 rfl
    · have h := zt_some c2 h
      refine z_iconst (pc := 16) (v := 1) dX7_isName_16 zci_1 ?_
      refine z_goto (pc := 17) (tgt := 21) dX7_isName_17 (by decide) ?_
      obtain ⟨rfl, rfl⟩ := zr_some h
      exact z_zret dX7_isName_21 rfl
def f_X7_findName_2_L2 : Nat → Int32 → Int32 → Int32 → zS → Option (Int32 × zS)
  | 0, _, _, _, _ => none
  | n + 1, x1, x2, x3, S =>
    if x3 < x2 then
      zlet (x1 + x3) fun v2 =>
      if v2 < 0 then
        zlet (x3 + 1) fun v4 =>
        (f_X7_findName_2_L2 n) x1 x2 v4 S
      else
        if v2 < 19 then
          if zin v2 19 then
          if (lg_cmp (S.2 3 v2.toNatClampNeg) (S.2 2 8)) = 0 then
            some (x3, S)
          else
            zlet (x3 + 1) fun v7 =>
            (f_X7_findName_2_L2 n) x1 x2 v7 S else none
        else
          zlet (x3 + 1) fun v5 =>
          (f_X7_findName_2_L2 n) x1 x2 v5 S
    else
      some ((-1), S)
def f_X7_findName_2 (x1 : Int32) (x2 : Int32) (S : zS) : Option (Int32 × zS) :=
  f_X7_findName_2_L2 zN x1 x2 0 S
set_option maxRecDepth 100000 in
theorem w_X7_findName_2_L2 (l : Launch) {r : Int32} {S1 : zS} : ∀ (n : Nat) (x1 : Int32) (x2 : Int32) (x3 : Int32) (S : zS), f_X7_findName_2_L2 n x1 x2 x3 S = some (r, S1) → WA zLX l RX7 cX7_findName 5 (some .int) 1 (some (.int r)) S1 2 [(0, .ref 2), (1, .int x1), (2, .int x2), (3, .int x3)] [] S := by
  intro n
  induction n with
  | zero =>
    intro x1 x2 x3 S h
    exact nomatch h
  | succ n ih =>
    intro x1 x2 x3 S h
    rw [f_X7_findName_2_L2] at h
    refine z_iload_n (pc := 2) (q := 3) dX7_findName_2 rfl rfl ?_
    refine z_iload_n (pc := 3) (q := 2) dX7_findName_3 rfl rfl ?_
    refine z_icmp_ge (pc := 4) (tgt := 50) dX7_findName_4 (by decide) (fun c1 => ?_) (fun c1 => ?_)
    · have h := ze_some c1 h
      refine z_iconst (pc := 50) (v := (-1)) dX7_findName_50 zci_m1 ?_
      obtain ⟨rfl, rfl⟩ := zr_some h
      exact z_iret dX7_findName_51
    · have h := zt_some c1 h
      refine z_iload_n (pc := 7) (q := 1) dX7_findName_7 rfl rfl ?_
      refine z_iload_n (pc := 8) (q := 3) dX7_findName_8 rfl rfl ?_
      refine z_iadd (pc := 9) dX7_findName_9 ?_
      obtain ⟨v2, ev2, h⟩ := zl_some h
      refine z_top ev2 ?_
      refine z_istore (pc := 10) (lo' := [(4, .int v2), (0, .ref 2), (1, .int x1), (2, .int x2), (3, .int x3)]) dX7_findName_10 (by decide) rfl ?_
      refine z_iload (pc := 12) (q := 0) dX7_findName_12 rfl ?_
      refine z_if_lt (pc := 14) (tgt := 44) dX7_findName_14 (by decide) (fun c3 => ?_) (fun c3 => ?_)
      · have h := zt_some c3 h
        obtain ⟨v4, ev4, h⟩ := zl_some h
        refine z_iinc (pc := 44) (q := 4) (v := v4) (lo' := [(3, .int v4), (4, .int v2), (0, .ref 2), (1, .int x1), (2, .int x2)]) dX7_findName_44 rfl (by rw [ev4, zci_1]) (by decide) rfl ?_
        refine z_goto (pc := 47) (tgt := 2) dX7_findName_47 (by decide) ?_
        exact z_sub [2, 3, 4, 0] rfl (ih x1 x2 v4 S h)
      · have h := ze_some c3 h
        refine z_iload (pc := 17) (q := 0) dX7_findName_17 rfl ?_
        refine z_aload_n (pc := 19) (q := 1) dX7_findName_19 rfl rfl ?_
        refine z_getR (pc := 20) dX7_findName_20 zf_X7_21 gX_2_12 ?_
        refine z_alen (pc := 23) (v := 19) dX7_findName_23 aX_3 (by decide) (by decide) ?_
        refine z_icmp_ge (pc := 24) (tgt := 44) dX7_findName_24 (by decide) (fun c4 => ?_) (fun c4 => ?_)
        · have h := ze_some c4 h
          obtain ⟨v5, ev5, h⟩ := zl_some h
          refine z_iinc (pc := 44) (q := 4) (v := v5) (lo' := [(3, .int v5), (4, .int v2), (0, .ref 2), (1, .int x1), (2, .int x2)]) dX7_findName_44 rfl (by rw [ev5, zci_1]) (by decide) rfl ?_
          refine z_goto (pc := 47) (tgt := 2) dX7_findName_47 (by decide) ?_
          exact z_sub [2, 3, 4, 0] rfl (ih x1 x2 v5 S h)
        · have h := zt_some c4 h
          refine z_aload_n (pc := 27) (q := 1) dX7_findName_27 rfl rfl ?_
          refine z_getR (pc := 28) dX7_findName_28 zf_X7_21 gX_2_12 ?_
          refine z_iload (pc := 31) (q := 0) dX7_findName_31 rfl ?_
          obtain ⟨c5, h⟩ := zg_some h
          refine z_lald (pc := 33) dX7_findName_33 aX_3 c5 ?_
          refine z_aload_n (pc := 34) (q := 1) dX7_findName_34 rfl rfl ?_
          refine z_getJ (pc := 35) dX7_findName_35 zf_X7_209 gX_2_8 ?_
          refine z_lcmp (pc := 38) dX7_findName_38 ?_
          refine z_if_ne (pc := 39) (tgt := 44) dX7_findName_39 (by decide) (fun c6 => ?_) (fun c6 => ?_)
          · have h := ze_some c6 h
            obtain ⟨v7, ev7, h⟩ := zl_some h
            refine z_iinc (pc := 44) (q := 4) (v := v7) (lo' := [(3, .int v7), (4, .int v2), (0, .ref 2), (1, .int x1), (2, .int x2)]) dX7_findName_44 rfl (by rw [ev7, zci_1]) (by decide) rfl ?_
            refine z_goto (pc := 47) (tgt := 2) dX7_findName_47 (by decide) ?_
            exact z_sub [2, 3, 4, 0] rfl (ih x1 x2 v7 S h)
          · have h := zt_some c6 h
            refine z_iload_n (pc := 42) (q := 4) dX7_findName_42 rfl rfl ?_
            obtain ⟨rfl, rfl⟩ := zr_some h
            exact z_iret dX7_findName_43
set_option maxRecDepth 100000 in
theorem w_X7_findName_2 (l : Launch) {x1 : Int32} {x2 : Int32} {S : zS} {r : Int32} {S1 : zS} (h : f_X7_findName_2 x1 x2 S = some (r, S1)) : zMet zLX l yX7_findName cX7_findName 5 (some .int) 1 [.ref 2, .int x1, .int x2] S (some (.int r)) S1 := by
  unfold f_X7_findName_2 at h
  refine zMet.of (by decide +kernel) (Nat.le_of_ble_eq_true rfl) ?_
  show WA zLX l RX7 cX7_findName 5 (some .int) 1 (some (.int r)) S1 0 [(0, .ref 2), (1, .int x1), (2, .int x2)] [] S
  refine z_iconst (pc := 0) (v := 0) dX7_findName_0 zci_0 ?_
  refine z_istore_n (pc := 1) (lo' := [(3, .int 0), (0, .ref 2), (1, .int x1), (2, .int x2)]) dX7_findName_1 rfl (by decide) rfl ?_
  exact z_sub [1, 2, 3, 0] rfl (w_X7_findName_2_L2 l zN x1 x2 0 S h)
def f_X7_beginSort_2_B77  (S : zS) : Option (Int32 × zS) :=
  zu (f_X7_step_2 S) fun T2 =>
  some (1, T2)
def f_X7_beginSort_2 (x1 : Int32) (x2 : Int32) (x3 : Int32) (S : zS) : Option (Int32 × zS) :=
  if x2 < x3 then
    zu (f_X7_step_2 S) fun T3 =>
    zb (f_X7_isName_2 T3) fun r6 T5 =>
    if r6 = 0 then
      zb (f_X7_refuseToken_2 T5) fun r10 T9 =>
      if znb r10 then some (r10, T9) else none
    else
      zb (f_X7_findName_2 x1 x2 T5) fun r10 T9 =>
      if r10 = (-1) then
        zlet (x1 + x2) fun v12 =>
        if v12 < 0 then
          f_X7_beginSort_2_B77 T9
        else
          if v12 < 19 then
            if zin v12 19 then
            zlet (zputL T9 3 v12.toNatClampNeg (T9.2 2 8)) fun T16 =>
            f_X7_beginSort_2_B77 T16 else none
          else
            f_X7_beginSort_2_B77 T9
      else
        zb (f_X7_refuse_2 3 (T9.1 2 4) T9) fun r14 T13 =>
        if znb r14 then some (r14, T13) else none
  else
    zb (f_X7_refuseToken_2 S) fun r4 T3 =>
    if znb r4 then some (r4, T3) else none
set_option maxRecDepth 100000 in
theorem w_X7_beginSort_2_B77 (l : Launch) {r : Int32} {S1 : zS}  (S : zS) (h : f_X7_beginSort_2_B77 S = some (r, S1)) : WA zLX l RX7 cX7_beginSort 5 (some .boolean) 6 (some (.int r)) S1 77 [(0, .ref 2)] [] S := by
  unfold f_X7_beginSort_2_B77 at h
  refine z_aload_n (pc := 77) (q := 0) dX7_beginSort_77 rfl rfl ?_
  obtain ⟨T2, q1, h⟩ := zu_some h
  refine z_callVv (pc := 78) (st := []) [] dX7_beginSort_78 zm_X7_62 zM_X7_step (by decide) oX_2 rfl (w_X7_step_2 l q1) rfl rfl (Nat.le_of_ble_eq_true rfl) ?_
  refine z_iconst (pc := 81) (v := 1) dX7_beginSort_81 zci_1 ?_
  obtain ⟨rfl, rfl⟩ := zr_some h
  exact z_zret dX7_beginSort_82 rfl
set_option maxRecDepth 100000 in
theorem w_X7_beginSort_2 (l : Launch) {x1 : Int32} {x2 : Int32} {x3 : Int32} {S : zS} {r : Int32} {S1 : zS} (h : f_X7_beginSort_2 x1 x2 x3 S = some (r, S1)) : zMet zLX l yX7_beginSort cX7_beginSort 5 (some .boolean) 6 [.ref 2, .int x1, .int x2, .int x3] S (some (.int r)) S1 := by
  unfold f_X7_beginSort_2 at h
  refine zMet.of (by decide +kernel) (Nat.le_of_ble_eq_true rfl) ?_
  show WA zLX l RX7 cX7_beginSort 5 (some .boolean) 6 (some (.int r)) S1 0 [(0, .ref 2), (1, .int x1), (2, .int x2), (3, .int x3)] [] S
  refine z_iload_n (pc := 0) (q := 2) dX7_beginSort_0 rfl rfl ?_
  refine z_iload_n (pc := 1) (q := 3) dX7_beginSort_1 rfl rfl ?_
  refine z_icmp_lt (pc := 2) (tgt := 10) dX7_beginSort_2 (by decide) (fun c1 => ?_) (fun c1 => ?_)
  · have h := zt_some c1 h
    refine z_aload_n (pc := 10) (q := 0) dX7_beginSort_10 rfl rfl ?_
    obtain ⟨T3, q2, h⟩ := zu_some h
    refine z_callVv (pc := 11) (st := []) [] dX7_beginSort_11 zm_X7_62 zM_X7_step (by decide) oX_2 rfl (w_X7_step_2 l q2) rfl rfl (Nat.le_of_ble_eq_true rfl) ?_
    refine z_aload_n (pc := 14) (q := 0) dX7_beginSort_14 rfl rfl ?_
    obtain ⟨r6, T5, q4, h⟩ := zb_some h
    refine z_callVi (pc := 15) (st := []) [] dX7_beginSort_15 zm_X7_203 zM_X7_isName (by decide) oX_2 rfl (w_X7_isName_2 l q4) rfl rfl (Nat.le_of_ble_eq_true rfl) ?_
    refine z_if_ne (pc := 18) (tgt := 26) dX7_beginSort_18 (by decide) (fun c7 => ?_) (fun c7 => ?_)
    · have h := ze_some c7 h
      refine z_aload_n (pc := 26) (q := 0) dX7_beginSort_26 rfl rfl ?_
      refine z_iload_n (pc := 27) (q := 1) dX7_beginSort_27 rfl rfl ?_
      refine z_iload_n (pc := 28) (q := 2) dX7_beginSort_28 rfl rfl ?_
      obtain ⟨r10, T9, q8, h⟩ := zb_some h
      refine z_callVi (pc := 29) (st := []) [.int x1, .int x2] dX7_beginSort_29 zm_X7_206 zM_X7_findName (by decide) oX_2 rfl (w_X7_findName_2 l q8) rfl rfl (Nat.le_of_ble_eq_true rfl) ?_
      refine z_iconst (pc := 32) (v := (-1)) dX7_beginSort_32 zci_m1 ?_
      refine z_icmp_eq (pc := 33) (tgt := 46) dX7_beginSort_33 (by decide) (fun c11 => ?_) (fun c11 => ?_)
      · have h := zt_some c11 h
        refine z_iload_n (pc := 46) (q := 1) dX7_beginSort_46 rfl rfl ?_
        refine z_iload_n (pc := 47) (q := 2) dX7_beginSort_47 rfl rfl ?_
        refine z_iadd (pc := 48) dX7_beginSort_48 ?_
        obtain ⟨v12, ev12, h⟩ := zl_some h
        refine z_top ev12 ?_
        refine z_istore (pc := 49) (lo' := [(4, .int v12), (0, .ref 2), (1, .int x1), (2, .int x2), (3, .int x3)]) dX7_beginSort_49 (by decide) rfl ?_
        refine z_iload (pc := 51) (q := 0) dX7_beginSort_51 rfl ?_
        refine z_if_lt (pc := 53) (tgt := 77) dX7_beginSort_53 (by decide) (fun c13 => ?_) (fun c13 => ?_)
        · have h := zt_some c13 h
          exact z_sub [1] rfl (w_X7_beginSort_2_B77 l T9 h)
        · have h := ze_some c13 h
          refine z_iload (pc := 56) (q := 0) dX7_beginSort_56 rfl ?_
          refine z_aload_n (pc := 58) (q := 1) dX7_beginSort_58 rfl rfl ?_
          refine z_getR (pc := 59) dX7_beginSort_59 zf_X7_21 gX_2_12 ?_
          refine z_alen (pc := 62) (v := 19) dX7_beginSort_62 aX_3 (by decide) (by decide) ?_
          refine z_icmp_ge (pc := 63) (tgt := 77) dX7_beginSort_63 (by decide) (fun c14 => ?_) (fun c14 => ?_)
          · have h := ze_some c14 h
            exact z_sub [1] rfl (w_X7_beginSort_2_B77 l T9 h)
          · have h := zt_some c14 h
            refine z_aload_n (pc := 66) (q := 1) dX7_beginSort_66 rfl rfl ?_
            refine z_getR (pc := 67) dX7_beginSort_67 zf_X7_21 gX_2_12 ?_
            refine z_iload (pc := 70) (q := 0) dX7_beginSort_70 rfl ?_
            refine z_aload_n (pc := 72) (q := 1) dX7_beginSort_72 rfl rfl ?_
            refine z_getJ (pc := 73) dX7_beginSort_73 zf_X7_209 gX_2_8 ?_
            obtain ⟨c15, h⟩ := zg_some h
            obtain ⟨T16, eT16, h⟩ := zl_some h
            refine z_last (pc := 76) dX7_beginSort_76 aX_3 c15 eT16 ?_
            exact z_sub [1] rfl (w_X7_beginSort_2_B77 l T16 h)
      · have h := ze_some c11 h
        refine z_aload_n (pc := 36) (q := 0) dX7_beginSort_36 rfl rfl ?_
        refine z_iconst (pc := 37) (v := 3) dX7_beginSort_37 zci_3 ?_
        refine z_aload_n (pc := 38) (q := 0) dX7_beginSort_38 rfl rfl ?_
        refine z_getI (pc := 39) dX7_beginSort_39 zf_X7_182 gX_2_4 ?_
        obtain ⟨r14, T13, q12, h⟩ := zb_some h
        refine z_callVi (pc := 42) (st := []) [.int 3, .int (T9.1 2 4)] dX7_beginSort_42 zm_X7_191 zM_X7_refuse (by decide) oX_2 rfl (w_X7_refuse_2 l q12) rfl rfl (Nat.le_of_ble_eq_true rfl) ?_
        obtain ⟨c15, h⟩ := zg_some h
        obtain ⟨rfl, rfl⟩ := zr_some h
        exact z_zret dX7_beginSort_45 (znb_n c15)
    · have h := zt_some c7 h
      refine z_aload_n (pc := 21) (q := 0) dX7_beginSort_21 rfl rfl ?_
      obtain ⟨r10, T9, q8, h⟩ := zb_some h
      refine z_callVi (pc := 22) (st := []) [] dX7_beginSort_22 zm_X7_127 zM_X7_refuseToken (by decide) oX_2 rfl (w_X7_refuseToken_2 l q8) rfl rfl (Nat.le_of_ble_eq_true rfl) ?_
      obtain ⟨c11, h⟩ := zg_some h
      obtain ⟨rfl, rfl⟩ := zr_some h
      exact z_zret dX7_beginSort_25 (znb_n c11)
  · have h := ze_some c1 h
    refine z_aload_n (pc := 5) (q := 0) dX7_beginSort_5 rfl rfl ?_
    obtain ⟨r4, T3, q2, h⟩ := zb_some h
    refine z_callVi (pc := 6) (st := []) [] dX7_beginSort_6 zm_X7_127 zM_X7_refuseToken (by decide) oX_2 rfl (w_X7_refuseToken_2 l q2) rfl rfl (Nat.le_of_ble_eq_true rfl) ?_
    obtain ⟨c5, h⟩ := zg_some h
    obtain ⟨rfl, rfl⟩ := zr_some h
    exact z_zret dX7_beginSort_9 (znb_n c5)
def f_X7_isWord_2 (x1 : Int32) (S : zS) : Option (Int32 × zS) :=
  if (S.1 2 6) = 1 then
    if (S.1 2 7) = x1 then
      some (1, S)
    else
      some (0, S)
  else
    some (0, S)
set_option maxRecDepth 100000 in
theorem w_X7_isWord_2 (l : Launch) {x1 : Int32} {S : zS} {r : Int32} {S1 : zS} (h : f_X7_isWord_2 x1 S = some (r, S1)) : zMet zLX l yX7_isWord cX7_isWord 2 (some .boolean) 1 [.ref 2, .int x1] S (some (.int r)) S1 := by
  unfold f_X7_isWord_2 at h
  refine zMet.of (by decide +kernel) (Nat.le_of_ble_eq_true rfl) ?_
  show WA zLX l RX7 cX7_isWord 2 (some .boolean) 1 (some (.int r)) S1 0 [(0, .ref 2), (1, .int x1)] [] S
  refine z_aload_n (pc := 0) (q := 0) dX7_isWord_0 rfl rfl ?_
  refine z_getI (pc := 1) dX7_isWord_1 zf_X7_68 gX_2_6 ?_
  refine z_iconst (pc := 4) (v := 1) dX7_isWord_4 zci_1 ?_
  refine z_icmp_ne (pc := 5) (tgt := 20) dX7_isWord_5 (by decide) (fun c1 => ?_) (fun c1 => ?_)
  · have h := ze_some c1 h
    refine z_iconst (pc := 20) (v := 0) dX7_isWord_20 zci_0 ?_
    obtain ⟨rfl, rfl⟩ := zr_some h
    exact z_zret dX7_isWord_21 rfl
  · have h := zt_some c1 h
    refine z_aload_n (pc := 8) (q := 0) dX7_isWord_8 rfl rfl ?_
    refine z_getI (pc := 9) dX7_isWord_9 zf_X7_88 gX_2_7 ?_
    refine z_iload_n (pc := 12) (q := 1) dX7_isWord_12 rfl rfl ?_
    refine z_icmp_ne (pc := 13) (tgt := 20) dX7_isWord_13 (by decide) (fun c2 => ?_) (fun c2 => ?_)
    · have h := ze_some c2 h
      refine z_iconst (pc := 20) (v := 0) dX7_isWord_20 zci_0 ?_
      obtain ⟨rfl, rfl⟩ := zr_some h
      exact z_zret dX7_isWord_21 rfl
    · have h := zt_some c2 h
      refine z_iconst (pc := 16) (v := 1) dX7_isWord_16 zci_1 ?_
      refine z_goto (pc := 17) (tgt := 21) dX7_isWord_17 (by decide) ?_
      obtain ⟨rfl, rfl⟩ := zr_some h
      exact z_zret dX7_isWord_21 rfl
def f_X7_takeWord_2 (x1 : Int32) (S : zS) : Option (Int32 × zS) :=
  zb (f_X7_isWord_2 x1 S) fun r3 T2 =>
  if r3 = 0 then
    zb (f_X7_refuseToken_2 T2) fun r7 T6 =>
    if znb r7 then some (r7, T6) else none
  else
    zu (f_X7_step_2 T2) fun T6 =>
    some (1, T6)
set_option maxRecDepth 100000 in
theorem w_X7_takeWord_2 (l : Launch) {x1 : Int32} {S : zS} {r : Int32} {S1 : zS} (h : f_X7_takeWord_2 x1 S = some (r, S1)) : zMet zLX l yX7_takeWord cX7_takeWord 2 (some .boolean) 6 [.ref 2, .int x1] S (some (.int r)) S1 := by
  unfold f_X7_takeWord_2 at h
  refine zMet.of (by decide +kernel) (Nat.le_of_ble_eq_true rfl) ?_
  show WA zLX l RX7 cX7_takeWord 2 (some .boolean) 6 (some (.int r)) S1 0 [(0, .ref 2), (1, .int x1)] [] S
  refine z_aload_n (pc := 0) (q := 0) dX7_takeWord_0 rfl rfl ?_
  refine z_iload_n (pc := 1) (q := 1) dX7_takeWord_1 rfl rfl ?_
  obtain ⟨r3, T2, q1, h⟩ := zb_some h
  refine z_callVi (pc := 2) (st := []) [.int x1] dX7_takeWord_2 zm_X7_154 zM_X7_isWord (by decide) oX_2 rfl (w_X7_isWord_2 l q1) rfl rfl (Nat.le_of_ble_eq_true rfl) ?_
  refine z_if_ne (pc := 5) (tgt := 13) dX7_takeWord_5 (by decide) (fun c4 => ?_) (fun c4 => ?_)
  · have h := ze_some c4 h
    refine z_aload_n (pc := 13) (q := 0) dX7_takeWord_13 rfl rfl ?_
    obtain ⟨T6, q5, h⟩ := zu_some h
    refine z_callVv (pc := 14) (st := []) [] dX7_takeWord_14 zm_X7_62 zM_X7_step (by decide) oX_2 rfl (w_X7_step_2 l q5) rfl rfl (Nat.le_of_ble_eq_true rfl) ?_
    refine z_iconst (pc := 17) (v := 1) dX7_takeWord_17 zci_1 ?_
    obtain ⟨rfl, rfl⟩ := zr_some h
    exact z_zret dX7_takeWord_18 rfl
  · have h := zt_some c4 h
    refine z_aload_n (pc := 8) (q := 0) dX7_takeWord_8 rfl rfl ?_
    obtain ⟨r7, T6, q5, h⟩ := zb_some h
    refine z_callVi (pc := 9) (st := []) [] dX7_takeWord_9 zm_X7_127 zM_X7_refuseToken (by decide) oX_2 rfl (w_X7_refuseToken_2 l q5) rfl rfl (Nat.le_of_ble_eq_true rfl) ?_
    obtain ⟨c8, h⟩ := zg_some h
    obtain ⟨rfl, rfl⟩ := zr_some h
    exact z_zret dX7_takeWord_12 (znb_n c8)
def f_X7_readPlant_2_21_B84  (S : zS) : Option (Int32 × zS) :=
  zlet (zput S 21 1 ((S.1 21 1) + 1)) fun T1 =>
  some (1, T1)
def f_X7_readPlant_2_21_B59 (x2 : Int32) (S : zS) : Option (Int32 × zS) :=
  zb (f_X7_isWord_2 10 S) fun r3 T2 =>
  if r3 = 0 then
    f_X7_readPlant_2_21_B84 T2
  else
    zlet (zput T2 21 6 ((T2.1 21 6) ||| (1 <<< (x2 &&& 31)))) fun T5 =>
    zu (f_X7_step_2 T5) fun T7 =>
    f_X7_readPlant_2_21_B84 T7
def f_X7_readPlant_2_21  (S : zS) : Option (Int32 × zS) :=
  zlet (S.1 21 1) fun v1 =>
  zb (f_X7_beginSort_2 0 v1 4 S) fun r4 T3 =>
  if r4 = 0 then
    some (0, T3)
  else
    zb (f_X7_takeWord_2 9 T3) fun r8 T7 =>
    if r8 = 0 then
      some (0, T7)
    else
      zb (f_X7_takeNumber_2 1 99 T7) fun r12 T11 =>
      if r12 = 0 then
        some (0, T11)
      else
        if v1 < 0 then
          f_X7_readPlant_2_21_B59 v1 T11
        else
          if v1 < 4 then
            if zin v1 4 then
            zlet (zput T11 22 v1.toNatClampNeg (T11.1 2 11)) fun T17 =>
            f_X7_readPlant_2_21_B59 v1 T17 else none
          else
            f_X7_readPlant_2_21_B59 v1 T11
set_option maxRecDepth 100000 in
theorem w_X7_readPlant_2_21_B84 (l : Launch) {r : Int32} {S1 : zS}  (S : zS) (h : f_X7_readPlant_2_21_B84 S = some (r, S1)) : WA zLX l RX7 cX7_readPlant 3 (some .boolean) 7 (some (.int r)) S1 84 [(1, .ref 21)] [] S := by
  unfold f_X7_readPlant_2_21_B84 at h
  refine z_aload_n (pc := 84) (q := 0) dX7_readPlant_84 rfl rfl ?_
  refine z_dup (pc := 85) dX7_readPlant_85 rfl ?_
  refine z_getI (pc := 86) dX7_readPlant_86 zf_X7_140 gX_21_1 ?_
  refine z_iconst (pc := 89) (v := 1) dX7_readPlant_89 zci_1 ?_
  refine z_iadd (pc := 90) dX7_readPlant_90 ?_
  obtain ⟨T1, eT1, h⟩ := zl_some h
  refine z_putI (pc := 91) dX7_readPlant_91 zp_X7_140 gX_21_1 rfl rfl eT1 ?_
  refine z_iconst (pc := 94) (v := 1) dX7_readPlant_94 zci_1 ?_
  obtain ⟨rfl, rfl⟩ := zr_some h
  exact z_zret dX7_readPlant_95 rfl
set_option maxRecDepth 100000 in
theorem w_X7_readPlant_2_21_B59 (l : Launch) {r : Int32} {S1 : zS} (x2 : Int32) (S : zS) (h : f_X7_readPlant_2_21_B59 x2 S = some (r, S1)) : WA zLX l RX7 cX7_readPlant 3 (some .boolean) 7 (some (.int r)) S1 59 [(0, .ref 2), (1, .ref 21), (2, .int x2)] [] S := by
  unfold f_X7_readPlant_2_21_B59 at h
  refine z_aload_n (pc := 59) (q := 0) dX7_readPlant_59 rfl rfl ?_
  refine z_bipush (pc := 60) (v := 10) dX7_readPlant_60 zcb_10 ?_
  obtain ⟨r3, T2, q1, h⟩ := zb_some h
  refine z_callVi (pc := 62) (st := []) [.int 10] dX7_readPlant_62 zm_X7_154 zM_X7_isWord (by decide) oX_2 rfl (w_X7_isWord_2 l q1) rfl rfl (Nat.le_of_ble_eq_true rfl) ?_
  refine z_if_eq (pc := 65) (tgt := 84) dX7_readPlant_65 (by decide) (fun c4 => ?_) (fun c4 => ?_)
  · have h := zt_some c4 h
    exact z_sub [1] rfl (w_X7_readPlant_2_21_B84 l T2 h)
  · have h := ze_some c4 h
    refine z_aload_n (pc := 68) (q := 1) dX7_readPlant_68 rfl rfl ?_
    refine z_dup (pc := 69) dX7_readPlant_69 rfl ?_
    refine z_getI (pc := 70) dX7_readPlant_70 zf_X7_157 gX_21_6 ?_
    refine z_iconst (pc := 73) (v := 1) dX7_readPlant_73 zci_1 ?_
    refine z_iload_n (pc := 74) (q := 2) dX7_readPlant_74 rfl rfl ?_
    refine z_ishl (pc := 75) dX7_readPlant_75 ?_
    refine z_ior (pc := 76) dX7_readPlant_76 ?_
    obtain ⟨T5, eT5, h⟩ := zl_some h
    refine z_putI (pc := 77) dX7_readPlant_77 zp_X7_157 gX_21_6 rfl rfl eT5 ?_
    refine z_aload_n (pc := 80) (q := 0) dX7_readPlant_80 rfl rfl ?_
    obtain ⟨T7, q6, h⟩ := zu_some h
    refine z_callVv (pc := 81) (st := []) [] dX7_readPlant_81 zm_X7_62 zM_X7_step (by decide) oX_2 rfl (w_X7_step_2 l q6) rfl rfl (Nat.le_of_ble_eq_true rfl) ?_
    exact z_sub [1] rfl (w_X7_readPlant_2_21_B84 l T7 h)
set_option maxRecDepth 100000 in
theorem w_X7_readPlant_2_21 (l : Launch)  {S : zS} {r : Int32} {S1 : zS} (h : f_X7_readPlant_2_21 S = some (r, S1)) : zMet zLX l yX7_readPlant cX7_readPlant 3 (some .boolean) 7 [.ref 2, .ref 21] S (some (.int r)) S1 := by
  unfold f_X7_readPlant_2_21 at h
  refine zMet.of (by decide +kernel) (Nat.le_of_ble_eq_true rfl) ?_
  show WA zLX l RX7 cX7_readPlant 3 (some .boolean) 7 (some (.int r)) S1 0 [(0, .ref 2), (1, .ref 21)] [] S
  refine z_aload_n (pc := 0) (q := 1) dX7_readPlant_0 rfl rfl ?_
  refine z_getI (pc := 1) dX7_readPlant_1 zf_X7_140 gX_21_1 ?_
  obtain ⟨v1, ev1, h⟩ := zl_some h
  refine z_top ev1 ?_
  refine z_istore_n (pc := 4) (lo' := [(2, .int v1), (0, .ref 2), (1, .ref 21)]) dX7_readPlant_4 rfl (by decide) rfl ?_
  refine z_aload_n (pc := 5) (q := 1) dX7_readPlant_5 rfl rfl ?_
  refine z_iconst (pc := 6) (v := 0) dX7_readPlant_6 zci_0 ?_
  refine z_iload_n (pc := 7) (q := 0) dX7_readPlant_7 rfl rfl ?_
  refine z_iconst (pc := 8) (v := 4) dX7_readPlant_8 zci_4 ?_
  obtain ⟨r4, T3, q2, h⟩ := zb_some h
  refine z_callVi (pc := 9) (st := []) [.int 0, .int v1, .int 4] dX7_readPlant_9 zm_X7_143 zM_X7_beginSort (by decide) oX_2 rfl (w_X7_beginSort_2 l q2) rfl rfl (Nat.le_of_ble_eq_true rfl) ?_
  refine z_if_eq (pc := 12) (tgt := 34) dX7_readPlant_12 (by decide) (fun c5 => ?_) (fun c5 => ?_)
  · have h := zt_some c5 h
    refine z_iconst (pc := 34) (v := 0) dX7_readPlant_34 zci_0 ?_
    obtain ⟨rfl, rfl⟩ := zr_some h
    exact z_zret dX7_readPlant_35 rfl
  · have h := ze_some c5 h
    refine z_aload_n (pc := 15) (q := 1) dX7_readPlant_15 rfl rfl ?_
    refine z_bipush (pc := 16) (v := 9) dX7_readPlant_16 zcb_9 ?_
    obtain ⟨r8, T7, q6, h⟩ := zb_some h
    refine z_callVi (pc := 18) (st := []) [.int 9] dX7_readPlant_18 zm_X7_147 zM_X7_takeWord (by decide) oX_2 rfl (w_X7_takeWord_2 l q6) rfl rfl (Nat.le_of_ble_eq_true rfl) ?_
    refine z_if_eq (pc := 21) (tgt := 34) dX7_readPlant_21 (by decide) (fun c9 => ?_) (fun c9 => ?_)
    · have h := zt_some c9 h
      refine z_iconst (pc := 34) (v := 0) dX7_readPlant_34 zci_0 ?_
      obtain ⟨rfl, rfl⟩ := zr_some h
      exact z_zret dX7_readPlant_35 rfl
    · have h := ze_some c9 h
      refine z_aload_n (pc := 24) (q := 1) dX7_readPlant_24 rfl rfl ?_
      refine z_iconst (pc := 25) (v := 1) dX7_readPlant_25 zci_1 ?_
      refine z_bipush (pc := 26) (v := 99) dX7_readPlant_26 zcb_99 ?_
      obtain ⟨r12, T11, q10, h⟩ := zb_some h
      refine z_callVi (pc := 28) (st := []) [.int 1, .int 99] dX7_readPlant_28 zm_X7_130 zM_X7_takeNumber (by decide) oX_2 rfl (w_X7_takeNumber_2 l q10) rfl rfl (Nat.le_of_ble_eq_true rfl) ?_
      refine z_if_ne (pc := 31) (tgt := 36) dX7_readPlant_31 (by decide) (fun c13 => ?_) (fun c13 => ?_)
      · have h := ze_some c13 h
        refine z_iload_n (pc := 36) (q := 0) dX7_readPlant_36 rfl rfl ?_
        refine z_if_lt (pc := 37) (tgt := 59) dX7_readPlant_37 (by decide) (fun c14 => ?_) (fun c14 => ?_)
        · have h := zt_some c14 h
          exact z_sub [1, 2, 0] rfl (w_X7_readPlant_2_21_B59 l v1 T11 h)
        · have h := ze_some c14 h
          refine z_iload_n (pc := 40) (q := 0) dX7_readPlant_40 rfl rfl ?_
          refine z_aload_n (pc := 41) (q := 2) dX7_readPlant_41 rfl rfl ?_
          refine z_getR (pc := 42) dX7_readPlant_42 zf_X7_150 gX_21_5 ?_
          refine z_alen (pc := 45) (v := 4) dX7_readPlant_45 aX_22 (by decide) (by decide) ?_
          refine z_icmp_ge (pc := 46) (tgt := 59) dX7_readPlant_46 (by decide) (fun c15 => ?_) (fun c15 => ?_)
          · have h := ze_some c15 h
            exact z_sub [1, 2, 0] rfl (w_X7_readPlant_2_21_B59 l v1 T11 h)
          · have h := zt_some c15 h
            refine z_aload_n (pc := 49) (q := 2) dX7_readPlant_49 rfl rfl ?_
            refine z_getR (pc := 50) dX7_readPlant_50 zf_X7_150 gX_21_5 ?_
            refine z_iload_n (pc := 53) (q := 0) dX7_readPlant_53 rfl rfl ?_
            refine z_aload_n (pc := 54) (q := 1) dX7_readPlant_54 rfl rfl ?_
            refine z_getI (pc := 55) dX7_readPlant_55 zf_X7_134 gX_2_11 ?_
            obtain ⟨c16, h⟩ := zg_some h
            obtain ⟨T17, eT17, h⟩ := zl_some h
            refine z_iast (pc := 58) dX7_readPlant_58 aX_22 c16 eT17 ?_
            exact z_sub [1, 2, 0] rfl (w_X7_readPlant_2_21_B59 l v1 T17 h)
      · have h := zt_some c13 h
        refine z_iconst (pc := 34) (v := 0) dX7_readPlant_34 zci_0 ?_
        obtain ⟨rfl, rfl⟩ := zr_some h
        exact z_zret dX7_readPlant_35 rfl
def f_X7_readTopic_2_21  (S : zS) : Option (Int32 × zS) :=
  zb (f_X7_beginSort_2 4 (S.1 21 2) 4 S) fun r3 T2 =>
  if r3 = 0 then
    some (0, T2)
  else
    zlet (zput T2 21 2 ((T2.1 21 2) + 1)) fun T5 =>
    some (1, T5)
set_option maxRecDepth 100000 in
theorem w_X7_readTopic_2_21 (l : Launch)  {S : zS} {r : Int32} {S1 : zS} (h : f_X7_readTopic_2_21 S = some (r, S1)) : zMet zLX l yX7_readTopic cX7_readTopic 2 (some .boolean) 7 [.ref 2, .ref 21] S (some (.int r)) S1 := by
  unfold f_X7_readTopic_2_21 at h
  refine zMet.of (by decide +kernel) (Nat.le_of_ble_eq_true rfl) ?_
  show WA zLX l RX7 cX7_readTopic 2 (some .boolean) 7 (some (.int r)) S1 0 [(0, .ref 2), (1, .ref 21)] [] S
  refine z_aload_n (pc := 0) (q := 0) dX7_readTopic_0 rfl rfl ?_
  refine z_iconst (pc := 1) (v := 4) dX7_readTopic_1 zci_4 ?_
  refine z_aload_n (pc := 2) (q := 1) dX7_readTopic_2 rfl rfl ?_
  refine z_getI (pc := 3) dX7_readTopic_3 zf_X7_160 gX_21_2 ?_
  refine z_iconst (pc := 6) (v := 4) dX7_readTopic_6 zci_4 ?_
  obtain ⟨r3, T2, q1, h⟩ := zb_some h
  refine z_callVi (pc := 7) (st := []) [.int 4, .int (S.1 21 2), .int 4] dX7_readTopic_7 zm_X7_143 zM_X7_beginSort (by decide) oX_2 rfl (w_X7_beginSort_2 l q1) rfl rfl (Nat.le_of_ble_eq_true rfl) ?_
  refine z_if_ne (pc := 10) (tgt := 15) dX7_readTopic_10 (by decide) (fun c4 => ?_) (fun c4 => ?_)
  · have h := ze_some c4 h
    refine z_aload_n (pc := 15) (q := 1) dX7_readTopic_15 rfl rfl ?_
    refine z_dup (pc := 16) dX7_readTopic_16 rfl ?_
    refine z_getI (pc := 17) dX7_readTopic_17 zf_X7_160 gX_21_2 ?_
    refine z_iconst (pc := 20) (v := 1) dX7_readTopic_20 zci_1 ?_
    refine z_iadd (pc := 21) dX7_readTopic_21 ?_
    obtain ⟨T5, eT5, h⟩ := zl_some h
    refine z_putI (pc := 22) dX7_readTopic_22 zp_X7_160 gX_21_2 rfl rfl eT5 ?_
    refine z_iconst (pc := 25) (v := 1) dX7_readTopic_25 zci_1 ?_
    obtain ⟨rfl, rfl⟩ := zr_some h
    exact z_zret dX7_readTopic_26 rfl
  · have h := zt_some c4 h
    refine z_iconst (pc := 13) (v := 0) dX7_readTopic_13 zci_0 ?_
    obtain ⟨rfl, rfl⟩ := zr_some h
    exact z_zret dX7_readTopic_14 rfl
def f_X7_takeKnown_2 (x1 : Int32) (x2 : Int32) (S : zS) : Option (Int32 × zS) :=
  zb (f_X7_isName_2 S) fun r3 T2 =>
  if r3 = 0 then
    zb (f_X7_refuseToken_2 T2) fun r7 T6 =>
    if znb r7 then some (r7, T6) else none
  else
    zb (f_X7_findName_2 x1 x2 T2) fun r7 T6 =>
    zlet (zput T6 2 11 r7) fun T8 =>
    if (T8.1 2 11) = (-1) then
      zb (f_X7_refuse_2 5 (T8.1 2 4) T8) fun r12 T11 =>
      if znb r12 then some (r12, T11) else none
    else
      zu (f_X7_step_2 T8) fun T11 =>
      some (1, T11)
set_option maxRecDepth 100000 in
theorem w_X7_takeKnown_2 (l : Launch) {x1 : Int32} {x2 : Int32} {S : zS} {r : Int32} {S1 : zS} (h : f_X7_takeKnown_2 x1 x2 S = some (r, S1)) : zMet zLX l yX7_takeKnown cX7_takeKnown 3 (some .boolean) 6 [.ref 2, .int x1, .int x2] S (some (.int r)) S1 := by
  unfold f_X7_takeKnown_2 at h
  refine zMet.of (by decide +kernel) (Nat.le_of_ble_eq_true rfl) ?_
  show WA zLX l RX7 cX7_takeKnown 3 (some .boolean) 6 (some (.int r)) S1 0 [(0, .ref 2), (1, .int x1), (2, .int x2)] [] S
  refine z_aload_n (pc := 0) (q := 0) dX7_takeKnown_0 rfl rfl ?_
  obtain ⟨r3, T2, q1, h⟩ := zb_some h
  refine z_callVi (pc := 1) (st := []) [] dX7_takeKnown_1 zm_X7_203 zM_X7_isName (by decide) oX_2 rfl (w_X7_isName_2 l q1) rfl rfl (Nat.le_of_ble_eq_true rfl) ?_
  refine z_if_ne (pc := 4) (tgt := 12) dX7_takeKnown_4 (by decide) (fun c4 => ?_) (fun c4 => ?_)
  · have h := ze_some c4 h
    refine z_aload_n (pc := 12) (q := 0) dX7_takeKnown_12 rfl rfl ?_
    refine z_aload_n (pc := 13) (q := 0) dX7_takeKnown_13 rfl rfl ?_
    refine z_iload_n (pc := 14) (q := 1) dX7_takeKnown_14 rfl rfl ?_
    refine z_iload_n (pc := 15) (q := 2) dX7_takeKnown_15 rfl rfl ?_
    obtain ⟨r7, T6, q5, h⟩ := zb_some h
    refine z_callVi (pc := 16) (st := [.ref 2]) [.int x1, .int x2] dX7_takeKnown_16 zm_X7_206 zM_X7_findName (by decide) oX_2 rfl (w_X7_findName_2 l q5) rfl rfl (Nat.le_of_ble_eq_true rfl) ?_
    obtain ⟨T8, eT8, h⟩ := zl_some h
    refine z_putI (pc := 19) dX7_takeKnown_19 zp_X7_134 gX_2_11 rfl rfl eT8 ?_
    refine z_aload_n (pc := 22) (q := 0) dX7_takeKnown_22 rfl rfl ?_
    refine z_getI (pc := 23) dX7_takeKnown_23 zf_X7_134 gX_2_11 ?_
    refine z_iconst (pc := 26) (v := (-1)) dX7_takeKnown_26 zci_m1 ?_
    refine z_icmp_ne (pc := 27) (tgt := 40) dX7_takeKnown_27 (by decide) (fun c9 => ?_) (fun c9 => ?_)
    · have h := ze_some c9 h
      refine z_aload_n (pc := 40) (q := 0) dX7_takeKnown_40 rfl rfl ?_
      obtain ⟨T11, q10, h⟩ := zu_some h
      refine z_callVv (pc := 41) (st := []) [] dX7_takeKnown_41 zm_X7_62 zM_X7_step (by decide) oX_2 rfl (w_X7_step_2 l q10) rfl rfl (Nat.le_of_ble_eq_true rfl) ?_
      refine z_iconst (pc := 44) (v := 1) dX7_takeKnown_44 zci_1 ?_
      obtain ⟨rfl, rfl⟩ := zr_some h
      exact z_zret dX7_takeKnown_45 rfl
    · have h := zt_some c9 h
      refine z_aload_n (pc := 30) (q := 0) dX7_takeKnown_30 rfl rfl ?_
      refine z_iconst (pc := 31) (v := 5) dX7_takeKnown_31 zci_5 ?_
      refine z_aload_n (pc := 32) (q := 0) dX7_takeKnown_32 rfl rfl ?_
      refine z_getI (pc := 33) dX7_takeKnown_33 zf_X7_182 gX_2_4 ?_
      obtain ⟨r12, T11, q10, h⟩ := zb_some h
      refine z_callVi (pc := 36) (st := []) [.int 5, .int (T8.1 2 4)] dX7_takeKnown_36 zm_X7_191 zM_X7_refuse (by decide) oX_2 rfl (w_X7_refuse_2 l q10) rfl rfl (Nat.le_of_ble_eq_true rfl) ?_
      obtain ⟨c13, h⟩ := zg_some h
      obtain ⟨rfl, rfl⟩ := zr_some h
      exact z_zret dX7_takeKnown_39 (znb_n c13)
  · have h := zt_some c4 h
    refine z_aload_n (pc := 7) (q := 0) dX7_takeKnown_7 rfl rfl ?_
    obtain ⟨r7, T6, q5, h⟩ := zb_some h
    refine z_callVi (pc := 8) (st := []) [] dX7_takeKnown_8 zm_X7_127 zM_X7_refuseToken (by decide) oX_2 rfl (w_X7_refuseToken_2 l q5) rfl rfl (Nat.le_of_ble_eq_true rfl) ?_
    obtain ⟨c8, h⟩ := zg_some h
    obtain ⟨rfl, rfl⟩ := zr_some h
    exact z_zret dX7_takeKnown_11 (znb_n c8)
def f_X7_takeOther_2 (x1 : Int32) (x2 : Int32) (S : zS) : Option (Int32 × zS) :=
  zlet (zput S 2 11 (-1)) fun T1 =>
  zb (f_X7_isWord_2 x1 T1) fun r4 T3 =>
  if r4 = 0 then
    some (1, T3)
  else
    zu (f_X7_step_2 T3) fun T7 =>
    zb (f_X7_takeKnown_2 8 x2 T7) fun r10 T9 =>
    if znb r10 then some (r10, T9) else none
set_option maxRecDepth 100000 in
theorem w_X7_takeOther_2 (l : Launch) {x1 : Int32} {x2 : Int32} {S : zS} {r : Int32} {S1 : zS} (h : f_X7_takeOther_2 x1 x2 S = some (r, S1)) : zMet zLX l yX7_takeOther cX7_takeOther 3 (some .boolean) 7 [.ref 2, .int x1, .int x2] S (some (.int r)) S1 := by
  unfold f_X7_takeOther_2 at h
  refine zMet.of (by decide +kernel) (Nat.le_of_ble_eq_true rfl) ?_
  show WA zLX l RX7 cX7_takeOther 3 (some .boolean) 7 (some (.int r)) S1 0 [(0, .ref 2), (1, .int x1), (2, .int x2)] [] S
  refine z_aload_n (pc := 0) (q := 0) dX7_takeOther_0 rfl rfl ?_
  refine z_iconst (pc := 1) (v := (-1)) dX7_takeOther_1 zci_m1 ?_
  obtain ⟨T1, eT1, h⟩ := zl_some h
  refine z_putI (pc := 2) dX7_takeOther_2 zp_X7_134 gX_2_11 rfl rfl eT1 ?_
  refine z_aload_n (pc := 5) (q := 0) dX7_takeOther_5 rfl rfl ?_
  refine z_iload_n (pc := 6) (q := 1) dX7_takeOther_6 rfl rfl ?_
  obtain ⟨r4, T3, q2, h⟩ := zb_some h
  refine z_callVi (pc := 7) (st := []) [.int x1] dX7_takeOther_7 zm_X7_154 zM_X7_isWord (by decide) oX_2 rfl (w_X7_isWord_2 l q2) rfl rfl (Nat.le_of_ble_eq_true rfl) ?_
  refine z_if_ne (pc := 10) (tgt := 15) dX7_takeOther_10 (by decide) (fun c5 => ?_) (fun c5 => ?_)
  · have h := ze_some c5 h
    refine z_aload_n (pc := 15) (q := 0) dX7_takeOther_15 rfl rfl ?_
    obtain ⟨T7, q6, h⟩ := zu_some h
    refine z_callVv (pc := 16) (st := []) [] dX7_takeOther_16 zm_X7_62 zM_X7_step (by decide) oX_2 rfl (w_X7_step_2 l q6) rfl rfl (Nat.le_of_ble_eq_true rfl) ?_
    refine z_aload_n (pc := 19) (q := 0) dX7_takeOther_19 rfl rfl ?_
    refine z_bipush (pc := 20) (v := 8) dX7_takeOther_20 zcb_8 ?_
    refine z_iload_n (pc := 22) (q := 2) dX7_takeOther_22 rfl rfl ?_
    obtain ⟨r10, T9, q8, h⟩ := zb_some h
    refine z_callVi (pc := 23) (st := []) [.int 8, .int x2] dX7_takeOther_23 zm_X7_169 zM_X7_takeKnown (by decide) oX_2 rfl (w_X7_takeKnown_2 l q8) rfl rfl (Nat.le_of_ble_eq_true rfl) ?_
    obtain ⟨c11, h⟩ := zg_some h
    obtain ⟨rfl, rfl⟩ := zr_some h
    exact z_zret dX7_takeOther_26 (znb_n c11)
  · have h := zt_some c5 h
    refine z_iconst (pc := 13) (v := 1) dX7_takeOther_13 zci_1 ?_
    obtain ⟨rfl, rfl⟩ := zr_some h
    exact z_zret dX7_takeOther_14 rfl
def f_X1_put_29 (x1 : Int32) (x2 : Int32) (x3 : Int32) (x4 : Int32) (x5 : Int32) (x6 : Int32) (x7 : Int32) (S : zS) : Option zS :=
  if x1 < 0 then
    some S
  else
    if x1 < 12 then
      if zin x1 12 then
      zlet (zput S 30 x1.toNatClampNeg x2) fun T4 =>
      if zin x1 12 then
      zlet (zput T4 31 x1.toNatClampNeg x3) fun T6 =>
      if zin x1 12 then
      zlet (zput T6 32 x1.toNatClampNeg x4) fun T8 =>
      if zin x1 12 then
      zlet (zput T8 33 x1.toNatClampNeg x5) fun T10 =>
      if zin x1 12 then
      zlet (zput T10 34 x1.toNatClampNeg x6) fun T12 =>
      if zin x1 12 then
      zlet (zput T12 35 x1.toNatClampNeg x7) fun T14 =>
      some T14 else none else none else none else none else none else none
    else
      some S
set_option maxRecDepth 100000 in
theorem w_X1_put_29 (l : Launch) {x1 : Int32} {x2 : Int32} {x3 : Int32} {x4 : Int32} {x5 : Int32} {x6 : Int32} {x7 : Int32} {S : zS} {S1 : zS} (h : f_X1_put_29 x1 x2 x3 x4 x5 x6 x7 S = some S1) : zMet zLX l yX1_put cX1_put 8 none 1 [.ref 29, .int x1, .int x2, .int x3, .int x4, .int x5, .int x6, .int x7] S none S1 := by
  unfold f_X1_put_29 at h
  refine zMet.of (by decide +kernel) (Nat.le_of_ble_eq_true rfl) ?_
  show WA zLX l RX1 cX1_put 8 none 1 none S1 0 [(0, .ref 29), (1, .int x1), (2, .int x2), (3, .int x3), (4, .int x4), (5, .int x5), (6, .int x6), (7, .int x7)] [] S
  refine z_iload_n (pc := 0) (q := 1) dX1_put_0 rfl rfl ?_
  refine z_if_lt (pc := 1) (tgt := 56) dX1_put_1 (by decide) (fun c1 => ?_) (fun c1 => ?_)
  · have h := zt_some c1 h
    cases h
    exact z_vret dX1_put_56
  · have h := ze_some c1 h
    refine z_iload_n (pc := 4) (q := 1) dX1_put_4 rfl rfl ?_
    refine z_bipush (pc := 5) (v := 12) dX1_put_5 zcb_12 ?_
    refine z_icmp_ge (pc := 7) (tgt := 56) dX1_put_7 (by decide) (fun c2 => ?_) (fun c2 => ?_)
    · have h := ze_some c2 h
      cases h
      exact z_vret dX1_put_56
    · have h := zt_some c2 h
      refine z_aload_n (pc := 10) (q := 0) dX1_put_10 rfl rfl ?_
      refine z_getR (pc := 11) dX1_put_11 zf_X1_9 gX_29_0 ?_
      refine z_iload_n (pc := 14) (q := 1) dX1_put_14 rfl rfl ?_
      refine z_iload_n (pc := 15) (q := 2) dX1_put_15 rfl rfl ?_
      obtain ⟨c3, h⟩ := zg_some h
      obtain ⟨T4, eT4, h⟩ := zl_some h
      refine z_iast (pc := 16) dX1_put_16 aX_30 c3 eT4 ?_
      refine z_aload_n (pc := 17) (q := 0) dX1_put_17 rfl rfl ?_
      refine z_getR (pc := 18) dX1_put_18 zf_X1_15 gX_29_1 ?_
      refine z_iload_n (pc := 21) (q := 1) dX1_put_21 rfl rfl ?_
      refine z_iload_n (pc := 22) (q := 3) dX1_put_22 rfl rfl ?_
      obtain ⟨c5, h⟩ := zg_some h
      obtain ⟨T6, eT6, h⟩ := zl_some h
      refine z_iast (pc := 23) dX1_put_23 aX_31 c5 eT6 ?_
      refine z_aload_n (pc := 24) (q := 0) dX1_put_24 rfl rfl ?_
      refine z_getR (pc := 25) dX1_put_25 zf_X1_18 gX_29_2 ?_
      refine z_iload_n (pc := 28) (q := 1) dX1_put_28 rfl rfl ?_
      refine z_iload (pc := 29) (q := 4) dX1_put_29 rfl ?_
      obtain ⟨c7, h⟩ := zg_some h
      obtain ⟨T8, eT8, h⟩ := zl_some h
      refine z_iast (pc := 31) dX1_put_31 aX_32 c7 eT8 ?_
      refine z_aload_n (pc := 32) (q := 0) dX1_put_32 rfl rfl ?_
      refine z_getR (pc := 33) dX1_put_33 zf_X1_21 gX_29_3 ?_
      refine z_iload_n (pc := 36) (q := 1) dX1_put_36 rfl rfl ?_
      refine z_iload (pc := 37) (q := 5) dX1_put_37 rfl ?_
      obtain ⟨c9, h⟩ := zg_some h
      obtain ⟨T10, eT10, h⟩ := zl_some h
      refine z_iast (pc := 39) dX1_put_39 aX_33 c9 eT10 ?_
      refine z_aload_n (pc := 40) (q := 0) dX1_put_40 rfl rfl ?_
      refine z_getR (pc := 41) dX1_put_41 zf_X1_24 gX_29_4 ?_
      refine z_iload_n (pc := 44) (q := 1) dX1_put_44 rfl rfl ?_
      refine z_iload (pc := 45) (q := 6) dX1_put_45 rfl ?_
      obtain ⟨c11, h⟩ := zg_some h
      obtain ⟨T12, eT12, h⟩ := zl_some h
      refine z_iast (pc := 47) dX1_put_47 aX_34 c11 eT12 ?_
      refine z_aload_n (pc := 48) (q := 0) dX1_put_48 rfl rfl ?_
      refine z_getR (pc := 49) dX1_put_49 zf_X1_27 gX_29_5 ?_
      refine z_iload_n (pc := 52) (q := 1) dX1_put_52 rfl rfl ?_
      refine z_iload (pc := 53) (q := 7) dX1_put_53 rfl ?_
      obtain ⟨c13, h⟩ := zg_some h
      obtain ⟨T14, eT14, h⟩ := zl_some h
      refine z_iast (pc := 55) dX1_put_55 aX_35 c13 eT14 ?_
      cases h
      exact z_vret dX1_put_56
def f_X7_isSign_2 (x1 : Int32) (S : zS) : Option (Int32 × zS) :=
  if (S.1 2 6) = 3 then
    if (S.1 2 7) = x1 then
      some (1, S)
    else
      some (0, S)
  else
    some (0, S)
set_option maxRecDepth 100000 in
theorem w_X7_isSign_2 (l : Launch) {x1 : Int32} {S : zS} {r : Int32} {S1 : zS} (h : f_X7_isSign_2 x1 S = some (r, S1)) : zMet zLX l yX7_isSign cX7_isSign 2 (some .boolean) 1 [.ref 2, .int x1] S (some (.int r)) S1 := by
  unfold f_X7_isSign_2 at h
  refine zMet.of (by decide +kernel) (Nat.le_of_ble_eq_true rfl) ?_
  show WA zLX l RX7 cX7_isSign 2 (some .boolean) 1 (some (.int r)) S1 0 [(0, .ref 2), (1, .int x1)] [] S
  refine z_aload_n (pc := 0) (q := 0) dX7_isSign_0 rfl rfl ?_
  refine z_getI (pc := 1) dX7_isSign_1 zf_X7_68 gX_2_6 ?_
  refine z_iconst (pc := 4) (v := 3) dX7_isSign_4 zci_3 ?_
  refine z_icmp_ne (pc := 5) (tgt := 20) dX7_isSign_5 (by decide) (fun c1 => ?_) (fun c1 => ?_)
  · have h := ze_some c1 h
    refine z_iconst (pc := 20) (v := 0) dX7_isSign_20 zci_0 ?_
    obtain ⟨rfl, rfl⟩ := zr_some h
    exact z_zret dX7_isSign_21 rfl
  · have h := zt_some c1 h
    refine z_aload_n (pc := 8) (q := 0) dX7_isSign_8 rfl rfl ?_
    refine z_getI (pc := 9) dX7_isSign_9 zf_X7_88 gX_2_7 ?_
    refine z_iload_n (pc := 12) (q := 1) dX7_isSign_12 rfl rfl ?_
    refine z_icmp_ne (pc := 13) (tgt := 20) dX7_isSign_13 (by decide) (fun c2 => ?_) (fun c2 => ?_)
    · have h := ze_some c2 h
      refine z_iconst (pc := 20) (v := 0) dX7_isSign_20 zci_0 ?_
      obtain ⟨rfl, rfl⟩ := zr_some h
      exact z_zret dX7_isSign_21 rfl
    · have h := zt_some c2 h
      refine z_iconst (pc := 16) (v := 1) dX7_isSign_16 zci_1 ?_
      refine z_goto (pc := 17) (tgt := 21) dX7_isSign_17 (by decide) ?_
      obtain ⟨rfl, rfl⟩ := zr_some h
      exact z_zret dX7_isSign_21 rfl
def f_X7_takeSaying_2_B66 (s0 : Int32) (S : zS) : Option (Int32 × zS) :=
  zlet (zput S 2 11 s0) fun T1 =>
  zu (f_X7_step_2 T1) fun T3 =>
  some (1, T3)
def f_X7_takeSaying_2_B20 (x1 : Int32) (x2 : Int32) (S : zS) : Option (Int32 × zS) :=
  if (S.1 2 6) = 2 then
    if (9 : Int32) < (S.1 2 7) then
      zb (f_X7_refuse_2 4 x1 S) fun r5 T4 =>
      if znb r5 then some (r5, T4) else none
    else
      if x2 = 0 then
        f_X7_takeSaying_2_B66 (S.1 2 7) S
      else
        f_X7_takeSaying_2_B66 (-(S.1 2 7)) S
  else
    zb (f_X7_refuseToken_2 S) fun r4 T3 =>
    if znb r4 then some (r4, T3) else none
def f_X7_takeSaying_2  (S : zS) : Option (Int32 × zS) :=
  zlet (S.1 2 4) fun v1 =>
  zb (f_X7_isSign_2 45 S) fun r4 T3 =>
  if r4 = 0 then
    f_X7_takeSaying_2_B20 v1 r4 T3
  else
    zu (f_X7_step_2 T3) fun T7 =>
    f_X7_takeSaying_2_B20 v1 r4 T7
set_option maxRecDepth 100000 in
theorem w_X7_takeSaying_2_B66 (l : Launch) {r : Int32} {S1 : zS} (s0 : Int32) (S : zS) (h : f_X7_takeSaying_2_B66 s0 S = some (r, S1)) : WA zLX l RX7 cX7_takeSaying 3 (some .boolean) 6 (some (.int r)) S1 66 [(0, .ref 2)] [.int s0, .ref 2] S := by
  unfold f_X7_takeSaying_2_B66 at h
  obtain ⟨T1, eT1, h⟩ := zl_some h
  refine z_putI (pc := 66) dX7_takeSaying_66 zp_X7_134 gX_2_11 rfl rfl eT1 ?_
  refine z_aload_n (pc := 69) (q := 0) dX7_takeSaying_69 rfl rfl ?_
  obtain ⟨T3, q2, h⟩ := zu_some h
  refine z_callVv (pc := 70) (st := []) [] dX7_takeSaying_70 zm_X7_62 zM_X7_step (by decide) oX_2 rfl (w_X7_step_2 l q2) rfl rfl (Nat.le_of_ble_eq_true rfl) ?_
  refine z_iconst (pc := 73) (v := 1) dX7_takeSaying_73 zci_1 ?_
  obtain ⟨rfl, rfl⟩ := zr_some h
  exact z_zret dX7_takeSaying_74 rfl
set_option maxRecDepth 100000 in
theorem w_X7_takeSaying_2_B20 (l : Launch) {r : Int32} {S1 : zS} (x1 : Int32) (x2 : Int32) (S : zS) (h : f_X7_takeSaying_2_B20 x1 x2 S = some (r, S1)) : WA zLX l RX7 cX7_takeSaying 3 (some .boolean) 6 (some (.int r)) S1 20 [(0, .ref 2), (1, .int x1), (2, .int x2)] [] S := by
  unfold f_X7_takeSaying_2_B20 at h
  refine z_aload_n (pc := 20) (q := 0) dX7_takeSaying_20 rfl rfl ?_
  refine z_getI (pc := 21) dX7_takeSaying_21 zf_X7_68 gX_2_6 ?_
  refine z_iconst (pc := 24) (v := 2) dX7_takeSaying_24 zci_2 ?_
  refine z_icmp_eq (pc := 25) (tgt := 33) dX7_takeSaying_25 (by decide) (fun c1 => ?_) (fun c1 => ?_)
  · have h := zt_some c1 h
    refine z_aload_n (pc := 33) (q := 0) dX7_takeSaying_33 rfl rfl ?_
    refine z_getI (pc := 34) dX7_takeSaying_34 zf_X7_88 gX_2_7 ?_
    refine z_bipush (pc := 37) (v := 9) dX7_takeSaying_37 zcb_9 ?_
    refine z_icmp_le (pc := 39) (tgt := 49) dX7_takeSaying_39 (by decide) (fun c2 => ?_) (fun c2 => ?_)
    · have h := ze_some c2 h
      refine z_aload_n (pc := 49) (q := 0) dX7_takeSaying_49 rfl rfl ?_
      refine z_iload_n (pc := 50) (q := 2) dX7_takeSaying_50 rfl rfl ?_
      refine z_if_eq (pc := 51) (tgt := 62) dX7_takeSaying_51 (by decide) (fun c3 => ?_) (fun c3 => ?_)
      · have h := zt_some c3 h
        refine z_aload_n (pc := 62) (q := 0) dX7_takeSaying_62 rfl rfl ?_
        refine z_getI (pc := 63) dX7_takeSaying_63 zf_X7_88 gX_2_7 ?_
        exact z_sub [0] rfl (w_X7_takeSaying_2_B66 l (S.1 2 7) S h)
      · have h := ze_some c3 h
        refine z_aload_n (pc := 54) (q := 0) dX7_takeSaying_54 rfl rfl ?_
        refine z_getI (pc := 55) dX7_takeSaying_55 zf_X7_88 gX_2_7 ?_
        refine z_ineg (pc := 58) dX7_takeSaying_58 ?_
        refine z_goto (pc := 59) (tgt := 66) dX7_takeSaying_59 (by decide) ?_
        exact z_sub [0] rfl (w_X7_takeSaying_2_B66 l (-(S.1 2 7)) S h)
    · have h := zt_some c2 h
      refine z_aload_n (pc := 42) (q := 0) dX7_takeSaying_42 rfl rfl ?_
      refine z_iconst (pc := 43) (v := 4) dX7_takeSaying_43 zci_4 ?_
      refine z_iload_n (pc := 44) (q := 1) dX7_takeSaying_44 rfl rfl ?_
      obtain ⟨r5, T4, q3, h⟩ := zb_some h
      refine z_callVi (pc := 45) (st := []) [.int 4, .int x1] dX7_takeSaying_45 zm_X7_191 zM_X7_refuse (by decide) oX_2 rfl (w_X7_refuse_2 l q3) rfl rfl (Nat.le_of_ble_eq_true rfl) ?_
      obtain ⟨c6, h⟩ := zg_some h
      obtain ⟨rfl, rfl⟩ := zr_some h
      exact z_zret dX7_takeSaying_48 (znb_n c6)
  · have h := ze_some c1 h
    refine z_aload_n (pc := 28) (q := 0) dX7_takeSaying_28 rfl rfl ?_
    obtain ⟨r4, T3, q2, h⟩ := zb_some h
    refine z_callVi (pc := 29) (st := []) [] dX7_takeSaying_29 zm_X7_127 zM_X7_refuseToken (by decide) oX_2 rfl (w_X7_refuseToken_2 l q2) rfl rfl (Nat.le_of_ble_eq_true rfl) ?_
    obtain ⟨c5, h⟩ := zg_some h
    obtain ⟨rfl, rfl⟩ := zr_some h
    exact z_zret dX7_takeSaying_32 (znb_n c5)
set_option maxRecDepth 100000 in
theorem w_X7_takeSaying_2 (l : Launch)  {S : zS} {r : Int32} {S1 : zS} (h : f_X7_takeSaying_2 S = some (r, S1)) : zMet zLX l yX7_takeSaying cX7_takeSaying 3 (some .boolean) 6 [.ref 2] S (some (.int r)) S1 := by
  unfold f_X7_takeSaying_2 at h
  refine zMet.of (by decide +kernel) (Nat.le_of_ble_eq_true rfl) ?_
  show WA zLX l RX7 cX7_takeSaying 3 (some .boolean) 6 (some (.int r)) S1 0 [(0, .ref 2)] [] S
  refine z_aload_n (pc := 0) (q := 0) dX7_takeSaying_0 rfl rfl ?_
  refine z_getI (pc := 1) dX7_takeSaying_1 zf_X7_182 gX_2_4 ?_
  obtain ⟨v1, ev1, h⟩ := zl_some h
  refine z_top ev1 ?_
  refine z_istore_n (pc := 4) (lo' := [(1, .int v1), (0, .ref 2)]) dX7_takeSaying_4 rfl (by decide) rfl ?_
  refine z_aload_n (pc := 5) (q := 1) dX7_takeSaying_5 rfl rfl ?_
  refine z_bipush (pc := 6) (v := 45) dX7_takeSaying_6 zcb_45 ?_
  obtain ⟨r4, T3, q2, h⟩ := zb_some h
  refine z_callVi (pc := 8) (st := []) [.int 45] dX7_takeSaying_8 zm_X7_228 zM_X7_isSign (by decide) oX_2 rfl (w_X7_isSign_2 l q2) rfl rfl (Nat.le_of_ble_eq_true rfl) ?_
  refine z_istore_n (pc := 11) (lo' := [(2, .int r4), (1, .int v1), (0, .ref 2)]) dX7_takeSaying_11 rfl (by decide) rfl ?_
  refine z_iload_n (pc := 12) (q := 0) dX7_takeSaying_12 rfl rfl ?_
  refine z_if_eq (pc := 13) (tgt := 20) dX7_takeSaying_13 (by decide) (fun c5 => ?_) (fun c5 => ?_)
  · have h := zt_some c5 h
    exact z_sub [2, 1, 0] rfl (w_X7_takeSaying_2_B20 l v1 r4 T3 h)
  · have h := ze_some c5 h
    refine z_aload_n (pc := 16) (q := 2) dX7_takeSaying_16 rfl rfl ?_
    obtain ⟨T7, q6, h⟩ := zu_some h
    refine z_callVv (pc := 17) (st := []) [] dX7_takeSaying_17 zm_X7_62 zM_X7_step (by decide) oX_2 rfl (w_X7_step_2 l q6) rfl rfl (Nat.le_of_ble_eq_true rfl) ?_
    exact z_sub [2, 1, 0] rfl (w_X7_takeSaying_2_B20 l v1 r4 T7 h)
def f_X7_readBill_2_21_B130 (x2 : Int32) (x3 : Int32) (x4 : Int32) (x5 : Int32) (x6 : Int32) (S : zS) : Option (Int32 × zS) :=
  zb (f_X7_takeOther_2 14 x2 S) fun r3 T2 =>
  if r3 = 0 then
    some (0, T2)
  else
    zlet (T2.1 2 11) fun v5 =>
    zb (f_X7_takeOther_2 15 x2 T2) fun r8 T7 =>
    if r8 = 0 then
      some (0, T7)
    else
      zu (f_X1_put_29 x2 x4 x3 x5 x6 v5 (T7.1 2 11) T7) fun T11 =>
      zlet (zput T11 21 4 ((T11.1 21 4) + 1)) fun T12 =>
      some (1, T12)
def f_X7_readBill_2_21  (S : zS) : Option (Int32 × zS) :=
  zlet (S.1 21 4) fun v1 =>
  zb (f_X7_beginSort_2 8 v1 8 S) fun r4 T3 =>
  if r4 = 0 then
    some (0, T3)
  else
    zb (f_X7_takeWord_2 11 T3) fun r8 T7 =>
    if r8 = 0 then
      some (0, T7)
    else
      zb (f_X7_takeKnown_2 0 (T7.1 21 1) T7) fun r12 T11 =>
      if r12 = 0 then
        some (0, T11)
      else
        zlet (T11.1 2 11) fun v14 =>
        zb (f_X7_takeWord_2 12 T11) fun r17 T16 =>
        if r17 = 0 then
          some (0, T16)
        else
          zb (f_X7_takeNumber_2 0 ((T16.1 21 0) - 1) T16) fun r21 T20 =>
          if r21 = 0 then
            some (0, T20)
          else
            zlet (T20.1 2 11) fun v23 =>
            zb (f_X7_isWord_2 13 T20) fun r26 T25 =>
            if r26 = 0 then
              f_X7_readBill_2_21_B130 v1 v14 v23 (-1) 0 T25
            else
              zu (f_X7_step_2 T25) fun T29 =>
              zb (f_X7_takeKnown_2 4 (T29.1 21 2) T29) fun r32 T31 =>
              if r32 = 0 then
                some (0, T31)
              else
                zlet (T31.1 2 11) fun v34 =>
                zb (f_X7_takeSaying_2 T31) fun r37 T36 =>
                if r37 = 0 then
                  some (0, T36)
                else
                  zlet (T36.1 2 11) fun v39 =>
                  f_X7_readBill_2_21_B130 v1 v14 v23 v34 v39 T36
set_option maxRecDepth 100000 in
theorem w_X7_readBill_2_21_B130 (l : Launch) {r : Int32} {S1 : zS} (x2 : Int32) (x3 : Int32) (x4 : Int32) (x5 : Int32) (x6 : Int32) (S : zS) (h : f_X7_readBill_2_21_B130 x2 x3 x4 x5 x6 S = some (r, S1)) : WA zLX l RX7 cX7_readBill 8 (some .boolean) 8 (some (.int r)) S1 130 [(0, .ref 2), (1, .ref 21), (2, .int x2), (3, .int x3), (4, .int x4), (5, .int x5), (6, .int x6)] [] S := by
  unfold f_X7_readBill_2_21_B130 at h
  refine z_aload_n (pc := 130) (q := 0) dX7_readBill_130 rfl rfl ?_
  refine z_bipush (pc := 131) (v := 14) dX7_readBill_131 zcb_14 ?_
  refine z_iload_n (pc := 133) (q := 2) dX7_readBill_133 rfl rfl ?_
  obtain ⟨r3, T2, q1, h⟩ := zb_some h
  refine z_callVi (pc := 134) (st := []) [.int 14, .int x2] dX7_readBill_134 zm_X7_175 zM_X7_takeOther (by decide) oX_2 rfl (w_X7_takeOther_2 l q1) rfl rfl (Nat.le_of_ble_eq_true rfl) ?_
  refine z_if_ne (pc := 137) (tgt := 142) dX7_readBill_137 (by decide) (fun c4 => ?_) (fun c4 => ?_)
  · have h := ze_some c4 h
    refine z_aload_n (pc := 142) (q := 0) dX7_readBill_142 rfl rfl ?_
    refine z_getI (pc := 143) dX7_readBill_143 zf_X7_134 gX_2_11 ?_
    obtain ⟨v5, ev5, h⟩ := zl_some h
    refine z_top ev5 ?_
    refine z_istore (pc := 146) (lo' := [(7, .int v5), (0, .ref 2), (1, .ref 21), (2, .int x2), (3, .int x3), (4, .int x4), (5, .int x5), (6, .int x6)]) dX7_readBill_146 (by decide) rfl ?_
    refine z_aload_n (pc := 148) (q := 1) dX7_readBill_148 rfl rfl ?_
    refine z_bipush (pc := 149) (v := 15) dX7_readBill_149 zcb_15 ?_
    refine z_iload_n (pc := 151) (q := 3) dX7_readBill_151 rfl rfl ?_
    obtain ⟨r8, T7, q6, h⟩ := zb_some h
    refine z_callVi (pc := 152) (st := []) [.int 15, .int x2] dX7_readBill_152 zm_X7_175 zM_X7_takeOther (by decide) oX_2 rfl (w_X7_takeOther_2 l q6) rfl rfl (Nat.le_of_ble_eq_true rfl) ?_
    refine z_if_ne (pc := 155) (tgt := 160) dX7_readBill_155 (by decide) (fun c9 => ?_) (fun c9 => ?_)
    · have h := ze_some c9 h
      refine z_aload_n (pc := 160) (q := 2) dX7_readBill_160 rfl rfl ?_
      refine z_getR (pc := 161) dX7_readBill_161 zf_X7_79 gX_21_13 ?_
      refine z_iload_n (pc := 164) (q := 3) dX7_readBill_164 rfl rfl ?_
      refine z_iload (pc := 165) (q := 5) dX7_readBill_165 rfl ?_
      refine z_iload_n (pc := 167) (q := 4) dX7_readBill_167 rfl rfl ?_
      refine z_iload (pc := 168) (q := 6) dX7_readBill_168 rfl ?_
      refine z_iload (pc := 170) (q := 7) dX7_readBill_170 rfl ?_
      refine z_iload (pc := 172) (q := 0) dX7_readBill_172 rfl ?_
      refine z_aload_n (pc := 174) (q := 1) dX7_readBill_174 rfl rfl ?_
      refine z_getI (pc := 175) dX7_readBill_175 zf_X7_134 gX_2_11 ?_
      obtain ⟨T11, q10, h⟩ := zu_some h
      refine z_callVv (pc := 178) (st := []) [.int x2, .int x4, .int x3, .int x5, .int x6, .int v5, .int (T7.1 2 11)] dX7_readBill_178 zm_X7_178 zM_X1_put (by decide) oX_29 rfl (w_X1_put_29 l q10) rfl rfl (Nat.le_of_ble_eq_true rfl) ?_
      refine z_aload_n (pc := 181) (q := 2) dX7_readBill_181 rfl rfl ?_
      refine z_dup (pc := 182) dX7_readBill_182 rfl ?_
      refine z_getI (pc := 183) dX7_readBill_183 zf_X7_166 gX_21_4 ?_
      refine z_iconst (pc := 186) (v := 1) dX7_readBill_186 zci_1 ?_
      refine z_iadd (pc := 187) dX7_readBill_187 ?_
      obtain ⟨T12, eT12, h⟩ := zl_some h
      refine z_putI (pc := 188) dX7_readBill_188 zp_X7_166 gX_21_4 rfl rfl eT12 ?_
      refine z_iconst (pc := 191) (v := 1) dX7_readBill_191 zci_1 ?_
      obtain ⟨rfl, rfl⟩ := zr_some h
      exact z_zret dX7_readBill_192 rfl
    · have h := zt_some c9 h
      refine z_iconst (pc := 158) (v := 0) dX7_readBill_158 zci_0 ?_
      obtain ⟨rfl, rfl⟩ := zr_some h
      exact z_zret dX7_readBill_159 rfl
  · have h := zt_some c4 h
    refine z_iconst (pc := 140) (v := 0) dX7_readBill_140 zci_0 ?_
    obtain ⟨rfl, rfl⟩ := zr_some h
    exact z_zret dX7_readBill_141 rfl
set_option maxRecDepth 100000 in
theorem w_X7_readBill_2_21 (l : Launch)  {S : zS} {r : Int32} {S1 : zS} (h : f_X7_readBill_2_21 S = some (r, S1)) : zMet zLX l yX7_readBill cX7_readBill 8 (some .boolean) 8 [.ref 2, .ref 21] S (some (.int r)) S1 := by
  unfold f_X7_readBill_2_21 at h
  refine zMet.of (by decide +kernel) (Nat.le_of_ble_eq_true rfl) ?_
  show WA zLX l RX7 cX7_readBill 8 (some .boolean) 8 (some (.int r)) S1 0 [(0, .ref 2), (1, .ref 21)] [] S
  refine z_aload_n (pc := 0) (q := 1) dX7_readBill_0 rfl rfl ?_
  refine z_getI (pc := 1) dX7_readBill_1 zf_X7_166 gX_21_4 ?_
  obtain ⟨v1, ev1, h⟩ := zl_some h
  refine z_top ev1 ?_
  refine z_istore_n (pc := 4) (lo' := [(2, .int v1), (0, .ref 2), (1, .ref 21)]) dX7_readBill_4 rfl (by decide) rfl ?_
  refine z_aload_n (pc := 5) (q := 1) dX7_readBill_5 rfl rfl ?_
  refine z_bipush (pc := 6) (v := 8) dX7_readBill_6 zcb_8 ?_
  refine z_iload_n (pc := 8) (q := 0) dX7_readBill_8 rfl rfl ?_
  refine z_bipush (pc := 9) (v := 8) dX7_readBill_9 zcb_8 ?_
  obtain ⟨r4, T3, q2, h⟩ := zb_some h
  refine z_callVi (pc := 11) (st := []) [.int 8, .int v1, .int 8] dX7_readBill_11 zm_X7_143 zM_X7_beginSort (by decide) oX_2 rfl (w_X7_beginSort_2 l q2) rfl rfl (Nat.le_of_ble_eq_true rfl) ?_
  refine z_if_eq (pc := 14) (tgt := 38) dX7_readBill_14 (by decide) (fun c5 => ?_) (fun c5 => ?_)
  · have h := zt_some c5 h
    refine z_iconst (pc := 38) (v := 0) dX7_readBill_38 zci_0 ?_
    obtain ⟨rfl, rfl⟩ := zr_some h
    exact z_zret dX7_readBill_39 rfl
  · have h := ze_some c5 h
    refine z_aload_n (pc := 17) (q := 1) dX7_readBill_17 rfl rfl ?_
    refine z_bipush (pc := 18) (v := 11) dX7_readBill_18 zcb_11 ?_
    obtain ⟨r8, T7, q6, h⟩ := zb_some h
    refine z_callVi (pc := 20) (st := []) [.int 11] dX7_readBill_20 zm_X7_147 zM_X7_takeWord (by decide) oX_2 rfl (w_X7_takeWord_2 l q6) rfl rfl (Nat.le_of_ble_eq_true rfl) ?_
    refine z_if_eq (pc := 23) (tgt := 38) dX7_readBill_23 (by decide) (fun c9 => ?_) (fun c9 => ?_)
    · have h := zt_some c9 h
      refine z_iconst (pc := 38) (v := 0) dX7_readBill_38 zci_0 ?_
      obtain ⟨rfl, rfl⟩ := zr_some h
      exact z_zret dX7_readBill_39 rfl
    · have h := ze_some c9 h
      refine z_aload_n (pc := 26) (q := 1) dX7_readBill_26 rfl rfl ?_
      refine z_iconst (pc := 27) (v := 0) dX7_readBill_27 zci_0 ?_
      refine z_aload_n (pc := 28) (q := 2) dX7_readBill_28 rfl rfl ?_
      refine z_getI (pc := 29) dX7_readBill_29 zf_X7_140 gX_21_1 ?_
      obtain ⟨r12, T11, q10, h⟩ := zb_some h
      refine z_callVi (pc := 32) (st := []) [.int 0, .int (T7.1 21 1)] dX7_readBill_32 zm_X7_169 zM_X7_takeKnown (by decide) oX_2 rfl (w_X7_takeKnown_2 l q10) rfl rfl (Nat.le_of_ble_eq_true rfl) ?_
      refine z_if_ne (pc := 35) (tgt := 40) dX7_readBill_35 (by decide) (fun c13 => ?_) (fun c13 => ?_)
      · have h := ze_some c13 h
        refine z_aload_n (pc := 40) (q := 1) dX7_readBill_40 rfl rfl ?_
        refine z_getI (pc := 41) dX7_readBill_41 zf_X7_134 gX_2_11 ?_
        obtain ⟨v14, ev14, h⟩ := zl_some h
        refine z_top ev14 ?_
        refine z_istore_n (pc := 44) (lo' := [(3, .int v14), (2, .int v1), (0, .ref 2), (1, .ref 21)]) dX7_readBill_44 rfl (by decide) rfl ?_
        refine z_aload_n (pc := 45) (q := 2) dX7_readBill_45 rfl rfl ?_
        refine z_bipush (pc := 46) (v := 12) dX7_readBill_46 zcb_12 ?_
        obtain ⟨r17, T16, q15, h⟩ := zb_some h
        refine z_callVi (pc := 48) (st := []) [.int 12] dX7_readBill_48 zm_X7_147 zM_X7_takeWord (by decide) oX_2 rfl (w_X7_takeWord_2 l q15) rfl rfl (Nat.le_of_ble_eq_true rfl) ?_
        refine z_if_eq (pc := 51) (tgt := 68) dX7_readBill_51 (by decide) (fun c18 => ?_) (fun c18 => ?_)
        · have h := zt_some c18 h
          refine z_iconst (pc := 68) (v := 0) dX7_readBill_68 zci_0 ?_
          obtain ⟨rfl, rfl⟩ := zr_some h
          exact z_zret dX7_readBill_69 rfl
        · have h := ze_some c18 h
          refine z_aload_n (pc := 54) (q := 2) dX7_readBill_54 rfl rfl ?_
          refine z_iconst (pc := 55) (v := 0) dX7_readBill_55 zci_0 ?_
          refine z_aload_n (pc := 56) (q := 3) dX7_readBill_56 rfl rfl ?_
          refine z_getI (pc := 57) dX7_readBill_57 zf_X7_137 gX_21_0 ?_
          refine z_iconst (pc := 60) (v := 1) dX7_readBill_60 zci_1 ?_
          refine z_isub (pc := 61) dX7_readBill_61 ?_
          obtain ⟨r21, T20, q19, h⟩ := zb_some h
          refine z_callVi (pc := 62) (st := []) [.int 0, .int ((T16.1 21 0) - 1)] dX7_readBill_62 zm_X7_130 zM_X7_takeNumber (by decide) oX_2 rfl (w_X7_takeNumber_2 l q19) rfl rfl (Nat.le_of_ble_eq_true rfl) ?_
          refine z_if_ne (pc := 65) (tgt := 70) dX7_readBill_65 (by decide) (fun c22 => ?_) (fun c22 => ?_)
          · have h := ze_some c22 h
            refine z_aload_n (pc := 70) (q := 2) dX7_readBill_70 rfl rfl ?_
            refine z_getI (pc := 71) dX7_readBill_71 zf_X7_134 gX_2_11 ?_
            obtain ⟨v23, ev23, h⟩ := zl_some h
            refine z_top ev23 ?_
            refine z_istore (pc := 74) (lo' := [(4, .int v23), (3, .int v14), (2, .int v1), (0, .ref 2), (1, .ref 21)]) dX7_readBill_74 (by decide) rfl ?_
            refine z_iconst (pc := 76) (v := (-1)) dX7_readBill_76 zci_m1 ?_
            refine z_istore (pc := 77) (lo' := [(5, .int (-1)), (4, .int v23), (3, .int v14), (2, .int v1), (0, .ref 2), (1, .ref 21)]) dX7_readBill_77 (by decide) rfl ?_
            refine z_iconst (pc := 79) (v := 0) dX7_readBill_79 zci_0 ?_
            refine z_istore (pc := 80) (lo' := [(6, .int 0), (5, .int (-1)), (4, .int v23), (3, .int v14), (2, .int v1), (0, .ref 2), (1, .ref 21)]) dX7_readBill_80 (by decide) rfl ?_
            refine z_aload_n (pc := 82) (q := 5) dX7_readBill_82 rfl rfl ?_
            refine z_bipush (pc := 83) (v := 13) dX7_readBill_83 zcb_13 ?_
            obtain ⟨r26, T25, q24, h⟩ := zb_some h
            refine z_callVi (pc := 85) (st := []) [.int 13] dX7_readBill_85 zm_X7_154 zM_X7_isWord (by decide) oX_2 rfl (w_X7_isWord_2 l q24) rfl rfl (Nat.le_of_ble_eq_true rfl) ?_
            refine z_if_eq (pc := 88) (tgt := 130) dX7_readBill_88 (by decide) (fun c27 => ?_) (fun c27 => ?_)
            · have h := zt_some c27 h
              exact z_sub [5, 6, 4, 3, 2, 1, 0] rfl (w_X7_readBill_2_21_B130 l v1 v14 v23 (-1) 0 T25 h)
            · have h := ze_some c27 h
              refine z_aload_n (pc := 91) (q := 5) dX7_readBill_91 rfl rfl ?_
              obtain ⟨T29, q28, h⟩ := zu_some h
              refine z_callVv (pc := 92) (st := []) [] dX7_readBill_92 zm_X7_62 zM_X7_step (by decide) oX_2 rfl (w_X7_step_2 l q28) rfl rfl (Nat.le_of_ble_eq_true rfl) ?_
              refine z_aload_n (pc := 95) (q := 5) dX7_readBill_95 rfl rfl ?_
              refine z_iconst (pc := 96) (v := 4) dX7_readBill_96 zci_4 ?_
              refine z_aload_n (pc := 97) (q := 6) dX7_readBill_97 rfl rfl ?_
              refine z_getI (pc := 98) dX7_readBill_98 zf_X7_160 gX_21_2 ?_
              obtain ⟨r32, T31, q30, h⟩ := zb_some h
              refine z_callVi (pc := 101) (st := []) [.int 4, .int (T29.1 21 2)] dX7_readBill_101 zm_X7_169 zM_X7_takeKnown (by decide) oX_2 rfl (w_X7_takeKnown_2 l q30) rfl rfl (Nat.le_of_ble_eq_true rfl) ?_
              refine z_if_ne (pc := 104) (tgt := 109) dX7_readBill_104 (by decide) (fun c33 => ?_) (fun c33 => ?_)
              · have h := ze_some c33 h
                refine z_aload_n (pc := 109) (q := 5) dX7_readBill_109 rfl rfl ?_
                refine z_getI (pc := 110) dX7_readBill_110 zf_X7_134 gX_2_11 ?_
                obtain ⟨v34, ev34, h⟩ := zl_some h
                refine z_top ev34 ?_
                refine z_istore (pc := 113) (lo' := [(5, .int v34), (6, .int 0), (4, .int v23), (3, .int v14), (2, .int v1), (0, .ref 2), (1, .ref 21)]) dX7_readBill_113 (by decide) rfl ?_
                refine z_aload_n (pc := 115) (q := 5) dX7_readBill_115 rfl rfl ?_
                obtain ⟨r37, T36, q35, h⟩ := zb_some h
                refine z_callVi (pc := 116) (st := []) [] dX7_readBill_116 zm_X7_172 zM_X7_takeSaying (by decide) oX_2 rfl (w_X7_takeSaying_2 l q35) rfl rfl (Nat.le_of_ble_eq_true rfl) ?_
                refine z_if_ne (pc := 119) (tgt := 124) dX7_readBill_119 (by decide) (fun c38 => ?_) (fun c38 => ?_)
                · have h := ze_some c38 h
                  refine z_aload_n (pc := 124) (q := 5) dX7_readBill_124 rfl rfl ?_
                  refine z_getI (pc := 125) dX7_readBill_125 zf_X7_134 gX_2_11 ?_
                  obtain ⟨v39, ev39, h⟩ := zl_some h
                  refine z_top ev39 ?_
                  refine z_istore (pc := 128) (lo' := [(6, .int v39), (5, .int v34), (4, .int v23), (3, .int v14), (2, .int v1), (0, .ref 2), (1, .ref 21)]) dX7_readBill_128 (by decide) rfl ?_
                  exact z_sub [5, 6, 4, 3, 2, 1, 0] rfl (w_X7_readBill_2_21_B130 l v1 v14 v23 v34 v39 T36 h)
                · have h := zt_some c38 h
                  refine z_iconst (pc := 122) (v := 0) dX7_readBill_122 zci_0 ?_
                  obtain ⟨rfl, rfl⟩ := zr_some h
                  exact z_zret dX7_readBill_123 rfl
              · have h := zt_some c33 h
                refine z_iconst (pc := 107) (v := 0) dX7_readBill_107 zci_0 ?_
                obtain ⟨rfl, rfl⟩ := zr_some h
                exact z_zret dX7_readBill_108 rfl
          · have h := zt_some c22 h
            refine z_iconst (pc := 68) (v := 0) dX7_readBill_68 zci_0 ?_
            obtain ⟨rfl, rfl⟩ := zr_some h
            exact z_zret dX7_readBill_69 rfl
      · have h := zt_some c13 h
        refine z_iconst (pc := 38) (v := 0) dX7_readBill_38 zci_0 ?_
        obtain ⟨rfl, rfl⟩ := zr_some h
        exact z_zret dX7_readBill_39 rfl
def f_X7_readParty_2_21  (S : zS) : Option (Int32 × zS) :=
  zb (f_X7_beginSort_2 16 (S.1 21 3) 3 S) fun r3 T2 =>
  if r3 = 0 then
    some (0, T2)
  else
    zlet (zput T2 21 3 ((T2.1 21 3) + 1)) fun T5 =>
    some (1, T5)
set_option maxRecDepth 100000 in
theorem w_X7_readParty_2_21 (l : Launch)  {S : zS} {r : Int32} {S1 : zS} (h : f_X7_readParty_2_21 S = some (r, S1)) : zMet zLX l yX7_readParty cX7_readParty 2 (some .boolean) 7 [.ref 2, .ref 21] S (some (.int r)) S1 := by
  unfold f_X7_readParty_2_21 at h
  refine zMet.of (by decide +kernel) (Nat.le_of_ble_eq_true rfl) ?_
  show WA zLX l RX7 cX7_readParty 2 (some .boolean) 7 (some (.int r)) S1 0 [(0, .ref 2), (1, .ref 21)] [] S
  refine z_aload_n (pc := 0) (q := 0) dX7_readParty_0 rfl rfl ?_
  refine z_bipush (pc := 1) (v := 16) dX7_readParty_1 zcb_16 ?_
  refine z_aload_n (pc := 3) (q := 1) dX7_readParty_3 rfl rfl ?_
  refine z_getI (pc := 4) dX7_readParty_4 zf_X7_163 gX_21_3 ?_
  refine z_iconst (pc := 7) (v := 3) dX7_readParty_7 zci_3 ?_
  obtain ⟨r3, T2, q1, h⟩ := zb_some h
  refine z_callVi (pc := 8) (st := []) [.int 16, .int (S.1 21 3), .int 3] dX7_readParty_8 zm_X7_143 zM_X7_beginSort (by decide) oX_2 rfl (w_X7_beginSort_2 l q1) rfl rfl (Nat.le_of_ble_eq_true rfl) ?_
  refine z_if_ne (pc := 11) (tgt := 16) dX7_readParty_11 (by decide) (fun c4 => ?_) (fun c4 => ?_)
  · have h := ze_some c4 h
    refine z_aload_n (pc := 16) (q := 1) dX7_readParty_16 rfl rfl ?_
    refine z_dup (pc := 17) dX7_readParty_17 rfl ?_
    refine z_getI (pc := 18) dX7_readParty_18 zf_X7_163 gX_21_3 ?_
    refine z_iconst (pc := 21) (v := 1) dX7_readParty_21 zci_1 ?_
    refine z_iadd (pc := 22) dX7_readParty_22 ?_
    obtain ⟨T5, eT5, h⟩ := zl_some h
    refine z_putI (pc := 23) dX7_readParty_23 zp_X7_163 gX_21_3 rfl rfl eT5 ?_
    refine z_iconst (pc := 26) (v := 1) dX7_readParty_26 zci_1 ?_
    obtain ⟨rfl, rfl⟩ := zr_some h
    exact z_zret dX7_readParty_27 rfl
  · have h := zt_some c4 h
    refine z_iconst (pc := 14) (v := 0) dX7_readParty_14 zci_0 ?_
    obtain ⟨rfl, rfl⟩ := zr_some h
    exact z_zret dX7_readParty_15 rfl
def f_X7_readWants_2_21_B88 (x3 : Int32) (S : zS) : Option (Int32 × zS) :=
  zb (f_X7_refuse_2 3 x3 S) fun r3 T2 =>
  if znb r3 then some (r3, T2) else none
def f_X7_readWants_2_21  (S : zS) : Option (Int32 × zS) :=
  zu (f_X7_step_2 S) fun T2 =>
  zb (f_X7_takeKnown_2 16 (T2.1 21 3) T2) fun r5 T4 =>
  if r5 = 0 then
    some (0, T4)
  else
    zlet (T4.1 2 11) fun v7 =>
    zlet (T4.1 2 4) fun v8 =>
    zb (f_X7_takeKnown_2 4 (T4.1 21 2) T4) fun r11 T10 =>
    if r11 = 0 then
      some (0, T10)
    else
      zlet ((v7 * 4) + (T10.1 2 11)) fun v13 =>
      if v13 < 0 then
        f_X7_readWants_2_21_B88 v8 T10
      else
        if v13 < 12 then
          if v13 < 12 then
            if zin v13 12 then
            if (T10.1 24 v13.toNatClampNeg) = 0 then
              zb (f_X7_takeSaying_2 T10) fun r21 T20 =>
              if r21 = 0 then
                some (0, T20)
              else
                if zin v13 12 then
                zlet (zput T20 23 v13.toNatClampNeg (T20.1 2 11)) fun T24 =>
                zb (f_X7_takeWord_2 16 T24) fun r27 T26 =>
                if r27 = 0 then
                  some (0, T26)
                else
                  zb (f_X7_takeNumber_2 1 9 T26) fun r31 T30 =>
                  if r31 = 0 then
                    some (0, T30)
                  else
                    if zin v13 12 then
                    zlet (zput T30 24 v13.toNatClampNeg (T30.1 2 11)) fun T34 =>
                    some (1, T34) else none else none
            else
              f_X7_readWants_2_21_B88 v8 T10 else none
          else
            f_X7_readWants_2_21_B88 v8 T10
        else
          f_X7_readWants_2_21_B88 v8 T10
set_option maxRecDepth 100000 in
theorem w_X7_readWants_2_21_B88 (l : Launch) {r : Int32} {S1 : zS} (x3 : Int32) (S : zS) (h : f_X7_readWants_2_21_B88 x3 S = some (r, S1)) : WA zLX l RX7 cX7_readWants 5 (some .boolean) 7 (some (.int r)) S1 88 [(0, .ref 2), (3, .int x3)] [] S := by
  unfold f_X7_readWants_2_21_B88 at h
  refine z_aload_n (pc := 88) (q := 0) dX7_readWants_88 rfl rfl ?_
  refine z_iconst (pc := 89) (v := 3) dX7_readWants_89 zci_3 ?_
  refine z_iload_n (pc := 90) (q := 1) dX7_readWants_90 rfl rfl ?_
  obtain ⟨r3, T2, q1, h⟩ := zb_some h
  refine z_callVi (pc := 91) (st := []) [.int 3, .int x3] dX7_readWants_91 zm_X7_191 zM_X7_refuse (by decide) oX_2 rfl (w_X7_refuse_2 l q1) rfl rfl (Nat.le_of_ble_eq_true rfl) ?_
  obtain ⟨c4, h⟩ := zg_some h
  obtain ⟨rfl, rfl⟩ := zr_some h
  exact z_zret dX7_readWants_94 (znb_n c4)
set_option maxRecDepth 100000 in
theorem w_X7_readWants_2_21 (l : Launch)  {S : zS} {r : Int32} {S1 : zS} (h : f_X7_readWants_2_21 S = some (r, S1)) : zMet zLX l yX7_readWants cX7_readWants 5 (some .boolean) 7 [.ref 2, .ref 21] S (some (.int r)) S1 := by
  unfold f_X7_readWants_2_21 at h
  refine zMet.of (by decide +kernel) (Nat.le_of_ble_eq_true rfl) ?_
  show WA zLX l RX7 cX7_readWants 5 (some .boolean) 7 (some (.int r)) S1 0 [(0, .ref 2), (1, .ref 21)] [] S
  refine z_aload_n (pc := 0) (q := 0) dX7_readWants_0 rfl rfl ?_
  obtain ⟨T2, q1, h⟩ := zu_some h
  refine z_callVv (pc := 1) (st := []) [] dX7_readWants_1 zm_X7_62 zM_X7_step (by decide) oX_2 rfl (w_X7_step_2 l q1) rfl rfl (Nat.le_of_ble_eq_true rfl) ?_
  refine z_aload_n (pc := 4) (q := 0) dX7_readWants_4 rfl rfl ?_
  refine z_bipush (pc := 5) (v := 16) dX7_readWants_5 zcb_16 ?_
  refine z_aload_n (pc := 7) (q := 1) dX7_readWants_7 rfl rfl ?_
  refine z_getI (pc := 8) dX7_readWants_8 zf_X7_163 gX_21_3 ?_
  obtain ⟨r5, T4, q3, h⟩ := zb_some h
  refine z_callVi (pc := 11) (st := []) [.int 16, .int (T2.1 21 3)] dX7_readWants_11 zm_X7_169 zM_X7_takeKnown (by decide) oX_2 rfl (w_X7_takeKnown_2 l q3) rfl rfl (Nat.le_of_ble_eq_true rfl) ?_
  refine z_if_ne (pc := 14) (tgt := 19) dX7_readWants_14 (by decide) (fun c6 => ?_) (fun c6 => ?_)
  · have h := ze_some c6 h
    refine z_aload_n (pc := 19) (q := 0) dX7_readWants_19 rfl rfl ?_
    refine z_getI (pc := 20) dX7_readWants_20 zf_X7_134 gX_2_11 ?_
    obtain ⟨v7, ev7, h⟩ := zl_some h
    refine z_top ev7 ?_
    refine z_istore_n (pc := 23) (lo' := [(2, .int v7), (0, .ref 2), (1, .ref 21)]) dX7_readWants_23 rfl (by decide) rfl ?_
    refine z_aload_n (pc := 24) (q := 1) dX7_readWants_24 rfl rfl ?_
    refine z_getI (pc := 25) dX7_readWants_25 zf_X7_182 gX_2_4 ?_
    obtain ⟨v8, ev8, h⟩ := zl_some h
    refine z_top ev8 ?_
    refine z_istore_n (pc := 28) (lo' := [(3, .int v8), (2, .int v7), (0, .ref 2), (1, .ref 21)]) dX7_readWants_28 rfl (by decide) rfl ?_
    refine z_aload_n (pc := 29) (q := 2) dX7_readWants_29 rfl rfl ?_
    refine z_iconst (pc := 30) (v := 4) dX7_readWants_30 zci_4 ?_
    refine z_aload_n (pc := 31) (q := 3) dX7_readWants_31 rfl rfl ?_
    refine z_getI (pc := 32) dX7_readWants_32 zf_X7_160 gX_21_2 ?_
    obtain ⟨r11, T10, q9, h⟩ := zb_some h
    refine z_callVi (pc := 35) (st := []) [.int 4, .int (T4.1 21 2)] dX7_readWants_35 zm_X7_169 zM_X7_takeKnown (by decide) oX_2 rfl (w_X7_takeKnown_2 l q9) rfl rfl (Nat.le_of_ble_eq_true rfl) ?_
    refine z_if_ne (pc := 38) (tgt := 43) dX7_readWants_38 (by decide) (fun c12 => ?_) (fun c12 => ?_)
    · have h := ze_some c12 h
      refine z_iload_n (pc := 43) (q := 1) dX7_readWants_43 rfl rfl ?_
      refine z_iconst (pc := 44) (v := 4) dX7_readWants_44 zci_4 ?_
      refine z_imul (pc := 45) dX7_readWants_45 ?_
      refine z_aload_n (pc := 46) (q := 2) dX7_readWants_46 rfl rfl ?_
      refine z_getI (pc := 47) dX7_readWants_47 zf_X7_134 gX_2_11 ?_
      refine z_iadd (pc := 50) dX7_readWants_50 ?_
      obtain ⟨v13, ev13, h⟩ := zl_some h
      refine z_top ev13 ?_
      refine z_istore (pc := 51) (lo' := [(4, .int v13), (3, .int v8), (2, .int v7), (0, .ref 2), (1, .ref 21)]) dX7_readWants_51 (by decide) rfl ?_
      refine z_iload (pc := 53) (q := 0) dX7_readWants_53 rfl ?_
      refine z_if_lt (pc := 55) (tgt := 88) dX7_readWants_55 (by decide) (fun c14 => ?_) (fun c14 => ?_)
      · have h := zt_some c14 h
        exact z_sub [3, 1] rfl (w_X7_readWants_2_21_B88 l v8 T10 h)
      · have h := ze_some c14 h
        refine z_iload (pc := 58) (q := 0) dX7_readWants_58 rfl ?_
        refine z_aload_n (pc := 60) (q := 4) dX7_readWants_60 rfl rfl ?_
        refine z_getR (pc := 61) dX7_readWants_61 zf_X7_185 gX_21_8 ?_
        refine z_alen (pc := 64) (v := 12) dX7_readWants_64 aX_24 (by decide) (by decide) ?_
        refine z_icmp_ge (pc := 65) (tgt := 88) dX7_readWants_65 (by decide) (fun c15 => ?_) (fun c15 => ?_)
        · have h := ze_some c15 h
          exact z_sub [3, 1] rfl (w_X7_readWants_2_21_B88 l v8 T10 h)
        · have h := zt_some c15 h
          refine z_iload (pc := 68) (q := 0) dX7_readWants_68 rfl ?_
          refine z_aload_n (pc := 70) (q := 4) dX7_readWants_70 rfl rfl ?_
          refine z_getR (pc := 71) dX7_readWants_71 zf_X7_188 gX_21_7 ?_
          refine z_alen (pc := 74) (v := 12) dX7_readWants_74 aX_23 (by decide) (by decide) ?_
          refine z_icmp_ge (pc := 75) (tgt := 88) dX7_readWants_75 (by decide) (fun c16 => ?_) (fun c16 => ?_)
          · have h := ze_some c16 h
            exact z_sub [3, 1] rfl (w_X7_readWants_2_21_B88 l v8 T10 h)
          · have h := zt_some c16 h
            refine z_aload_n (pc := 78) (q := 4) dX7_readWants_78 rfl rfl ?_
            refine z_getR (pc := 79) dX7_readWants_79 zf_X7_185 gX_21_8 ?_
            refine z_iload (pc := 82) (q := 0) dX7_readWants_82 rfl ?_
            obtain ⟨c17, h⟩ := zg_some h
            refine z_iald (pc := 84) dX7_readWants_84 aX_24 c17 ?_
            refine z_if_eq (pc := 85) (tgt := 95) dX7_readWants_85 (by decide) (fun c18 => ?_) (fun c18 => ?_)
            · have h := zt_some c18 h
              refine z_aload_n (pc := 95) (q := 3) dX7_readWants_95 rfl rfl ?_
              obtain ⟨r21, T20, q19, h⟩ := zb_some h
              refine z_callVi (pc := 96) (st := []) [] dX7_readWants_96 zm_X7_172 zM_X7_takeSaying (by decide) oX_2 rfl (w_X7_takeSaying_2 l q19) rfl rfl (Nat.le_of_ble_eq_true rfl) ?_
              refine z_if_ne (pc := 99) (tgt := 104) dX7_readWants_99 (by decide) (fun c22 => ?_) (fun c22 => ?_)
              · have h := ze_some c22 h
                refine z_aload_n (pc := 104) (q := 4) dX7_readWants_104 rfl rfl ?_
                refine z_getR (pc := 105) dX7_readWants_105 zf_X7_188 gX_21_7 ?_
                refine z_iload (pc := 108) (q := 0) dX7_readWants_108 rfl ?_
                refine z_aload_n (pc := 110) (q := 3) dX7_readWants_110 rfl rfl ?_
                refine z_getI (pc := 111) dX7_readWants_111 zf_X7_134 gX_2_11 ?_
                obtain ⟨c23, h⟩ := zg_some h
                obtain ⟨T24, eT24, h⟩ := zl_some h
                refine z_iast (pc := 114) dX7_readWants_114 aX_23 c23 eT24 ?_
                refine z_aload_n (pc := 115) (q := 3) dX7_readWants_115 rfl rfl ?_
                refine z_bipush (pc := 116) (v := 16) dX7_readWants_116 zcb_16 ?_
                obtain ⟨r27, T26, q25, h⟩ := zb_some h
                refine z_callVi (pc := 118) (st := []) [.int 16] dX7_readWants_118 zm_X7_147 zM_X7_takeWord (by decide) oX_2 rfl (w_X7_takeWord_2 l q25) rfl rfl (Nat.le_of_ble_eq_true rfl) ?_
                refine z_if_eq (pc := 121) (tgt := 134) dX7_readWants_121 (by decide) (fun c28 => ?_) (fun c28 => ?_)
                · have h := zt_some c28 h
                  refine z_iconst (pc := 134) (v := 0) dX7_readWants_134 zci_0 ?_
                  obtain ⟨rfl, rfl⟩ := zr_some h
                  exact z_zret dX7_readWants_135 rfl
                · have h := ze_some c28 h
                  refine z_aload_n (pc := 124) (q := 3) dX7_readWants_124 rfl rfl ?_
                  refine z_iconst (pc := 125) (v := 1) dX7_readWants_125 zci_1 ?_
                  refine z_bipush (pc := 126) (v := 9) dX7_readWants_126 zcb_9 ?_
                  obtain ⟨r31, T30, q29, h⟩ := zb_some h
                  refine z_callVi (pc := 128) (st := []) [.int 1, .int 9] dX7_readWants_128 zm_X7_130 zM_X7_takeNumber (by decide) oX_2 rfl (w_X7_takeNumber_2 l q29) rfl rfl (Nat.le_of_ble_eq_true rfl) ?_
                  refine z_if_ne (pc := 131) (tgt := 136) dX7_readWants_131 (by decide) (fun c32 => ?_) (fun c32 => ?_)
                  · have h := ze_some c32 h
                    refine z_aload_n (pc := 136) (q := 4) dX7_readWants_136 rfl rfl ?_
                    refine z_getR (pc := 137) dX7_readWants_137 zf_X7_185 gX_21_8 ?_
                    refine z_iload (pc := 140) (q := 0) dX7_readWants_140 rfl ?_
                    refine z_aload_n (pc := 142) (q := 3) dX7_readWants_142 rfl rfl ?_
                    refine z_getI (pc := 143) dX7_readWants_143 zf_X7_134 gX_2_11 ?_
                    obtain ⟨c33, h⟩ := zg_some h
                    obtain ⟨T34, eT34, h⟩ := zl_some h
                    refine z_iast (pc := 146) dX7_readWants_146 aX_24 c33 eT34 ?_
                    refine z_iconst (pc := 147) (v := 1) dX7_readWants_147 zci_1 ?_
                    obtain ⟨rfl, rfl⟩ := zr_some h
                    exact z_zret dX7_readWants_148 rfl
                  · have h := zt_some c32 h
                    refine z_iconst (pc := 134) (v := 0) dX7_readWants_134 zci_0 ?_
                    obtain ⟨rfl, rfl⟩ := zr_some h
                    exact z_zret dX7_readWants_135 rfl
              · have h := zt_some c22 h
                refine z_iconst (pc := 102) (v := 0) dX7_readWants_102 zci_0 ?_
                obtain ⟨rfl, rfl⟩ := zr_some h
                exact z_zret dX7_readWants_103 rfl
            · have h := ze_some c18 h
              exact z_sub [3, 1] rfl (w_X7_readWants_2_21_B88 l v8 T10 h)
    · have h := zt_some c12 h
      refine z_iconst (pc := 41) (v := 0) dX7_readWants_41 zci_0 ?_
      obtain ⟨rfl, rfl⟩ := zr_some h
      exact z_zret dX7_readWants_42 rfl
  · have h := zt_some c6 h
    refine z_iconst (pc := 17) (v := 0) dX7_readWants_17 zci_0 ?_
    obtain ⟨rfl, rfl⟩ := zr_some h
    exact z_zret dX7_readWants_18 rfl
def f_X7_beginOnce_2  (S : zS) : Option (Int32 × zS) :=
  zlet (1 <<< ((S.1 2 7) &&& 31)) fun v1 =>
  if ((S.1 2 10) &&& v1) = 0 then
    zlet (zput S 2 10 ((S.1 2 10) ||| v1)) fun T3 =>
    zu (f_X7_step_2 T3) fun T5 =>
    some (1, T5)
  else
    zb (f_X7_refuseToken_2 S) fun r5 T4 =>
    if znb r5 then some (r5, T4) else none
set_option maxRecDepth 100000 in
theorem w_X7_beginOnce_2 (l : Launch)  {S : zS} {r : Int32} {S1 : zS} (h : f_X7_beginOnce_2 S = some (r, S1)) : zMet zLX l yX7_beginOnce cX7_beginOnce 2 (some .boolean) 6 [.ref 2] S (some (.int r)) S1 := by
  unfold f_X7_beginOnce_2 at h
  refine zMet.of (by decide +kernel) (Nat.le_of_ble_eq_true rfl) ?_
  show WA zLX l RX7 cX7_beginOnce 2 (some .boolean) 6 (some (.int r)) S1 0 [(0, .ref 2)] [] S
  refine z_iconst (pc := 0) (v := 1) dX7_beginOnce_0 zci_1 ?_
  refine z_aload_n (pc := 1) (q := 0) dX7_beginOnce_1 rfl rfl ?_
  refine z_getI (pc := 2) dX7_beginOnce_2 zf_X7_88 gX_2_7 ?_
  refine z_ishl (pc := 5) dX7_beginOnce_5 ?_
  obtain ⟨v1, ev1, h⟩ := zl_some h
  refine z_top ev1 ?_
  refine z_istore_n (pc := 6) (lo' := [(1, .int v1), (0, .ref 2)]) dX7_beginOnce_6 rfl (by decide) rfl ?_
  refine z_aload_n (pc := 7) (q := 1) dX7_beginOnce_7 rfl rfl ?_
  refine z_getI (pc := 8) dX7_beginOnce_8 zf_X7_54 gX_2_10 ?_
  refine z_iload_n (pc := 11) (q := 0) dX7_beginOnce_11 rfl rfl ?_
  refine z_iand (pc := 12) dX7_beginOnce_12 ?_
  refine z_if_eq (pc := 13) (tgt := 21) dX7_beginOnce_13 (by decide) (fun c2 => ?_) (fun c2 => ?_)
  · have h := zt_some c2 h
    refine z_aload_n (pc := 21) (q := 1) dX7_beginOnce_21 rfl rfl ?_
    refine z_dup (pc := 22) dX7_beginOnce_22 rfl ?_
    refine z_getI (pc := 23) dX7_beginOnce_23 zf_X7_54 gX_2_10 ?_
    refine z_iload_n (pc := 26) (q := 0) dX7_beginOnce_26 rfl rfl ?_
    refine z_ior (pc := 27) dX7_beginOnce_27 ?_
    obtain ⟨T3, eT3, h⟩ := zl_some h
    refine z_putI (pc := 28) dX7_beginOnce_28 zp_X7_54 gX_2_10 rfl rfl eT3 ?_
    refine z_aload_n (pc := 31) (q := 1) dX7_beginOnce_31 rfl rfl ?_
    obtain ⟨T5, q4, h⟩ := zu_some h
    refine z_callVv (pc := 32) (st := []) [] dX7_beginOnce_32 zm_X7_62 zM_X7_step (by decide) oX_2 rfl (w_X7_step_2 l q4) rfl rfl (Nat.le_of_ble_eq_true rfl) ?_
    refine z_iconst (pc := 35) (v := 1) dX7_beginOnce_35 zci_1 ?_
    obtain ⟨rfl, rfl⟩ := zr_some h
    exact z_zret dX7_beginOnce_36 rfl
  · have h := ze_some c2 h
    refine z_aload_n (pc := 16) (q := 1) dX7_beginOnce_16 rfl rfl ?_
    obtain ⟨r5, T4, q3, h⟩ := zb_some h
    refine z_callVi (pc := 17) (st := []) [] dX7_beginOnce_17 zm_X7_127 zM_X7_refuseToken (by decide) oX_2 rfl (w_X7_refuseToken_2 l q3) rfl rfl (Nat.le_of_ble_eq_true rfl) ?_
    obtain ⟨c6, h⟩ := zg_some h
    obtain ⟨rfl, rfl⟩ := zr_some h
    exact z_zret dX7_beginOnce_20 (znb_n c6)
def f_X7_joinedBy_2_B24 (x1 : Int32) (S : zS) : Option (Int32 × zS) :=
  if x1 = 1 then
    if (S.1 2 7) = 18 then
      some ((-8), S)
    else
      some (0, S)
  else
    some (0, S)
def f_X7_joinedBy_2 (x1 : Int32) (S : zS) : Option (Int32 × zS) :=
  if (S.1 2 6) = 1 then
    if x1 = 0 then
      if (S.1 2 7) = 17 then
        some ((-7), S)
      else
        f_X7_joinedBy_2_B24 x1 S
    else
      f_X7_joinedBy_2_B24 x1 S
  else
    if (S.1 2 6) = 3 then
      if (S.1 2 7) = 37 then
        if x1 = 4 then
          some ((-16), S)
        else
          some (0, S)
      else
        if (S.1 2 7) = 42 then
          if x1 = 4 then
            some ((-14), S)
          else
            some (0, S)
        else
          if (S.1 2 7) = 43 then
            if x1 = 3 then
              some ((-12), S)
            else
              some (0, S)
          else
            if (S.1 2 7) = 45 then
              if x1 = 3 then
                some ((-13), S)
              else
                some (0, S)
            else
              if (S.1 2 7) = 47 then
                if x1 = 4 then
                  some ((-15), S)
                else
                  some (0, S)
              else
                if (S.1 2 7) = 60 then
                  if x1 = 2 then
                    some ((-9), S)
                  else
                    some (0, S)
                else
                  if (S.1 2 7) = 61 then
                    if x1 = 2 then
                      some ((-11), S)
                    else
                      some (0, S)
                  else
                    if (S.1 2 7) = 62 then
                      if x1 = 2 then
                        some ((-10), S)
                      else
                        some (0, S)
                    else
                      some (0, S)
    else
      some (0, S)
set_option maxRecDepth 100000 in
theorem w_X7_joinedBy_2_B24 (l : Launch) {r : Int32} {S1 : zS} (x1 : Int32) (S : zS) (h : f_X7_joinedBy_2_B24 x1 S = some (r, S1)) : WA zLX l RX7 cX7_joinedBy 2 (some .int) 1 (some (.int r)) S1 24 [(0, .ref 2), (1, .int x1)] [] S := by
  unfold f_X7_joinedBy_2_B24 at h
  refine z_iload_n (pc := 24) (q := 1) dX7_joinedBy_24 rfl rfl ?_
  refine z_iconst (pc := 25) (v := 1) dX7_joinedBy_25 zci_1 ?_
  refine z_icmp_ne (pc := 26) (tgt := 43) dX7_joinedBy_26 (by decide) (fun c1 => ?_) (fun c1 => ?_)
  · have h := ze_some c1 h
    refine z_iconst (pc := 43) (v := 0) dX7_joinedBy_43 zci_0 ?_
    obtain ⟨rfl, rfl⟩ := zr_some h
    exact z_iret dX7_joinedBy_44
  · have h := zt_some c1 h
    refine z_aload_n (pc := 29) (q := 0) dX7_joinedBy_29 rfl rfl ?_
    refine z_getI (pc := 30) dX7_joinedBy_30 zf_X7_88 gX_2_7 ?_
    refine z_bipush (pc := 33) (v := 18) dX7_joinedBy_33 zcb_18 ?_
    refine z_icmp_ne (pc := 35) (tgt := 43) dX7_joinedBy_35 (by decide) (fun c2 => ?_) (fun c2 => ?_)
    · have h := ze_some c2 h
      refine z_iconst (pc := 43) (v := 0) dX7_joinedBy_43 zci_0 ?_
      obtain ⟨rfl, rfl⟩ := zr_some h
      exact z_iret dX7_joinedBy_44
    · have h := zt_some c2 h
      refine z_bipush (pc := 38) (v := (-8)) dX7_joinedBy_38 zcb_m8 ?_
      refine z_goto (pc := 40) (tgt := 44) dX7_joinedBy_40 (by decide) ?_
      obtain ⟨rfl, rfl⟩ := zr_some h
      exact z_iret dX7_joinedBy_44
set_option maxRecDepth 100000 in
theorem w_X7_joinedBy_2 (l : Launch) {x1 : Int32} {S : zS} {r : Int32} {S1 : zS} (h : f_X7_joinedBy_2 x1 S = some (r, S1)) : zMet zLX l yX7_joinedBy cX7_joinedBy 2 (some .int) 1 [.ref 2, .int x1] S (some (.int r)) S1 := by
  unfold f_X7_joinedBy_2 at h
  refine zMet.of (by decide +kernel) (Nat.le_of_ble_eq_true rfl) ?_
  show WA zLX l RX7 cX7_joinedBy 2 (some .int) 1 (some (.int r)) S1 0 [(0, .ref 2), (1, .int x1)] [] S
  refine z_aload_n (pc := 0) (q := 0) dX7_joinedBy_0 rfl rfl ?_
  refine z_getI (pc := 1) dX7_joinedBy_1 zf_X7_68 gX_2_6 ?_
  refine z_iconst (pc := 4) (v := 1) dX7_joinedBy_4 zci_1 ?_
  refine z_icmp_ne (pc := 5) (tgt := 45) dX7_joinedBy_5 (by decide) (fun c1 => ?_) (fun c1 => ?_)
  · have h := ze_some c1 h
    refine z_aload_n (pc := 45) (q := 0) dX7_joinedBy_45 rfl rfl ?_
    refine z_getI (pc := 46) dX7_joinedBy_46 zf_X7_68 gX_2_6 ?_
    refine z_iconst (pc := 49) (v := 3) dX7_joinedBy_49 zci_3 ?_
    refine z_icmp_eq (pc := 50) (tgt := 55) dX7_joinedBy_50 (by decide) (fun c2 => ?_) (fun c2 => ?_)
    · have h := zt_some c2 h
      refine z_aload_n (pc := 55) (q := 0) dX7_joinedBy_55 rfl rfl ?_
      refine z_getI (pc := 56) dX7_joinedBy_56 zf_X7_88 gX_2_7 ?_
      refine z_tsw (pc := 59) 272 [(37, 260), (42, 236), (43, 212), (45, 224), (47, 248), (60, 176), (61, 200), (62, 188)] dX7_joinedBy_59 (by decide) (by decide +kernel) (by decide +kernel) ?_
      refine zsw_c (fun c3 => ?_) (fun c3 => ?_)
      · have h := zt_some c3 h
        refine z_iload_n (pc := 260) (q := 1) dX7_joinedBy_260 rfl rfl ?_
        refine z_iconst (pc := 261) (v := 4) dX7_joinedBy_261 zci_4 ?_
        refine z_icmp_ne (pc := 262) (tgt := 270) dX7_joinedBy_262 (by decide) (fun c4 => ?_) (fun c4 => ?_)
        · have h := ze_some c4 h
          refine z_iconst (pc := 270) (v := 0) dX7_joinedBy_270 zci_0 ?_
          obtain ⟨rfl, rfl⟩ := zr_some h
          exact z_iret dX7_joinedBy_271
        · have h := zt_some c4 h
          refine z_bipush (pc := 265) (v := (-16)) dX7_joinedBy_265 zcb_m16 ?_
          refine z_goto (pc := 267) (tgt := 271) dX7_joinedBy_267 (by decide) ?_
          obtain ⟨rfl, rfl⟩ := zr_some h
          exact z_iret dX7_joinedBy_271
      · have h := ze_some c3 h
        refine zsw_c (fun c4 => ?_) (fun c4 => ?_)
        · have h := zt_some c4 h
          refine z_iload_n (pc := 236) (q := 1) dX7_joinedBy_236 rfl rfl ?_
          refine z_iconst (pc := 237) (v := 4) dX7_joinedBy_237 zci_4 ?_
          refine z_icmp_ne (pc := 238) (tgt := 246) dX7_joinedBy_238 (by decide) (fun c5 => ?_) (fun c5 => ?_)
          · have h := ze_some c5 h
            refine z_iconst (pc := 246) (v := 0) dX7_joinedBy_246 zci_0 ?_
            obtain ⟨rfl, rfl⟩ := zr_some h
            exact z_iret dX7_joinedBy_247
          · have h := zt_some c5 h
            refine z_bipush (pc := 241) (v := (-14)) dX7_joinedBy_241 zcb_m14 ?_
            refine z_goto (pc := 243) (tgt := 247) dX7_joinedBy_243 (by decide) ?_
            obtain ⟨rfl, rfl⟩ := zr_some h
            exact z_iret dX7_joinedBy_247
        · have h := ze_some c4 h
          refine zsw_c (fun c5 => ?_) (fun c5 => ?_)
          · have h := zt_some c5 h
            refine z_iload_n (pc := 212) (q := 1) dX7_joinedBy_212 rfl rfl ?_
            refine z_iconst (pc := 213) (v := 3) dX7_joinedBy_213 zci_3 ?_
            refine z_icmp_ne (pc := 214) (tgt := 222) dX7_joinedBy_214 (by decide) (fun c6 => ?_) (fun c6 => ?_)
            · have h := ze_some c6 h
              refine z_iconst (pc := 222) (v := 0) dX7_joinedBy_222 zci_0 ?_
              obtain ⟨rfl, rfl⟩ := zr_some h
              exact z_iret dX7_joinedBy_223
            · have h := zt_some c6 h
              refine z_bipush (pc := 217) (v := (-12)) dX7_joinedBy_217 zcb_m12 ?_
              refine z_goto (pc := 219) (tgt := 223) dX7_joinedBy_219 (by decide) ?_
              obtain ⟨rfl, rfl⟩ := zr_some h
              exact z_iret dX7_joinedBy_223
          · have h := ze_some c5 h
            refine zsw_c (fun c6 => ?_) (fun c6 => ?_)
            · have h := zt_some c6 h
              refine z_iload_n (pc := 224) (q := 1) dX7_joinedBy_224 rfl rfl ?_
              refine z_iconst (pc := 225) (v := 3) dX7_joinedBy_225 zci_3 ?_
              refine z_icmp_ne (pc := 226) (tgt := 234) dX7_joinedBy_226 (by decide) (fun c7 => ?_) (fun c7 => ?_)
              · have h := ze_some c7 h
                refine z_iconst (pc := 234) (v := 0) dX7_joinedBy_234 zci_0 ?_
                obtain ⟨rfl, rfl⟩ := zr_some h
                exact z_iret dX7_joinedBy_235
              · have h := zt_some c7 h
                refine z_bipush (pc := 229) (v := (-13)) dX7_joinedBy_229 zcb_m13 ?_
                refine z_goto (pc := 231) (tgt := 235) dX7_joinedBy_231 (by decide) ?_
                obtain ⟨rfl, rfl⟩ := zr_some h
                exact z_iret dX7_joinedBy_235
            · have h := ze_some c6 h
              refine zsw_c (fun c7 => ?_) (fun c7 => ?_)
              · have h := zt_some c7 h
                refine z_iload_n (pc := 248) (q := 1) dX7_joinedBy_248 rfl rfl ?_
                refine z_iconst (pc := 249) (v := 4) dX7_joinedBy_249 zci_4 ?_
                refine z_icmp_ne (pc := 250) (tgt := 258) dX7_joinedBy_250 (by decide) (fun c8 => ?_) (fun c8 => ?_)
                · have h := ze_some c8 h
                  refine z_iconst (pc := 258) (v := 0) dX7_joinedBy_258 zci_0 ?_
                  obtain ⟨rfl, rfl⟩ := zr_some h
                  exact z_iret dX7_joinedBy_259
                · have h := zt_some c8 h
                  refine z_bipush (pc := 253) (v := (-15)) dX7_joinedBy_253 zcb_m15 ?_
                  refine z_goto (pc := 255) (tgt := 259) dX7_joinedBy_255 (by decide) ?_
                  obtain ⟨rfl, rfl⟩ := zr_some h
                  exact z_iret dX7_joinedBy_259
              · have h := ze_some c7 h
                refine zsw_c (fun c8 => ?_) (fun c8 => ?_)
                · have h := zt_some c8 h
                  refine z_iload_n (pc := 176) (q := 1) dX7_joinedBy_176 rfl rfl ?_
                  refine z_iconst (pc := 177) (v := 2) dX7_joinedBy_177 zci_2 ?_
                  refine z_icmp_ne (pc := 178) (tgt := 186) dX7_joinedBy_178 (by decide) (fun c9 => ?_) (fun c9 => ?_)
                  · have h := ze_some c9 h
                    refine z_iconst (pc := 186) (v := 0) dX7_joinedBy_186 zci_0 ?_
                    obtain ⟨rfl, rfl⟩ := zr_some h
                    exact z_iret dX7_joinedBy_187
                  · have h := zt_some c9 h
                    refine z_bipush (pc := 181) (v := (-9)) dX7_joinedBy_181 zcb_m9 ?_
                    refine z_goto (pc := 183) (tgt := 187) dX7_joinedBy_183 (by decide) ?_
                    obtain ⟨rfl, rfl⟩ := zr_some h
                    exact z_iret dX7_joinedBy_187
                · have h := ze_some c8 h
                  refine zsw_c (fun c9 => ?_) (fun c9 => ?_)
                  · have h := zt_some c9 h
                    refine z_iload_n (pc := 200) (q := 1) dX7_joinedBy_200 rfl rfl ?_
                    refine z_iconst (pc := 201) (v := 2) dX7_joinedBy_201 zci_2 ?_
                    refine z_icmp_ne (pc := 202) (tgt := 210) dX7_joinedBy_202 (by decide) (fun c10 => ?_) (fun c10 => ?_)
                    · have h := ze_some c10 h
                      refine z_iconst (pc := 210) (v := 0) dX7_joinedBy_210 zci_0 ?_
                      obtain ⟨rfl, rfl⟩ := zr_some h
                      exact z_iret dX7_joinedBy_211
                    · have h := zt_some c10 h
                      refine z_bipush (pc := 205) (v := (-11)) dX7_joinedBy_205 zcb_m11 ?_
                      refine z_goto (pc := 207) (tgt := 211) dX7_joinedBy_207 (by decide) ?_
                      obtain ⟨rfl, rfl⟩ := zr_some h
                      exact z_iret dX7_joinedBy_211
                  · have h := ze_some c9 h
                    refine zsw_c (fun c10 => ?_) (fun c10 => ?_)
                    · have h := zt_some c10 h
                      refine z_iload_n (pc := 188) (q := 1) dX7_joinedBy_188 rfl rfl ?_
                      refine z_iconst (pc := 189) (v := 2) dX7_joinedBy_189 zci_2 ?_
                      refine z_icmp_ne (pc := 190) (tgt := 198) dX7_joinedBy_190 (by decide) (fun c11 => ?_) (fun c11 => ?_)
                      · have h := ze_some c11 h
                        refine z_iconst (pc := 198) (v := 0) dX7_joinedBy_198 zci_0 ?_
                        obtain ⟨rfl, rfl⟩ := zr_some h
                        exact z_iret dX7_joinedBy_199
                      · have h := zt_some c11 h
                        refine z_bipush (pc := 193) (v := (-10)) dX7_joinedBy_193 zcb_m10 ?_
                        refine z_goto (pc := 195) (tgt := 199) dX7_joinedBy_195 (by decide) ?_
                        obtain ⟨rfl, rfl⟩ := zr_some h
                        exact z_iret dX7_joinedBy_199
                    · have h := ze_some c10 h
                      refine zsw_n ?_
                      refine z_iconst (pc := 272) (v := 0) dX7_joinedBy_272 zci_0 ?_
                      obtain ⟨rfl, rfl⟩ := zr_some h
                      exact z_iret dX7_joinedBy_273
    · have h := ze_some c2 h
      refine z_iconst (pc := 53) (v := 0) dX7_joinedBy_53 zci_0 ?_
      obtain ⟨rfl, rfl⟩ := zr_some h
      exact z_iret dX7_joinedBy_54
  · have h := zt_some c1 h
    refine z_iload_n (pc := 8) (q := 1) dX7_joinedBy_8 rfl rfl ?_
    refine z_if_ne (pc := 9) (tgt := 24) dX7_joinedBy_9 (by decide) (fun c2 => ?_) (fun c2 => ?_)
    · have h := ze_some c2 h
      exact w_X7_joinedBy_2_B24 l x1 S h
    · have h := zt_some c2 h
      refine z_aload_n (pc := 12) (q := 0) dX7_joinedBy_12 rfl rfl ?_
      refine z_getI (pc := 13) dX7_joinedBy_13 zf_X7_88 gX_2_7 ?_
      refine z_bipush (pc := 16) (v := 17) dX7_joinedBy_16 zcb_17 ?_
      refine z_icmp_ne (pc := 18) (tgt := 24) dX7_joinedBy_18 (by decide) (fun c3 => ?_) (fun c3 => ?_)
      · have h := ze_some c3 h
        exact w_X7_joinedBy_2_B24 l x1 S h
      · have h := zt_some c3 h
        refine z_bipush (pc := 21) (v := (-7)) dX7_joinedBy_21 zcb_m7 ?_
        obtain ⟨rfl, rfl⟩ := zr_some h
        exact z_iret dX7_joinedBy_23
