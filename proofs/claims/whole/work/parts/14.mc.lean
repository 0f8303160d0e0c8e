def f_X12_standing_B58 (K16 : Int32 → Int32 → Int32 → zS → Option (Int32 × zS)) (x1 : Int32) (x2 : Int32) (x3 : Int32) (S : zS) : Option (Int32 × zS) :=
  zlet (x1 ||| (1 <<< (x3 &&& 31))) fun v1 =>
  zlet (x3 + 1) fun v2 =>
  K16 v1 x2 v2 S
def f_X12_standing_L16 : Nat → Int32 → Int32 → Int32 → zS → Option (Int32 × zS)
  | 0, _, _, _, _ => none
  | n + 1, x1, x2, x3, S =>
    zb (f_X12_bills S) fun r3 T2 =>
    if x3 < r3 then
      if ((x2 >>> (x3 &&& 31)) &&& 1) = 1 then
        zb (f_X12_of x3 6 T2) fun r8 T7 =>
        if r8 < 0 then
          f_X12_standing_B58 (f_X12_standing_L16 n) x1 x2 x3 T7
        else
          zb (f_X12_of x3 6 T7) fun r12 T11 =>
          if ((x1 >>> (r12 &&& 31)) &&& 1) = 1 then
            f_X12_standing_B58 (f_X12_standing_L16 n) x1 x2 x3 T11
          else
            zlet (x3 + 1) fun v14 =>
            (f_X12_standing_L16 n) x1 x2 v14 T11
      else
        zlet (x3 + 1) fun v6 =>
        (f_X12_standing_L16 n) x1 x2 v6 T2
    else
      some (x1, T2)
def f_X12_standing  (S : zS) : Option (Int32 × zS) :=
  zb (f_X12_livingSet S) fun r3 T2 =>
  zb (f_X12_repealedSet T2) fun r6 T5 =>
  zlet (r3 &&& (r6 ^^^ (-1))) fun v7 =>
  f_X12_standing_L16 zN 0 v7 0 T5
set_option maxRecDepth 100000 in
theorem w_X12_standing_B58 (l : Launch) {r : Int32} {S1 : zS} (K16 : Int32 → Int32 → Int32 → zS → Option (Int32 × zS)) (hK16 : ∀ (x1 : Int32) (x2 : Int32) (x3 : Int32) (S : zS), K16 x1 x2 x3 S = some (r, S1) → WA zLM l RX12 cX12_standing 4 (some .int) 4 (some (.int r)) S1 16 [(0, .ref 0), (1, .int x1), (2, .int x2), (3, .int x3)] [] S) (x1 : Int32) (x2 : Int32) (x3 : Int32) (S : zS) (h : f_X12_standing_B58 K16 x1 x2 x3 S = some (r, S1)) : WA zLM l RX12 cX12_standing 4 (some .int) 4 (some (.int r)) S1 58 [(0, .ref 0), (1, .int x1), (2, .int x2), (3, .int x3)] [] S := by
  unfold f_X12_standing_B58 at h
  refine z_iload_n (pc := 58) (q := 1) dX12_standing_58 rfl rfl ?_
  refine z_iconst (pc := 59) (v := 1) dX12_standing_59 zci_1 ?_
  refine z_iload_n (pc := 60) (q := 3) dX12_standing_60 rfl rfl ?_
  refine z_ishl (pc := 61) dX12_standing_61 ?_
  refine z_ior (pc := 62) dX12_standing_62 ?_
  obtain ⟨v1, ev1, h⟩ := zl_some h
  refine z_top ev1 ?_
  refine z_istore_n (pc := 63) (lo' := [(1, .int v1), (0, .ref 0), (2, .int x2), (3, .int x3)]) dX12_standing_63 rfl (by decide) rfl ?_
  obtain ⟨v2, ev2, h⟩ := zl_some h
  refine z_iinc (pc := 64) (q := 3) (v := v2) (lo' := [(3, .int v2), (1, .int v1), (0, .ref 0), (2, .int x2)]) dX12_standing_64 rfl (by rw [ev2, zci_1]) (by decide) rfl ?_
  refine z_goto (pc := 67) (tgt := 16) dX12_standing_67 (by decide) ?_
  exact z_sub [2, 1, 3, 0] rfl (hK16 v1 x2 v2 S h)
set_option maxRecDepth 100000 in
theorem w_X12_standing_L16 (l : Launch) {r : Int32} {S1 : zS} : ∀ (n : Nat) (x1 : Int32) (x2 : Int32) (x3 : Int32) (S : zS), f_X12_standing_L16 n x1 x2 x3 S = some (r, S1) → WA zLM l RX12 cX12_standing 4 (some .int) 4 (some (.int r)) S1 16 [(0, .ref 0), (1, .int x1), (2, .int x2), (3, .int x3)] [] S := by
  intro n
  induction n with
  | zero =>
    intro x1 x2 x3 S h
    exact nomatch h
  | succ n ih =>
    intro x1 x2 x3 S h
    rw [f_X12_standing_L16] at h
    refine z_iload_n (pc := 16) (q := 3) dX12_standing_16 rfl rfl ?_
    refine z_aload_n (pc := 17) (q := 0) dX12_standing_17 rfl rfl ?_
    obtain ⟨r3, T2, q1, h⟩ := zb_some h
    refine z_callVi (pc := 18) (st := [.int x3]) [] dX12_standing_18 zm_X12_429 zM_X12_bills (by decide) oM_0 rfl (w_X12_bills l q1) rfl rfl (Nat.le_of_ble_eq_true rfl) ?_
    refine z_icmp_ge (pc := 21) (tgt := 70) dX12_standing_21 (by decide) (fun c4 => ?_) (fun c4 => ?_)
    · have h := ze_some c4 h
      refine z_iload_n (pc := 70) (q := 1) dX12_standing_70 rfl rfl ?_
      obtain ⟨rfl, rfl⟩ := zr_some h
      exact z_iret dX12_standing_71
    · have h := zt_some c4 h
      refine z_iload_n (pc := 24) (q := 2) dX12_standing_24 rfl rfl ?_
      refine z_iload_n (pc := 25) (q := 3) dX12_standing_25 rfl rfl ?_
      refine z_ishr (pc := 26) dX12_standing_26 ?_
      refine z_iconst (pc := 27) (v := 1) dX12_standing_27 zci_1 ?_
      refine z_iand (pc := 28) dX12_standing_28 ?_
      refine z_iconst (pc := 29) (v := 1) dX12_standing_29 zci_1 ?_
      refine z_icmp_ne (pc := 30) (tgt := 64) dX12_standing_30 (by decide) (fun c5 => ?_) (fun c5 => ?_)
      · have h := ze_some c5 h
        obtain ⟨v6, ev6, h⟩ := zl_some h
        refine z_iinc (pc := 64) (q := 3) (v := v6) (lo' := [(3, .int v6), (0, .ref 0), (1, .int x1), (2, .int x2)]) dX12_standing_64 rfl (by rw [ev6, zci_1]) (by decide) rfl ?_
        refine z_goto (pc := 67) (tgt := 16) dX12_standing_67 (by decide) ?_
        exact z_sub [1, 2, 3, 0] rfl (ih x1 x2 v6 T2 h)
      · have h := zt_some c5 h
        refine z_aload_n (pc := 33) (q := 0) dX12_standing_33 rfl rfl ?_
        refine z_iload_n (pc := 34) (q := 3) dX12_standing_34 rfl rfl ?_
        refine z_bipush (pc := 35) (v := 6) dX12_standing_35 zcb_6 ?_
        obtain ⟨r8, T7, q6, h⟩ := zb_some h
        refine z_callVi (pc := 37) (st := []) [.int x3, .int 6] dX12_standing_37 zm_X12_426 zM_X12_of (by decide) oM_0 rfl (w_X12_of l q6) rfl rfl (Nat.le_of_ble_eq_true rfl) ?_
        refine z_if_lt (pc := 40) (tgt := 58) dX12_standing_40 (by decide) (fun c9 => ?_) (fun c9 => ?_)
        · have h := zt_some c9 h
          exact w_X12_standing_B58 l (f_X12_standing_L16 n) ih x1 x2 x3 T7 h
        · have h := ze_some c9 h
          refine z_iload_n (pc := 43) (q := 1) dX12_standing_43 rfl rfl ?_
          refine z_aload_n (pc := 44) (q := 0) dX12_standing_44 rfl rfl ?_
          refine z_iload_n (pc := 45) (q := 3) dX12_standing_45 rfl rfl ?_
          refine z_bipush (pc := 46) (v := 6) dX12_standing_46 zcb_6 ?_
          obtain ⟨r12, T11, q10, h⟩ := zb_some h
          refine z_callVi (pc := 48) (st := [.int x1]) [.int x3, .int 6] dX12_standing_48 zm_X12_426 zM_X12_of (by decide) oM_0 rfl (w_X12_of l q10) rfl rfl (Nat.le_of_ble_eq_true rfl) ?_
          refine z_ishr (pc := 51) dX12_standing_51 ?_
          refine z_iconst (pc := 52) (v := 1) dX12_standing_52 zci_1 ?_
          refine z_iand (pc := 53) dX12_standing_53 ?_
          refine z_iconst (pc := 54) (v := 1) dX12_standing_54 zci_1 ?_
          refine z_icmp_ne (pc := 55) (tgt := 64) dX12_standing_55 (by decide) (fun c13 => ?_) (fun c13 => ?_)
          · have h := ze_some c13 h
            obtain ⟨v14, ev14, h⟩ := zl_some h
            refine z_iinc (pc := 64) (q := 3) (v := v14) (lo' := [(3, .int v14), (0, .ref 0), (1, .int x1), (2, .int x2)]) dX12_standing_64 rfl (by rw [ev14, zci_1]) (by decide) rfl ?_
            refine z_goto (pc := 67) (tgt := 16) dX12_standing_67 (by decide) ?_
            exact z_sub [1, 2, 3, 0] rfl (ih x1 x2 v14 T11 h)
          · have h := zt_some c13 h
            exact w_X12_standing_B58 l (f_X12_standing_L16 n) ih x1 x2 x3 T11 h
set_option maxRecDepth 100000 in
theorem w_X12_standing (l : Launch)  {S : zS} {r : Int32} {S1 : zS} (h : f_X12_standing S = some (r, S1)) : zMet zLM l yX12_standing cX12_standing 4 (some .int) 4 [.ref 0] S (some (.int r)) S1 := by
  unfold f_X12_standing at h
  refine zMet.of (by decide +kernel) (Nat.le_of_ble_eq_true rfl) ?_
  show WA zLM l RX12 cX12_standing 4 (some .int) 4 (some (.int r)) S1 0 [(0, .ref 0)] [] S
  refine z_iconst (pc := 0) (v := 0) dX12_standing_0 zci_0 ?_
  refine z_istore_n (pc := 1) (lo' := [(1, .int 0), (0, .ref 0)]) dX12_standing_1 rfl (by decide) rfl ?_
  refine z_aload_n (pc := 2) (q := 1) dX12_standing_2 rfl rfl ?_
  obtain ⟨r3, T2, q1, h⟩ := zb_some h
  refine z_callVi (pc := 3) (st := []) [] dX12_standing_3 zm_X12_435 zM_X12_livingSet (by decide) oM_0 rfl (w_X12_livingSet l q1) rfl rfl (Nat.le_of_ble_eq_true rfl) ?_
  refine z_aload_n (pc := 6) (q := 1) dX12_standing_6 rfl rfl ?_
  obtain ⟨r6, T5, q4, h⟩ := zb_some h
  refine z_callVi (pc := 7) (st := [.int r3]) [] dX12_standing_7 zm_X12_438 zM_X12_repealedSet (by decide) oM_0 rfl (w_X12_repealedSet l q4) rfl rfl (Nat.le_of_ble_eq_true rfl) ?_
  refine z_iconst (pc := 10) (v := (-1)) dX12_standing_10 zci_m1 ?_
  refine z_ixor (pc := 11) dX12_standing_11 ?_
  refine z_iand (pc := 12) dX12_standing_12 ?_
  obtain ⟨v7, ev7, h⟩ := zl_some h
  refine z_top ev7 ?_
  refine z_istore_n (pc := 13) (lo' := [(2, .int v7), (1, .int 0), (0, .ref 0)]) dX12_standing_13 rfl (by decide) rfl ?_
  refine z_iconst (pc := 14) (v := 0) dX12_standing_14 zci_0 ?_
  refine z_istore_n (pc := 15) (lo' := [(3, .int 0), (2, .int v7), (1, .int 0), (0, .ref 0)]) dX12_standing_15 rfl (by decide) rfl ?_
  exact z_sub [3, 2, 1, 0] rfl (w_X12_standing_L16 l zN 0 v7 0 T5 h)
def f_X12_lawOf_L22 (K10 : Int32 → Int32 → Int32 → Int32 → zS → Option (Int32 × zS)) : Nat → Int32 → Int32 → Int32 → Int32 → Int32 → zS → Option (Int32 × zS)
  | 0, _, _, _, _, _, _ => none
  | n + 1, x1, x2, x3, x4, x5, S =>
    zb (f_X12_bills S) fun r3 T2 =>
    if x5 < r3 then
      if ((x2 >>> (x5 &&& 31)) &&& 1) = 0 then
        zlet (x5 + 1) fun v6 =>
        (f_X12_lawOf_L22 K10 n) x1 x2 x3 x4 v6 T2
      else
        zb (f_X12_of x5 2 T2) fun r8 T7 =>
        if r8 = x4 then
          zb (f_X12_of x5 4 T7) fun r12 T11 =>
          if r12 = x1 then
            zb (f_X12_of x5 6 T11) fun r16 T15 =>
            if r16 < 0 then
              zb (f_X12_of x5 5 T15) fun r20 T19 =>
              zlet (x5 + 1) fun v21 =>
              (f_X12_lawOf_L22 K10 n) x1 x2 r20 x4 v21 T19
            else
              zb (f_X12_of x5 5 T15) fun r20 T19 =>
              zlet (x3 + r20) fun v21 =>
              zlet (x5 + 1) fun v22 =>
              (f_X12_lawOf_L22 K10 n) x1 x2 v21 x4 v22 T19
          else
            zlet (x5 + 1) fun v14 =>
            (f_X12_lawOf_L22 K10 n) x1 x2 x3 x4 v14 T11
        else
          zlet (x5 + 1) fun v10 =>
          (f_X12_lawOf_L22 K10 n) x1 x2 x3 x4 v10 T7
    else
      zlet (x4 + 1) fun v5 =>
      K10 x1 x2 x3 v5 T2
def f_X12_lawOf_L10 : Nat → Int32 → Int32 → Int32 → Int32 → zS → Option (Int32 × zS)
  | 0, _, _, _, _, _ => none
  | n + 1, x1, x2, x3, x4, S =>
    if x4 < (S.1 0 42) then
      f_X12_lawOf_L22 (f_X12_lawOf_L10 n) zN x1 x2 x3 x4 0 S
    else
      some (x3, S)
def f_X12_lawOf (x1 : Int32) (S : zS) : Option (Int32 × zS) :=
  zb (f_X12_standing S) fun r3 T2 =>
  f_X12_lawOf_L10 zN x1 r3 0 0 T2
set_option maxRecDepth 100000 in
theorem w_X12_lawOf_L22 (l : Launch) {r : Int32} {S1 : zS} (K10 : Int32 → Int32 → Int32 → Int32 → zS → Option (Int32 × zS)) (hK10 : ∀ (x1 : Int32) (x2 : Int32) (x3 : Int32) (x4 : Int32) (S : zS), K10 x1 x2 x3 x4 S = some (r, S1) → WA zLM l RX12 cX12_lawOf 6 (some .int) 5 (some (.int r)) S1 10 [(0, .ref 0), (1, .int x1), (2, .int x2), (3, .int x3), (4, .int x4)] [] S) : ∀ (n : Nat) (x1 : Int32) (x2 : Int32) (x3 : Int32) (x4 : Int32) (x5 : Int32) (S : zS), f_X12_lawOf_L22 K10 n x1 x2 x3 x4 x5 S = some (r, S1) → WA zLM l RX12 cX12_lawOf 6 (some .int) 5 (some (.int r)) S1 22 [(0, .ref 0), (1, .int x1), (2, .int x2), (3, .int x3), (4, .int x4), (5, .int x5)] [] S := by
  intro n
  induction n with
  | zero =>
    intro x1 x2 x3 x4 x5 S h
    exact nomatch h
  | succ n ih =>
    intro x1 x2 x3 x4 x5 S h
    rw [f_X12_lawOf_L22] at h
    refine z_iload (pc := 22) (q := 5) dX12_lawOf_22 rfl ?_
    refine z_aload_n (pc := 24) (q := 0) dX12_lawOf_24 rfl rfl ?_
    obtain ⟨r3, T2, q1, h⟩ := zb_some h
    refine z_callVi (pc := 25) (st := [.int x5]) [] dX12_lawOf_25 zm_X12_429 zM_X12_bills (by decide) oM_0 rfl (w_X12_bills l q1) rfl rfl (Nat.le_of_ble_eq_true rfl) ?_
    refine z_icmp_ge (pc := 28) (tgt := 103) dX12_lawOf_28 (by decide) (fun c4 => ?_) (fun c4 => ?_)
    · have h := ze_some c4 h
      obtain ⟨v5, ev5, h⟩ := zl_some h
      refine z_iinc (pc := 103) (q := 4) (v := v5) (lo' := [(4, .int v5), (0, .ref 0), (1, .int x1), (2, .int x2), (3, .int x3), (5, .int x5)]) dX12_lawOf_103 rfl (by rw [ev5, zci_1]) (by decide) rfl ?_
      refine z_goto (pc := 106) (tgt := 10) dX12_lawOf_106 (by decide) ?_
      exact z_sub [1, 2, 3, 4, 0] rfl (hK10 x1 x2 x3 v5 T2 h)
    · have h := zt_some c4 h
      refine z_iload_n (pc := 31) (q := 2) dX12_lawOf_31 rfl rfl ?_
      refine z_iload (pc := 32) (q := 5) dX12_lawOf_32 rfl ?_
      refine z_ishr (pc := 34) dX12_lawOf_34 ?_
      refine z_iconst (pc := 35) (v := 1) dX12_lawOf_35 zci_1 ?_
      refine z_iand (pc := 36) dX12_lawOf_36 ?_
      refine z_if_eq (pc := 37) (tgt := 97) dX12_lawOf_37 (by decide) (fun c5 => ?_) (fun c5 => ?_)
      · have h := zt_some c5 h
        obtain ⟨v6, ev6, h⟩ := zl_some h
        refine z_iinc (pc := 97) (q := 5) (v := v6) (lo' := [(5, .int v6), (0, .ref 0), (1, .int x1), (2, .int x2), (3, .int x3), (4, .int x4)]) dX12_lawOf_97 rfl (by rw [ev6, zci_1]) (by decide) rfl ?_
        refine z_goto (pc := 100) (tgt := 22) dX12_lawOf_100 (by decide) ?_
        exact z_sub [1, 2, 3, 4, 5, 0] rfl (ih x1 x2 x3 x4 v6 T2 h)
      · have h := ze_some c5 h
        refine z_aload_n (pc := 40) (q := 0) dX12_lawOf_40 rfl rfl ?_
        refine z_iload (pc := 41) (q := 5) dX12_lawOf_41 rfl ?_
        refine z_iconst (pc := 43) (v := 2) dX12_lawOf_43 zci_2 ?_
        obtain ⟨r8, T7, q6, h⟩ := zb_some h
        refine z_callVi (pc := 44) (st := []) [.int x5, .int 2] dX12_lawOf_44 zm_X12_426 zM_X12_of (by decide) oM_0 rfl (w_X12_of l q6) rfl rfl (Nat.le_of_ble_eq_true rfl) ?_
        refine z_iload (pc := 47) (q := 4) dX12_lawOf_47 rfl ?_
        refine z_icmp_ne (pc := 49) (tgt := 97) dX12_lawOf_49 (by decide) (fun c9 => ?_) (fun c9 => ?_)
        · have h := ze_some c9 h
          obtain ⟨v10, ev10, h⟩ := zl_some h
          refine z_iinc (pc := 97) (q := 5) (v := v10) (lo' := [(5, .int v10), (0, .ref 0), (1, .int x1), (2, .int x2), (3, .int x3), (4, .int x4)]) dX12_lawOf_97 rfl (by rw [ev10, zci_1]) (by decide) rfl ?_
          refine z_goto (pc := 100) (tgt := 22) dX12_lawOf_100 (by decide) ?_
          exact z_sub [1, 2, 3, 4, 5, 0] rfl (ih x1 x2 x3 x4 v10 T7 h)
        · have h := zt_some c9 h
          refine z_aload_n (pc := 52) (q := 0) dX12_lawOf_52 rfl rfl ?_
          refine z_iload (pc := 53) (q := 5) dX12_lawOf_53 rfl ?_
          refine z_iconst (pc := 55) (v := 4) dX12_lawOf_55 zci_4 ?_
          obtain ⟨r12, T11, q10, h⟩ := zb_some h
          refine z_callVi (pc := 56) (st := []) [.int x5, .int 4] dX12_lawOf_56 zm_X12_426 zM_X12_of (by decide) oM_0 rfl (w_X12_of l q10) rfl rfl (Nat.le_of_ble_eq_true rfl) ?_
          refine z_iload_n (pc := 59) (q := 1) dX12_lawOf_59 rfl rfl ?_
          refine z_icmp_eq (pc := 60) (tgt := 66) dX12_lawOf_60 (by decide) (fun c13 => ?_) (fun c13 => ?_)
          · have h := zt_some c13 h
            refine z_aload_n (pc := 66) (q := 0) dX12_lawOf_66 rfl rfl ?_
            refine z_iload (pc := 67) (q := 5) dX12_lawOf_67 rfl ?_
            refine z_bipush (pc := 69) (v := 6) dX12_lawOf_69 zcb_6 ?_
            obtain ⟨r16, T15, q14, h⟩ := zb_some h
            refine z_callVi (pc := 71) (st := []) [.int x5, .int 6] dX12_lawOf_71 zm_X12_426 zM_X12_of (by decide) oM_0 rfl (w_X12_of l q14) rfl rfl (Nat.le_of_ble_eq_true rfl) ?_
            refine z_if_ge (pc := 74) (tgt := 87) dX12_lawOf_74 (by decide) (fun c17 => ?_) (fun c17 => ?_)
            · have h := ze_some c17 h
              refine z_iload_n (pc := 87) (q := 3) dX12_lawOf_87 rfl rfl ?_
              refine z_aload_n (pc := 88) (q := 0) dX12_lawOf_88 rfl rfl ?_
              refine z_iload (pc := 89) (q := 5) dX12_lawOf_89 rfl ?_
              refine z_iconst (pc := 91) (v := 5) dX12_lawOf_91 zci_5 ?_
              obtain ⟨r20, T19, q18, h⟩ := zb_some h
              refine z_callVi (pc := 92) (st := [.int x3]) [.int x5, .int 5] dX12_lawOf_92 zm_X12_426 zM_X12_of (by decide) oM_0 rfl (w_X12_of l q18) rfl rfl (Nat.le_of_ble_eq_true rfl) ?_
              refine z_iadd (pc := 95) dX12_lawOf_95 ?_
              obtain ⟨v21, ev21, h⟩ := zl_some h
              refine z_top ev21 ?_
              refine z_istore_n (pc := 96) (lo' := [(3, .int v21), (0, .ref 0), (1, .int x1), (2, .int x2), (4, .int x4), (5, .int x5)]) dX12_lawOf_96 rfl (by decide) rfl ?_
              obtain ⟨v22, ev22, h⟩ := zl_some h
              refine z_iinc (pc := 97) (q := 5) (v := v22) (lo' := [(5, .int v22), (3, .int v21), (0, .ref 0), (1, .int x1), (2, .int x2), (4, .int x4)]) dX12_lawOf_97 rfl (by rw [ev22, zci_1]) (by decide) rfl ?_
              refine z_goto (pc := 100) (tgt := 22) dX12_lawOf_100 (by decide) ?_
              exact z_sub [2, 3, 4, 1, 5, 0] rfl (ih x1 x2 v21 x4 v22 T19 h)
            · have h := zt_some c17 h
              refine z_aload_n (pc := 77) (q := 0) dX12_lawOf_77 rfl rfl ?_
              refine z_iload (pc := 78) (q := 5) dX12_lawOf_78 rfl ?_
              refine z_iconst (pc := 80) (v := 5) dX12_lawOf_80 zci_5 ?_
              obtain ⟨r20, T19, q18, h⟩ := zb_some h
              refine z_callVi (pc := 81) (st := []) [.int x5, .int 5] dX12_lawOf_81 zm_X12_426 zM_X12_of (by decide) oM_0 rfl (w_X12_of l q18) rfl rfl (Nat.le_of_ble_eq_true rfl) ?_
              refine z_goto (pc := 84) (tgt := 96) dX12_lawOf_84 (by decide) ?_
              refine z_istore_n (pc := 96) (lo' := [(3, .int r20), (0, .ref 0), (1, .int x1), (2, .int x2), (4, .int x4), (5, .int x5)]) dX12_lawOf_96 rfl (by decide) rfl ?_
              obtain ⟨v21, ev21, h⟩ := zl_some h
              refine z_iinc (pc := 97) (q := 5) (v := v21) (lo' := [(5, .int v21), (3, .int r20), (0, .ref 0), (1, .int x1), (2, .int x2), (4, .int x4)]) dX12_lawOf_97 rfl (by rw [ev21, zci_1]) (by decide) rfl ?_
              refine z_goto (pc := 100) (tgt := 22) dX12_lawOf_100 (by decide) ?_
              exact z_sub [2, 3, 4, 1, 5, 0] rfl (ih x1 x2 r20 x4 v21 T19 h)
          · have h := ze_some c13 h
            refine z_goto (pc := 63) (tgt := 97) dX12_lawOf_63 (by decide) ?_
            obtain ⟨v14, ev14, h⟩ := zl_some h
            refine z_iinc (pc := 97) (q := 5) (v := v14) (lo' := [(5, .int v14), (0, .ref 0), (1, .int x1), (2, .int x2), (3, .int x3), (4, .int x4)]) dX12_lawOf_97 rfl (by rw [ev14, zci_1]) (by decide) rfl ?_
            refine z_goto (pc := 100) (tgt := 22) dX12_lawOf_100 (by decide) ?_
            exact z_sub [1, 2, 3, 4, 5, 0] rfl (ih x1 x2 x3 x4 v14 T11 h)
set_option maxRecDepth 100000 in
theorem w_X12_lawOf_L10 (l : Launch) {r : Int32} {S1 : zS} : ∀ (n : Nat) (x1 : Int32) (x2 : Int32) (x3 : Int32) (x4 : Int32) (S : zS), f_X12_lawOf_L10 n x1 x2 x3 x4 S = some (r, S1) → WA zLM l RX12 cX12_lawOf 6 (some .int) 5 (some (.int r)) S1 10 [(0, .ref 0), (1, .int x1), (2, .int x2), (3, .int x3), (4, .int x4)] [] S := by
  intro n
  induction n with
  | zero =>
    intro x1 x2 x3 x4 S h
    exact nomatch h
  | succ n ih =>
    intro x1 x2 x3 x4 S h
    rw [f_X12_lawOf_L10] at h
    refine z_iload (pc := 10) (q := 4) dX12_lawOf_10 rfl ?_
    refine z_aload_n (pc := 12) (q := 0) dX12_lawOf_12 rfl rfl ?_
    refine z_getI (pc := 13) dX12_lawOf_13 zf_X12_70 gM_0_42 ?_
    refine z_icmp_ge (pc := 16) (tgt := 109) dX12_lawOf_16 (by decide) (fun c1 => ?_) (fun c1 => ?_)
    · have h := ze_some c1 h
      refine z_iload_n (pc := 109) (q := 3) dX12_lawOf_109 rfl rfl ?_
      obtain ⟨rfl, rfl⟩ := zr_some h
      exact z_iret dX12_lawOf_110
    · have h := zt_some c1 h
      refine z_iconst (pc := 19) (v := 0) dX12_lawOf_19 zci_0 ?_
      refine z_istore (pc := 20) (lo' := [(5, .int 0), (0, .ref 0), (1, .int x1), (2, .int x2), (3, .int x3), (4, .int x4)]) dX12_lawOf_20 (by decide) rfl ?_
      exact z_sub [1, 2, 3, 4, 5, 0] rfl (w_X12_lawOf_L22 l (f_X12_lawOf_L10 n) ih zN x1 x2 x3 x4 0 S h)
set_option maxRecDepth 100000 in
theorem w_X12_lawOf (l : Launch) {x1 : Int32} {S : zS} {r : Int32} {S1 : zS} (h : f_X12_lawOf x1 S = some (r, S1)) : zMet zLM l yX12_lawOf cX12_lawOf 6 (some .int) 5 [.ref 0, .int x1] S (some (.int r)) S1 := by
  unfold f_X12_lawOf at h
  refine zMet.of (by decide +kernel) (Nat.le_of_ble_eq_true rfl) ?_
  show WA zLM l RX12 cX12_lawOf 6 (some .int) 5 (some (.int r)) S1 0 [(0, .ref 0), (1, .int x1)] [] S
  refine z_aload_n (pc := 0) (q := 0) dX12_lawOf_0 rfl rfl ?_
  obtain ⟨r3, T2, q1, h⟩ := zb_some h
  refine z_callVi (pc := 1) (st := []) [] dX12_lawOf_1 zm_X12_441 zM_X12_standing (by decide) oM_0 rfl (w_X12_standing l q1) rfl rfl (Nat.le_of_ble_eq_true rfl) ?_
  refine z_istore_n (pc := 4) (lo' := [(2, .int r3), (0, .ref 0), (1, .int x1)]) dX12_lawOf_4 rfl (by decide) rfl ?_
  refine z_iconst (pc := 5) (v := 0) dX12_lawOf_5 zci_0 ?_
  refine z_istore_n (pc := 6) (lo' := [(3, .int 0), (2, .int r3), (0, .ref 0), (1, .int x1)]) dX12_lawOf_6 rfl (by decide) rfl ?_
  refine z_iconst (pc := 7) (v := 0) dX12_lawOf_7 zci_0 ?_
  refine z_istore (pc := 8) (lo' := [(4, .int 0), (3, .int 0), (2, .int r3), (0, .ref 0), (1, .int x1)]) dX12_lawOf_8 (by decide) rfl ?_
  exact z_sub [3, 4, 2, 1, 0] rfl (w_X12_lawOf_L10 l zN x1 r3 0 0 T2 h)
def f_X12_apart (x0 : Int32) (x1 : Int32) (S : zS) : Option (Int32 × zS) :=
  if x0 < x1 then
    some (x1 - x0, S)
  else
    some (x0 - x1, S)
set_option maxRecDepth 100000 in
theorem w_X12_apart (l : Launch) {x0 : Int32} {x1 : Int32} {S : zS} {r : Int32} {S1 : zS} (h : f_X12_apart x0 x1 S = some (r, S1)) : zMet zLM l yX12_apart cX12_apart 2 (some .int) 1 [.int x0, .int x1] S (some (.int r)) S1 := by
  unfold f_X12_apart at h
  refine zMet.of (by decide +kernel) (Nat.le_of_ble_eq_true rfl) ?_
  show WA zLM l RX12 cX12_apart 2 (some .int) 1 (some (.int r)) S1 0 [(0, .int x0), (1, .int x1)] [] S
  refine z_iload_n (pc := 0) (q := 0) dX12_apart_0 rfl rfl ?_
  refine z_iload_n (pc := 1) (q := 1) dX12_apart_1 rfl rfl ?_
  refine z_icmp_ge (pc := 2) (tgt := 11) dX12_apart_2 (by decide) (fun c1 => ?_) (fun c1 => ?_)
  · have h := ze_some c1 h
    refine z_iload_n (pc := 11) (q := 0) dX12_apart_11 rfl rfl ?_
    refine z_iload_n (pc := 12) (q := 1) dX12_apart_12 rfl rfl ?_
    refine z_isub (pc := 13) dX12_apart_13 ?_
    obtain ⟨rfl, rfl⟩ := zr_some h
    exact z_iret dX12_apart_14
  · have h := zt_some c1 h
    refine z_iload_n (pc := 5) (q := 1) dX12_apart_5 rfl rfl ?_
    refine z_iload_n (pc := 6) (q := 0) dX12_apart_6 rfl rfl ?_
    refine z_isub (pc := 7) dX12_apart_7 ?_
    refine z_goto (pc := 8) (tgt := 14) dX12_apart_8 (by decide) ?_
    obtain ⟨rfl, rfl⟩ := zr_some h
    exact z_iret dX12_apart_14
def f_X12_near_B50 (K4 : Int32 → Int32 → Int32 → zS → Option (Int32 × zS)) (x1 : Int32) (x3 : Int32) (s0 : Int32) (s1 : Int32) (S : zS) : Option (Int32 × zS) :=
  zb (f_X12_truth s0 S) fun r3 T2 =>
  zlet (s1 + r3) fun v4 =>
  zlet (x3 + 1) fun v5 =>
  K4 x1 v4 v5 T2
def f_X12_near_L4 : Nat → Int32 → Int32 → Int32 → zS → Option (Int32 × zS)
  | 0, _, _, _, _ => none
  | n + 1, x1, x2, x3, S =>
    zb (f_X12_bills S) fun r3 T2 =>
    if x3 < r3 then
      if x3 = x1 then
        f_X12_near_B50 (f_X12_near_L4 n) x1 x3 0 x2 T2
      else
        zb (f_X12_lives x3 T2) fun r8 T7 =>
        if r8 = 0 then
          f_X12_near_B50 (f_X12_near_L4 n) x1 x3 0 x2 T7
        else
          zb (f_X12_of x3 2 T7) fun r12 T11 =>
          zb (f_X12_of x1 2 T11) fun r15 T14 =>
          zb (f_X12_apart r12 r15 T14) fun r18 T17 =>
          if r18 < 2 then
            f_X12_near_B50 (f_X12_near_L4 n) x1 x3 1 x2 T17
          else
            f_X12_near_B50 (f_X12_near_L4 n) x1 x3 0 x2 T17
    else
      some (x2, T2)
def f_X12_near (x1 : Int32) (S : zS) : Option (Int32 × zS) :=
  f_X12_near_L4 zN x1 0 0 S
set_option maxRecDepth 100000 in
theorem w_X12_near_B50 (l : Launch) {r : Int32} {S1 : zS} (K4 : Int32 → Int32 → Int32 → zS → Option (Int32 × zS)) (hK4 : ∀ (x1 : Int32) (x2 : Int32) (x3 : Int32) (S : zS), K4 x1 x2 x3 S = some (r, S1) → WA zLM l RX12 cX12_near 4 (some .int) 3 (some (.int r)) S1 4 [(0, .ref 0), (1, .int x1), (2, .int x2), (3, .int x3)] [] S) (x1 : Int32) (x3 : Int32) (s0 : Int32) (s1 : Int32) (S : zS) (h : f_X12_near_B50 K4 x1 x3 s0 s1 S = some (r, S1)) : WA zLM l RX12 cX12_near 4 (some .int) 3 (some (.int r)) S1 50 [(0, .ref 0), (1, .int x1), (3, .int x3)] [.int s0, .int s1] S := by
  unfold f_X12_near_B50 at h
  obtain ⟨r3, T2, q1, h⟩ := zb_some h
  refine z_callSi (pc := 50) (st := [.int s1]) [.int s0] dX12_near_50 zm_X12_307 zM_X12_truth (by decide) (w_X12_truth l q1) rfl rfl (Nat.le_of_ble_eq_true rfl) ?_
  refine z_iadd (pc := 53) dX12_near_53 ?_
  obtain ⟨v4, ev4, h⟩ := zl_some h
  refine z_top ev4 ?_
  refine z_istore_n (pc := 54) (lo' := [(2, .int v4), (0, .ref 0), (1, .int x1), (3, .int x3)]) dX12_near_54 rfl (by decide) rfl ?_
  obtain ⟨v5, ev5, h⟩ := zl_some h
  refine z_iinc (pc := 55) (q := 3) (v := v5) (lo' := [(3, .int v5), (2, .int v4), (0, .ref 0), (1, .int x1)]) dX12_near_55 rfl (by rw [ev5, zci_1]) (by decide) rfl ?_
  refine z_goto (pc := 58) (tgt := 4) dX12_near_58 (by decide) ?_
  exact z_sub [2, 3, 1, 0] rfl (hK4 x1 v4 v5 T2 h)
set_option maxRecDepth 100000 in
theorem w_X12_near_L4 (l : Launch) {r : Int32} {S1 : zS} : ∀ (n : Nat) (x1 : Int32) (x2 : Int32) (x3 : Int32) (S : zS), f_X12_near_L4 n x1 x2 x3 S = some (r, S1) → WA zLM l RX12 cX12_near 4 (some .int) 3 (some (.int r)) S1 4 [(0, .ref 0), (1, .int x1), (2, .int x2), (3, .int x3)] [] S := by
  intro n
  induction n with
  | zero =>
    intro x1 x2 x3 S h
    exact nomatch h
  | succ n ih =>
    intro x1 x2 x3 S h
    rw [f_X12_near_L4] at h
    refine z_iload_n (pc := 4) (q := 3) dX12_near_4 rfl rfl ?_
    refine z_aload_n (pc := 5) (q := 0) dX12_near_5 rfl rfl ?_
    obtain ⟨r3, T2, q1, h⟩ := zb_some h
    refine z_callVi (pc := 6) (st := [.int x3]) [] dX12_near_6 zm_X12_429 zM_X12_bills (by decide) oM_0 rfl (w_X12_bills l q1) rfl rfl (Nat.le_of_ble_eq_true rfl) ?_
    refine z_icmp_ge (pc := 9) (tgt := 61) dX12_near_9 (by decide) (fun c4 => ?_) (fun c4 => ?_)
    · have h := ze_some c4 h
      refine z_iload_n (pc := 61) (q := 2) dX12_near_61 rfl rfl ?_
      obtain ⟨rfl, rfl⟩ := zr_some h
      exact z_iret dX12_near_62
    · have h := zt_some c4 h
      refine z_iload_n (pc := 12) (q := 2) dX12_near_12 rfl rfl ?_
      refine z_iload_n (pc := 13) (q := 3) dX12_near_13 rfl rfl ?_
      refine z_iload_n (pc := 14) (q := 1) dX12_near_14 rfl rfl ?_
      refine z_icmp_eq (pc := 15) (tgt := 49) dX12_near_15 (by decide) (fun c5 => ?_) (fun c5 => ?_)
      · have h := zt_some c5 h
        refine z_iconst (pc := 49) (v := 0) dX12_near_49 zci_0 ?_
        exact z_sub [0, 1, 3] rfl (w_X12_near_B50 l (f_X12_near_L4 n) ih x1 x3 0 x2 T2 h)
      · have h := ze_some c5 h
        refine z_aload_n (pc := 18) (q := 0) dX12_near_18 rfl rfl ?_
        refine z_iload_n (pc := 19) (q := 3) dX12_near_19 rfl rfl ?_
        obtain ⟨r8, T7, q6, h⟩ := zb_some h
        refine z_callVi (pc := 20) (st := [.int x2]) [.int x3] dX12_near_20 zm_X12_432 zM_X12_lives (by decide) oM_0 rfl (w_X12_lives l q6) rfl rfl (Nat.le_of_ble_eq_true rfl) ?_
        refine z_if_eq (pc := 23) (tgt := 49) dX12_near_23 (by decide) (fun c9 => ?_) (fun c9 => ?_)
        · have h := zt_some c9 h
          refine z_iconst (pc := 49) (v := 0) dX12_near_49 zci_0 ?_
          exact z_sub [0, 1, 3] rfl (w_X12_near_B50 l (f_X12_near_L4 n) ih x1 x3 0 x2 T7 h)
        · have h := ze_some c9 h
          refine z_aload_n (pc := 26) (q := 0) dX12_near_26 rfl rfl ?_
          refine z_iload_n (pc := 27) (q := 3) dX12_near_27 rfl rfl ?_
          refine z_iconst (pc := 28) (v := 2) dX12_near_28 zci_2 ?_
          obtain ⟨r12, T11, q10, h⟩ := zb_some h
          refine z_callVi (pc := 29) (st := [.int x2]) [.int x3, .int 2] dX12_near_29 zm_X12_426 zM_X12_of (by decide) oM_0 rfl (w_X12_of l q10) rfl rfl (Nat.le_of_ble_eq_true rfl) ?_
          refine z_aload_n (pc := 32) (q := 0) dX12_near_32 rfl rfl ?_
          refine z_iload_n (pc := 33) (q := 1) dX12_near_33 rfl rfl ?_
          refine z_iconst (pc := 34) (v := 2) dX12_near_34 zci_2 ?_
          obtain ⟨r15, T14, q13, h⟩ := zb_some h
          refine z_callVi (pc := 35) (st := [.int r12, .int x2]) [.int x1, .int 2] dX12_near_35 zm_X12_426 zM_X12_of (by decide) oM_0 rfl (w_X12_of l q13) rfl rfl (Nat.le_of_ble_eq_true rfl) ?_
          obtain ⟨r18, T17, q16, h⟩ := zb_some h
          refine z_callSi (pc := 38) (st := [.int x2]) [.int r12, .int r15] dX12_near_38 zm_X12_444 zM_X12_apart (by decide) (w_X12_apart l q16) rfl rfl (Nat.le_of_ble_eq_true rfl) ?_
          refine z_iconst (pc := 41) (v := 2) dX12_near_41 zci_2 ?_
          refine z_icmp_ge (pc := 42) (tgt := 49) dX12_near_42 (by decide) (fun c19 => ?_) (fun c19 => ?_)
          · have h := ze_some c19 h
            refine z_iconst (pc := 49) (v := 0) dX12_near_49 zci_0 ?_
            exact z_sub [0, 1, 3] rfl (w_X12_near_B50 l (f_X12_near_L4 n) ih x1 x3 0 x2 T17 h)
          · have h := zt_some c19 h
            refine z_iconst (pc := 45) (v := 1) dX12_near_45 zci_1 ?_
            refine z_goto (pc := 46) (tgt := 50) dX12_near_46 (by decide) ?_
            exact z_sub [0, 1, 3] rfl (w_X12_near_B50 l (f_X12_near_L4 n) ih x1 x3 1 x2 T17 h)
set_option maxRecDepth 100000 in
theorem w_X12_near (l : Launch) {x1 : Int32} {S : zS} {r : Int32} {S1 : zS} (h : f_X12_near x1 S = some (r, S1)) : zMet zLM l yX12_near cX12_near 4 (some .int) 3 [.ref 0, .int x1] S (some (.int r)) S1 := by
  unfold f_X12_near at h
  refine zMet.of (by decide +kernel) (Nat.le_of_ble_eq_true rfl) ?_
  show WA zLM l RX12 cX12_near 4 (some .int) 3 (some (.int r)) S1 0 [(0, .ref 0), (1, .int x1)] [] S
  refine z_iconst (pc := 0) (v := 0) dX12_near_0 zci_0 ?_
  refine z_istore_n (pc := 1) (lo' := [(2, .int 0), (0, .ref 0), (1, .int x1)]) dX12_near_1 rfl (by decide) rfl ?_
  refine z_iconst (pc := 2) (v := 0) dX12_near_2 zci_0 ?_
  refine z_istore_n (pc := 3) (lo' := [(3, .int 0), (2, .int 0), (0, .ref 0), (1, .int x1)]) dX12_near_3 rfl (by decide) rfl ?_
  exact z_sub [2, 3, 1, 0] rfl (w_X12_near_L4 l zN x1 0 0 S h)
def f_X12_lessen_B32 (s0 : Int32) (s1 : Int32) (S : zS) : Option zS :=
  if zin s1 99 then
  zlet (zput S 20 s1.toNatClampNeg s0) fun T2 =>
  some T2 else none
def f_X12_lessen (x1 : Int32) (x2 : Int32) (S : zS) : Option zS :=
  zb (f_X12_of x1 0 S) fun r3 T2 =>
  if x2 < r3 then
    zb (f_X12_of x1 0 T2) fun r7 T6 =>
    f_X12_lessen_B32 (r7 - x2) ((8 * x1) + 0) T6
  else
    f_X12_lessen_B32 0 ((8 * x1) + 0) T2
set_option maxRecDepth 100000 in
theorem w_X12_lessen_B32 (l : Launch) {S1 : zS} (s0 : Int32) (s1 : Int32) (S : zS) (h : f_X12_lessen_B32 s0 s1 S = some S1) : WA zLM l RX12 cX12_lessen 3 none 2 none S1 32 [] [.int s0, .int s1, .ref 20] S := by
  unfold f_X12_lessen_B32 at h
  obtain ⟨c1, h⟩ := zg_some h
  obtain ⟨T2, eT2, h⟩ := zl_some h
  refine z_iast (pc := 32) dX12_lessen_32 aM_20 c1 eT2 ?_
  cases h
  exact z_vret dX12_lessen_33
set_option maxRecDepth 100000 in
theorem w_X12_lessen (l : Launch) {x1 : Int32} {x2 : Int32} {S : zS} {S1 : zS} (h : f_X12_lessen x1 x2 S = some S1) : zMet zLM l yX12_lessen cX12_lessen 3 none 2 [.ref 0, .int x1, .int x2] S none S1 := by
  unfold f_X12_lessen at h
  refine zMet.of (by decide +kernel) (Nat.le_of_ble_eq_true rfl) ?_
  show WA zLM l RX12 cX12_lessen 3 none 2 none S1 0 [(0, .ref 0), (1, .int x1), (2, .int x2)] [] S
  refine z_aload_n (pc := 0) (q := 0) dX12_lessen_0 rfl rfl ?_
  refine z_getR (pc := 1) dX12_lessen_1 zf_X12_79 gM_0_54 ?_
  refine z_bipush (pc := 4) (v := 8) dX12_lessen_4 zcb_8 ?_
  refine z_iload_n (pc := 6) (q := 1) dX12_lessen_6 rfl rfl ?_
  refine z_imul (pc := 7) dX12_lessen_7 ?_
  refine z_iconst (pc := 8) (v := 0) dX12_lessen_8 zci_0 ?_
  refine z_iadd (pc := 9) dX12_lessen_9 ?_
  refine z_aload_n (pc := 10) (q := 0) dX12_lessen_10 rfl rfl ?_
  refine z_iload_n (pc := 11) (q := 1) dX12_lessen_11 rfl rfl ?_
  refine z_iconst (pc := 12) (v := 0) dX12_lessen_12 zci_0 ?_
  obtain ⟨r3, T2, q1, h⟩ := zb_some h
  refine z_callVi (pc := 13) (st := [.int ((8 * x1) + 0), .ref 20]) [.int x1, .int 0] dX12_lessen_13 zm_X12_426 zM_X12_of (by decide) oM_0 rfl (w_X12_of l q1) rfl rfl (Nat.le_of_ble_eq_true rfl) ?_
  refine z_iload_n (pc := 16) (q := 2) dX12_lessen_16 rfl rfl ?_
  refine z_icmp_le (pc := 17) (tgt := 31) dX12_lessen_17 (by decide) (fun c4 => ?_) (fun c4 => ?_)
  · have h := ze_some c4 h
    refine z_iconst (pc := 31) (v := 0) dX12_lessen_31 zci_0 ?_
    exact z_sub [] rfl (w_X12_lessen_B32 l 0 ((8 * x1) + 0) T2 h)
  · have h := zt_some c4 h
    refine z_aload_n (pc := 20) (q := 0) dX12_lessen_20 rfl rfl ?_
    refine z_iload_n (pc := 21) (q := 1) dX12_lessen_21 rfl rfl ?_
    refine z_iconst (pc := 22) (v := 0) dX12_lessen_22 zci_0 ?_
    obtain ⟨r7, T6, q5, h⟩ := zb_some h
    refine z_callVi (pc := 23) (st := [.int ((8 * x1) + 0), .ref 20]) [.int x1, .int 0] dX12_lessen_23 zm_X12_426 zM_X12_of (by decide) oM_0 rfl (w_X12_of l q5) rfl rfl (Nat.le_of_ble_eq_true rfl) ?_
    refine z_iload_n (pc := 26) (q := 2) dX12_lessen_26 rfl rfl ?_
    refine z_isub (pc := 27) dX12_lessen_27 ?_
    refine z_goto (pc := 28) (tgt := 32) dX12_lessen_28 (by decide) ?_
    exact z_sub [] rfl (w_X12_lessen_B32 l (r7 - x2) ((8 * x1) + 0) T6 h)
def f_X12_members_L4 : Nat → Int32 → Int32 → Int32 → zS → Option (Int32 × zS)
  | 0, _, _, _, _ => none
  | n + 1, x0, x1, x2, S =>
    if x2 < 12 then
      zlet (x1 + ((x0 >>> (x2 &&& 31)) &&& 1)) fun v2 =>
      zlet (x2 + 1) fun v3 =>
      (f_X12_members_L4 n) x0 v2 v3 S
    else
      some (x1, S)
def f_X12_members (x0 : Int32) (S : zS) : Option (Int32 × zS) :=
  f_X12_members_L4 zN x0 0 0 S
set_option maxRecDepth 100000 in
theorem w_X12_members_L4 (l : Launch) {r : Int32} {S1 : zS} : ∀ (n : Nat) (x0 : Int32) (x1 : Int32) (x2 : Int32) (S : zS), f_X12_members_L4 n x0 x1 x2 S = some (r, S1) → WA zLM l RX12 cX12_members 3 (some .int) 1 (some (.int r)) S1 4 [(0, .int x0), (1, .int x1), (2, .int x2)] [] S := by
  intro n
  induction n with
  | zero =>
    intro x0 x1 x2 S h
    exact nomatch h
  | succ n ih =>
    intro x0 x1 x2 S h
    rw [f_X12_members_L4] at h
    refine z_iload_n (pc := 4) (q := 2) dX12_members_4 rfl rfl ?_
    refine z_bipush (pc := 5) (v := 12) dX12_members_5 zcb_12 ?_
    refine z_icmp_ge (pc := 7) (tgt := 24) dX12_members_7 (by decide) (fun c1 => ?_) (fun c1 => ?_)
    · have h := ze_some c1 h
      refine z_iload_n (pc := 24) (q := 1) dX12_members_24 rfl rfl ?_
      obtain ⟨rfl, rfl⟩ := zr_some h
      exact z_iret dX12_members_25
    · have h := zt_some c1 h
      refine z_iload_n (pc := 10) (q := 1) dX12_members_10 rfl rfl ?_
      refine z_iload_n (pc := 11) (q := 0) dX12_members_11 rfl rfl ?_
      refine z_iload_n (pc := 12) (q := 2) dX12_members_12 rfl rfl ?_
      refine z_ishr (pc := 13) dX12_members_13 ?_
      refine z_iconst (pc := 14) (v := 1) dX12_members_14 zci_1 ?_
      refine z_iand (pc := 15) dX12_members_15 ?_
      refine z_iadd (pc := 16) dX12_members_16 ?_
      obtain ⟨v2, ev2, h⟩ := zl_some h
      refine z_top ev2 ?_
      refine z_istore_n (pc := 17) (lo' := [(1, .int v2), (0, .int x0), (2, .int x2)]) dX12_members_17 rfl (by decide) rfl ?_
      obtain ⟨v3, ev3, h⟩ := zl_some h
      refine z_iinc (pc := 18) (q := 2) (v := v3) (lo' := [(2, .int v3), (1, .int v2), (0, .int x0)]) dX12_members_18 rfl (by rw [ev3, zci_1]) (by decide) rfl ?_
      refine z_goto (pc := 21) (tgt := 4) dX12_members_21 (by decide) ?_
      exact z_sub [2, 1, 0] rfl (ih x0 v2 v3 S h)
set_option maxRecDepth 100000 in
theorem w_X12_members (l : Launch) {x0 : Int32} {S : zS} {r : Int32} {S1 : zS} (h : f_X12_members x0 S = some (r, S1)) : zMet zLM l yX12_members cX12_members 3 (some .int) 1 [.int x0] S (some (.int r)) S1 := by
  unfold f_X12_members at h
  refine zMet.of (by decide +kernel) (Nat.le_of_ble_eq_true rfl) ?_
  show WA zLM l RX12 cX12_members 3 (some .int) 1 (some (.int r)) S1 0 [(0, .int x0)] [] S
  refine z_iconst (pc := 0) (v := 0) dX12_members_0 zci_0 ?_
  refine z_istore_n (pc := 1) (lo' := [(1, .int 0), (0, .int x0)]) dX12_members_1 rfl (by decide) rfl ?_
  refine z_iconst (pc := 2) (v := 0) dX12_members_2 zci_0 ?_
  refine z_istore_n (pc := 3) (lo' := [(2, .int 0), (1, .int 0), (0, .int x0)]) dX12_members_3 rfl (by decide) rfl ?_
  exact z_sub [2, 1, 0] rfl (w_X12_members_L4 l zN x0 0 0 S h)
def f_X12_goYear_B231 (x1 : Int32) (S : zS) : Option (Int32 × zS) :=
  zlet (zput S 20 (Int32.toNatClampNeg 97) ((S.1 20 (Int32.toNatClampNeg 97)) + 1)) fun T1 =>
  zb (f_X12_livingSet T1) fun r4 T3 =>
  zb (f_X12_members (x1 &&& (r4 ^^^ (-1))) T3) fun r7 T6 =>
  some (r7, T6)
def f_X12_goYear_L177 : Nat → Int32 → Int32 → zS → Option (Int32 × zS)
  | 0, _, _, _ => none
  | n + 1, x1, x2, S =>
    zb (f_X12_bills S) fun r3 T2 =>
    if x2 < r3 then
      if (zrem (T2.1 20 (Int32.toNatClampNeg 98)) 100) < (T2.1 0 46) then
        zb (f_X12_of x2 3 T2) fun r8 T7 =>
        if zin r8 4 then
        if (T7.1 17 r8.toNatClampNeg) = 0 then
          zu (f_X12_lessen x2 (T7.1 0 47) T7) fun T12 =>
          zlet (x2 + 1) fun v13 =>
          (f_X12_goYear_L177 n) x1 v13 T12
        else
          zlet (x2 + 1) fun v11 =>
          (f_X12_goYear_L177 n) x1 v11 T7 else none
      else
        f_X12_goYear_B231 x1 T2
    else
      f_X12_goYear_B231 x1 T2
def f_X12_goYear_B128 (K7 : Int32 → Int32 → zS → Option (Int32 × zS)) (x1 : Int32) (x2 : Int32) (s0 : Int32) (s1 : Int32) (S : zS) : Option (Int32 × zS) :=
  if zin s1 99 then
  zlet (zput S 20 s1.toNatClampNeg s0) fun T2 =>
  if zin ((8 * x2) + 1) 99 then
  if zin ((8 * x2) + 1) 99 then
  zlet (zput T2 20 ((8 * x2) + 1).toNatClampNeg ((T2.1 20 ((8 * x2) + 1).toNatClampNeg) + 1)) fun T5 =>
  zlet (x2 + 1) fun v6 =>
  K7 x1 v6 T5 else none else none else none
def f_X12_goYear_L7 : Nat → Int32 → Int32 → zS → Option (Int32 × zS)
  | 0, _, _, _ => none
  | n + 1, x1, x2, S =>
    zb (f_X12_bills S) fun r3 T2 =>
    if x2 < r3 then
      zb (f_X12_lives x2 T2) fun r7 T6 =>
      if r7 = 0 then
        zlet (x2 + 1) fun v9 =>
        (f_X12_goYear_L7 n) x1 v9 T6
      else
        zb (f_X12_of x2 0 T6) fun r11 T10 =>
        zlet (zput T10 9 (Int32.toNatClampNeg 0) r11) fun T12 =>
        zb (f_X12_of x2 1 T12) fun r15 T14 =>
        zlet (zput T14 9 (Int32.toNatClampNeg 1) r15) fun T16 =>
        zb (f_X12_of x2 2 T16) fun r19 T18 =>
        zlet (zput T18 9 (Int32.toNatClampNeg 2) r19) fun T20 =>
        zb (f_X12_near x2 T20) fun r23 T22 =>
        zlet (zput T22 9 (Int32.toNatClampNeg 3) r23) fun T24 =>
        zlet (zput T24 9 (Int32.toNatClampNeg 4) (T24.1 20 (Int32.toNatClampNeg 97))) fun T25 =>
        zb (f_X12_of x2 0 T25) fun r28 T27 =>
        zb (f_X12_grown T27) fun r31 T30 =>
        zlet (r28 + r31) fun v32 =>
        if v32 < 0 then
          f_X12_goYear_B128 (f_X12_goYear_L7 n) x1 x2 0 ((8 * x2) + 0) T30
        else
          if (99 : Int32) < v32 then
            f_X12_goYear_B128 (f_X12_goYear_L7 n) x1 x2 99 ((8 * x2) + 0) T30
          else
            f_X12_goYear_B128 (f_X12_goYear_L7 n) x1 x2 v32 ((8 * x2) + 0) T30
    else
      zlet (zput T2 20 (Int32.toNatClampNeg 98) (zrem (((T2.1 20 (Int32.toNatClampNeg 98)) * 137) + 71) 1000)) fun T5 =>
      f_X12_goYear_L177 zN x1 0 T5
def f_X12_goYear  (S : zS) : Option (Int32 × zS) :=
  zb (f_X12_livingSet S) fun r3 T2 =>
  f_X12_goYear_L7 zN r3 0 T2
set_option maxRecDepth 100000 in
theorem w_X12_goYear_B231 (l : Launch) {r : Int32} {S1 : zS} (x1 : Int32) (S : zS) (h : f_X12_goYear_B231 x1 S = some (r, S1)) : WA zLM l RX12 cX12_goYear 4 (some .int) 4 (some (.int r)) S1 231 [(0, .ref 0), (1, .int x1)] [] S := by
  unfold f_X12_goYear_B231 at h
  refine z_aload_n (pc := 231) (q := 0) dX12_goYear_231 rfl rfl ?_
  refine z_getR (pc := 232) dX12_goYear_232 zf_X12_79 gM_0_54 ?_
  refine z_bipush (pc := 235) (v := 97) dX12_goYear_235 zcb_97 ?_
  refine z_dup2 (pc := 237) dX12_goYear_237 rfl rfl ?_
  refine z_iald (pc := 238) dX12_goYear_238 aM_20 (by decide) ?_
  refine z_iconst (pc := 239) (v := 1) dX12_goYear_239 zci_1 ?_
  refine z_iadd (pc := 240) dX12_goYear_240 ?_
  obtain ⟨T1, eT1, h⟩ := zl_some h
  refine z_iast (pc := 241) dX12_goYear_241 aM_20 (by decide) eT1 ?_
  refine z_iload_n (pc := 242) (q := 1) dX12_goYear_242 rfl rfl ?_
  refine z_aload_n (pc := 243) (q := 0) dX12_goYear_243 rfl rfl ?_
  obtain ⟨r4, T3, q2, h⟩ := zb_some h
  refine z_callVi (pc := 244) (st := [.int x1]) [] dX12_goYear_244 zm_X12_435 zM_X12_livingSet (by decide) oM_0 rfl (w_X12_livingSet l q2) rfl rfl (Nat.le_of_ble_eq_true rfl) ?_
  refine z_iconst (pc := 247) (v := (-1)) dX12_goYear_247 zci_m1 ?_
  refine z_ixor (pc := 248) dX12_goYear_248 ?_
  refine z_iand (pc := 249) dX12_goYear_249 ?_
  obtain ⟨r7, T6, q5, h⟩ := zb_some h
  refine z_callSi (pc := 250) (st := []) [.int (x1 &&& (r4 ^^^ (-1)))] dX12_goYear_250 zm_X12_456 zM_X12_members (by decide) (w_X12_members l q5) rfl rfl (Nat.le_of_ble_eq_true rfl) ?_
  obtain ⟨rfl, rfl⟩ := zr_some h
  exact z_iret dX12_goYear_253
set_option maxRecDepth 100000 in
theorem w_X12_goYear_L177 (l : Launch) {r : Int32} {S1 : zS} : ∀ (n : Nat) (x1 : Int32) (x2 : Int32) (S : zS), f_X12_goYear_L177 n x1 x2 S = some (r, S1) → WA zLM l RX12 cX12_goYear 4 (some .int) 4 (some (.int r)) S1 177 [(0, .ref 0), (1, .int x1), (2, .int x2)] [] S := by
  intro n
  induction n with
  | zero =>
    intro x1 x2 S h
    exact nomatch h
  | succ n ih =>
    intro x1 x2 S h
    rw [f_X12_goYear_L177] at h
    refine z_iload_n (pc := 177) (q := 2) dX12_goYear_177 rfl rfl ?_
    refine z_aload_n (pc := 178) (q := 0) dX12_goYear_178 rfl rfl ?_
    obtain ⟨r3, T2, q1, h⟩ := zb_some h
    refine z_callVi (pc := 179) (st := [.int x2]) [] dX12_goYear_179 zm_X12_429 zM_X12_bills (by decide) oM_0 rfl (w_X12_bills l q1) rfl rfl (Nat.le_of_ble_eq_true rfl) ?_
    refine z_icmp_ge (pc := 182) (tgt := 231) dX12_goYear_182 (by decide) (fun c4 => ?_) (fun c4 => ?_)
    · have h := ze_some c4 h
      exact z_sub [0, 1] rfl (w_X12_goYear_B231 l x1 T2 h)
    · have h := zt_some c4 h
      refine z_aload_n (pc := 185) (q := 0) dX12_goYear_185 rfl rfl ?_
      refine z_getR (pc := 186) dX12_goYear_186 zf_X12_79 gM_0_54 ?_
      refine z_bipush (pc := 189) (v := 98) dX12_goYear_189 zcb_98 ?_
      refine z_iald (pc := 191) dX12_goYear_191 aM_20 (by decide) ?_
      refine z_bipush (pc := 192) (v := 100) dX12_goYear_192 zcb_100 ?_
      refine z_irem (pc := 194) dX12_goYear_194 (by decide) ?_
      refine zrem_fold ?_
      refine z_aload_n (pc := 195) (q := 0) dX12_goYear_195 rfl rfl ?_
      refine z_getI (pc := 196) dX12_goYear_196 zf_X12_404 gM_0_46 ?_
      refine z_icmp_ge (pc := 199) (tgt := 231) dX12_goYear_199 (by decide) (fun c5 => ?_) (fun c5 => ?_)
      · have h := ze_some c5 h
        exact z_sub [0, 1] rfl (w_X12_goYear_B231 l x1 T2 h)
      · have h := zt_some c5 h
        refine z_aload_n (pc := 202) (q := 0) dX12_goYear_202 rfl rfl ?_
        refine z_getR (pc := 203) dX12_goYear_203 zf_X12_64 gM_0_32 ?_
        refine z_aload_n (pc := 206) (q := 0) dX12_goYear_206 rfl rfl ?_
        refine z_iload_n (pc := 207) (q := 2) dX12_goYear_207 rfl rfl ?_
        refine z_iconst (pc := 208) (v := 3) dX12_goYear_208 zci_3 ?_
        obtain ⟨r8, T7, q6, h⟩ := zb_some h
        refine z_callVi (pc := 209) (st := [.ref 17]) [.int x2, .int 3] dX12_goYear_209 zm_X12_426 zM_X12_of (by decide) oM_0 rfl (w_X12_of l q6) rfl rfl (Nat.le_of_ble_eq_true rfl) ?_
        obtain ⟨c9, h⟩ := zg_some h
        refine z_zald (pc := 212) dX12_goYear_212 aM_17 c9 ?_
        refine z_if_ne (pc := 213) (tgt := 225) dX12_goYear_213 (by decide) (fun c10 => ?_) (fun c10 => ?_)
        · have h := ze_some c10 h
          obtain ⟨v11, ev11, h⟩ := zl_some h
          refine z_iinc (pc := 225) (q := 2) (v := v11) (lo' := [(2, .int v11), (0, .ref 0), (1, .int x1)]) dX12_goYear_225 rfl (by rw [ev11, zci_1]) (by decide) rfl ?_
          refine z_goto (pc := 228) (tgt := 177) dX12_goYear_228 (by decide) ?_
          exact z_sub [1, 2, 0] rfl (ih x1 v11 T7 h)
        · have h := zt_some c10 h
          refine z_aload_n (pc := 216) (q := 0) dX12_goYear_216 rfl rfl ?_
          refine z_iload_n (pc := 217) (q := 2) dX12_goYear_217 rfl rfl ?_
          refine z_aload_n (pc := 218) (q := 0) dX12_goYear_218 rfl rfl ?_
          refine z_getI (pc := 219) dX12_goYear_219 zf_X12_73 gM_0_47 ?_
          obtain ⟨T12, q11, h⟩ := zu_some h
          refine z_callVv (pc := 222) (st := []) [.int x2, .int (T7.1 0 47)] dX12_goYear_222 zm_X12_453 zM_X12_lessen (by decide) oM_0 rfl (w_X12_lessen l q11) rfl rfl (Nat.le_of_ble_eq_true rfl) ?_
          obtain ⟨v13, ev13, h⟩ := zl_some h
          refine z_iinc (pc := 225) (q := 2) (v := v13) (lo' := [(2, .int v13), (0, .ref 0), (1, .int x1)]) dX12_goYear_225 rfl (by rw [ev13, zci_1]) (by decide) rfl ?_
          refine z_goto (pc := 228) (tgt := 177) dX12_goYear_228 (by decide) ?_
          exact z_sub [1, 2, 0] rfl (ih x1 v13 T12 h)
set_option maxRecDepth 100000 in
theorem w_X12_goYear_B128 (l : Launch) {r : Int32} {S1 : zS} (K7 : Int32 → Int32 → zS → Option (Int32 × zS)) (hK7 : ∀ (x1 : Int32) (x2 : Int32) (S : zS), K7 x1 x2 S = some (r, S1) → WA zLM l RX12 cX12_goYear 4 (some .int) 4 (some (.int r)) S1 7 [(0, .ref 0), (1, .int x1), (2, .int x2)] [] S) (x1 : Int32) (x2 : Int32) (s0 : Int32) (s1 : Int32) (S : zS) (h : f_X12_goYear_B128 K7 x1 x2 s0 s1 S = some (r, S1)) : WA zLM l RX12 cX12_goYear 4 (some .int) 4 (some (.int r)) S1 128 [(0, .ref 0), (1, .int x1), (2, .int x2)] [.int s0, .int s1, .ref 20] S := by
  unfold f_X12_goYear_B128 at h
  obtain ⟨c1, h⟩ := zg_some h
  obtain ⟨T2, eT2, h⟩ := zl_some h
  refine z_iast (pc := 128) dX12_goYear_128 aM_20 c1 eT2 ?_
  refine z_aload_n (pc := 129) (q := 0) dX12_goYear_129 rfl rfl ?_
  refine z_getR (pc := 130) dX12_goYear_130 zf_X12_79 gM_0_54 ?_
  refine z_bipush (pc := 133) (v := 8) dX12_goYear_133 zcb_8 ?_
  refine z_iload_n (pc := 135) (q := 2) dX12_goYear_135 rfl rfl ?_
  refine z_imul (pc := 136) dX12_goYear_136 ?_
  refine z_iconst (pc := 137) (v := 1) dX12_goYear_137 zci_1 ?_
  refine z_iadd (pc := 138) dX12_goYear_138 ?_
  refine z_dup2 (pc := 139) dX12_goYear_139 rfl rfl ?_
  obtain ⟨c3, h⟩ := zg_some h
  refine z_iald (pc := 140) dX12_goYear_140 aM_20 c3 ?_
  refine z_iconst (pc := 141) (v := 1) dX12_goYear_141 zci_1 ?_
  refine z_iadd (pc := 142) dX12_goYear_142 ?_
  obtain ⟨c4, h⟩ := zg_some h
  obtain ⟨T5, eT5, h⟩ := zl_some h
  refine z_iast (pc := 143) dX12_goYear_143 aM_20 c4 eT5 ?_
  obtain ⟨v6, ev6, h⟩ := zl_some h
  refine z_iinc (pc := 144) (q := 2) (v := v6) (lo' := [(2, .int v6), (0, .ref 0), (1, .int x1)]) dX12_goYear_144 rfl (by rw [ev6, zci_1]) (by decide) rfl ?_
  refine z_goto (pc := 147) (tgt := 7) dX12_goYear_147 (by decide) ?_
  exact z_sub [1, 2, 0] rfl (hK7 x1 v6 T5 h)
set_option maxRecDepth 100000 in
theorem w_X12_goYear_L7 (l : Launch) {r : Int32} {S1 : zS} : ∀ (n : Nat) (x1 : Int32) (x2 : Int32) (S : zS), f_X12_goYear_L7 n x1 x2 S = some (r, S1) → WA zLM l RX12 cX12_goYear 4 (some .int) 4 (some (.int r)) S1 7 [(0, .ref 0), (1, .int x1), (2, .int x2)] [] S := by
  intro n
  induction n with
  | zero =>
    intro x1 x2 S h
    exact nomatch h
  | succ n ih =>
    intro x1 x2 S h
    rw [f_X12_goYear_L7] at h
    refine z_iload_n (pc := 7) (q := 2) dX12_goYear_7 rfl rfl ?_
    refine z_aload_n (pc := 8) (q := 0) dX12_goYear_8 rfl rfl ?_
    obtain ⟨r3, T2, q1, h⟩ := zb_some h
    refine z_callVi (pc := 9) (st := [.int x2]) [] dX12_goYear_9 zm_X12_429 zM_X12_bills (by decide) oM_0 rfl (w_X12_bills l q1) rfl rfl (Nat.le_of_ble_eq_true rfl) ?_
    refine z_icmp_ge (pc := 12) (tgt := 150) dX12_goYear_12 (by decide) (fun c4 => ?_) (fun c4 => ?_)
    · have h := ze_some c4 h
      refine z_aload_n (pc := 150) (q := 0) dX12_goYear_150 rfl rfl ?_
      refine z_getR (pc := 151) dX12_goYear_151 zf_X12_79 gM_0_54 ?_
      refine z_bipush (pc := 154) (v := 98) dX12_goYear_154 zcb_98 ?_
      refine z_aload_n (pc := 156) (q := 0) dX12_goYear_156 rfl rfl ?_
      refine z_getR (pc := 157) dX12_goYear_157 zf_X12_79 gM_0_54 ?_
      refine z_bipush (pc := 160) (v := 98) dX12_goYear_160 zcb_98 ?_
      refine z_iald (pc := 162) dX12_goYear_162 aM_20 (by decide) ?_
      refine z_sipush (pc := 163) (v := 137) dX12_goYear_163 zcs_137 ?_
      refine z_imul (pc := 166) dX12_goYear_166 ?_
      refine z_bipush (pc := 167) (v := 71) dX12_goYear_167 zcb_71 ?_
      refine z_iadd (pc := 169) dX12_goYear_169 ?_
      refine z_sipush (pc := 170) (v := 1000) dX12_goYear_170 zcs_1000 ?_
      refine z_irem (pc := 173) dX12_goYear_173 (by decide) ?_
      refine zrem_fold ?_
      obtain ⟨T5, eT5, h⟩ := zl_some h
      refine z_iast (pc := 174) dX12_goYear_174 aM_20 (by decide) eT5 ?_
      refine z_iconst (pc := 175) (v := 0) dX12_goYear_175 zci_0 ?_
      refine z_istore_n (pc := 176) (lo' := [(2, .int 0), (0, .ref 0), (1, .int x1)]) dX12_goYear_176 rfl (by decide) rfl ?_
      exact z_sub [1, 2, 0] rfl (w_X12_goYear_L177 l zN x1 0 T5 h)
    · have h := zt_some c4 h
      refine z_aload_n (pc := 15) (q := 0) dX12_goYear_15 rfl rfl ?_
      refine z_iload_n (pc := 16) (q := 2) dX12_goYear_16 rfl rfl ?_
      obtain ⟨r7, T6, q5, h⟩ := zb_some h
      refine z_callVi (pc := 17) (st := []) [.int x2] dX12_goYear_17 zm_X12_432 zM_X12_lives (by decide) oM_0 rfl (w_X12_lives l q5) rfl rfl (Nat.le_of_ble_eq_true rfl) ?_
      refine z_if_ne (pc := 20) (tgt := 26) dX12_goYear_20 (by decide) (fun c8 => ?_) (fun c8 => ?_)
      · have h := ze_some c8 h
        refine z_aload_n (pc := 26) (q := 0) dX12_goYear_26 rfl rfl ?_
        refine z_getR (pc := 27) dX12_goYear_27 zf_X12_39 gM_0_24 ?_
        refine z_iconst (pc := 30) (v := 0) dX12_goYear_30 zci_0 ?_
        refine z_aload_n (pc := 31) (q := 0) dX12_goYear_31 rfl rfl ?_
        refine z_iload_n (pc := 32) (q := 2) dX12_goYear_32 rfl rfl ?_
        refine z_iconst (pc := 33) (v := 0) dX12_goYear_33 zci_0 ?_
        obtain ⟨r11, T10, q9, h⟩ := zb_some h
        refine z_callVi (pc := 34) (st := [.int 0, .ref 9]) [.int x2, .int 0] dX12_goYear_34 zm_X12_426 zM_X12_of (by decide) oM_0 rfl (w_X12_of l q9) rfl rfl (Nat.le_of_ble_eq_true rfl) ?_
        obtain ⟨T12, eT12, h⟩ := zl_some h
        refine z_iast (pc := 37) dX12_goYear_37 aM_9 (by decide) eT12 ?_
        refine z_aload_n (pc := 38) (q := 0) dX12_goYear_38 rfl rfl ?_
        refine z_getR (pc := 39) dX12_goYear_39 zf_X12_39 gM_0_24 ?_
        refine z_iconst (pc := 42) (v := 1) dX12_goYear_42 zci_1 ?_
        refine z_aload_n (pc := 43) (q := 0) dX12_goYear_43 rfl rfl ?_
        refine z_iload_n (pc := 44) (q := 2) dX12_goYear_44 rfl rfl ?_
        refine z_iconst (pc := 45) (v := 1) dX12_goYear_45 zci_1 ?_
        obtain ⟨r15, T14, q13, h⟩ := zb_some h
        refine z_callVi (pc := 46) (st := [.int 1, .ref 9]) [.int x2, .int 1] dX12_goYear_46 zm_X12_426 zM_X12_of (by decide) oM_0 rfl (w_X12_of l q13) rfl rfl (Nat.le_of_ble_eq_true rfl) ?_
        obtain ⟨T16, eT16, h⟩ := zl_some h
        refine z_iast (pc := 49) dX12_goYear_49 aM_9 (by decide) eT16 ?_
        refine z_aload_n (pc := 50) (q := 0) dX12_goYear_50 rfl rfl ?_
        refine z_getR (pc := 51) dX12_goYear_51 zf_X12_39 gM_0_24 ?_
        refine z_iconst (pc := 54) (v := 2) dX12_goYear_54 zci_2 ?_
        refine z_aload_n (pc := 55) (q := 0) dX12_goYear_55 rfl rfl ?_
        refine z_iload_n (pc := 56) (q := 2) dX12_goYear_56 rfl rfl ?_
        refine z_iconst (pc := 57) (v := 2) dX12_goYear_57 zci_2 ?_
        obtain ⟨r19, T18, q17, h⟩ := zb_some h
        refine z_callVi (pc := 58) (st := [.int 2, .ref 9]) [.int x2, .int 2] dX12_goYear_58 zm_X12_426 zM_X12_of (by decide) oM_0 rfl (w_X12_of l q17) rfl rfl (Nat.le_of_ble_eq_true rfl) ?_
        obtain ⟨T20, eT20, h⟩ := zl_some h
        refine z_iast (pc := 61) dX12_goYear_61 aM_9 (by decide) eT20 ?_
        refine z_aload_n (pc := 62) (q := 0) dX12_goYear_62 rfl rfl ?_
        refine z_getR (pc := 63) dX12_goYear_63 zf_X12_39 gM_0_24 ?_
        refine z_iconst (pc := 66) (v := 3) dX12_goYear_66 zci_3 ?_
        refine z_aload_n (pc := 67) (q := 0) dX12_goYear_67 rfl rfl ?_
        refine z_iload_n (pc := 68) (q := 2) dX12_goYear_68 rfl rfl ?_
        obtain ⟨r23, T22, q21, h⟩ := zb_some h
        refine z_callVi (pc := 69) (st := [.int 3, .ref 9]) [.int x2] dX12_goYear_69 zm_X12_447 zM_X12_near (by decide) oM_0 rfl (w_X12_near l q21) rfl rfl (Nat.le_of_ble_eq_true rfl) ?_
        obtain ⟨T24, eT24, h⟩ := zl_some h
        refine z_iast (pc := 72) dX12_goYear_72 aM_9 (by decide) eT24 ?_
        refine z_aload_n (pc := 73) (q := 0) dX12_goYear_73 rfl rfl ?_
        refine z_getR (pc := 74) dX12_goYear_74 zf_X12_39 gM_0_24 ?_
        refine z_iconst (pc := 77) (v := 4) dX12_goYear_77 zci_4 ?_
        refine z_aload_n (pc := 78) (q := 0) dX12_goYear_78 rfl rfl ?_
        refine z_getR (pc := 79) dX12_goYear_79 zf_X12_79 gM_0_54 ?_
        refine z_bipush (pc := 82) (v := 97) dX12_goYear_82 zcb_97 ?_
        refine z_iald (pc := 84) dX12_goYear_84 aM_20 (by decide) ?_
        obtain ⟨T25, eT25, h⟩ := zl_some h
        refine z_iast (pc := 85) dX12_goYear_85 aM_9 (by decide) eT25 ?_
        refine z_aload_n (pc := 86) (q := 0) dX12_goYear_86 rfl rfl ?_
        refine z_iload_n (pc := 87) (q := 2) dX12_goYear_87 rfl rfl ?_
        refine z_iconst (pc := 88) (v := 0) dX12_goYear_88 zci_0 ?_
        obtain ⟨r28, T27, q26, h⟩ := zb_some h
        refine z_callVi (pc := 89) (st := []) [.int x2, .int 0] dX12_goYear_89 zm_X12_426 zM_X12_of (by decide) oM_0 rfl (w_X12_of l q26) rfl rfl (Nat.le_of_ble_eq_true rfl) ?_
        refine z_aload_n (pc := 92) (q := 0) dX12_goYear_92 rfl rfl ?_
        obtain ⟨r31, T30, q29, h⟩ := zb_some h
        refine z_callVi (pc := 93) (st := [.int r28]) [] dX12_goYear_93 zm_X12_450 zM_X12_grown (by decide) oM_0 rfl (w_X12_grown l q29) rfl rfl (Nat.le_of_ble_eq_true rfl) ?_
        refine z_iadd (pc := 96) dX12_goYear_96 ?_
        obtain ⟨v32, ev32, h⟩ := zl_some h
        refine z_top ev32 ?_
        refine z_istore_n (pc := 97) (lo' := [(3, .int v32), (0, .ref 0), (1, .int x1), (2, .int x2)]) dX12_goYear_97 rfl (by decide) rfl ?_
        refine z_aload_n (pc := 98) (q := 1) dX12_goYear_98 rfl rfl ?_
        refine z_getR (pc := 99) dX12_goYear_99 zf_X12_79 gM_0_54 ?_
        refine z_bipush (pc := 102) (v := 8) dX12_goYear_102 zcb_8 ?_
        refine z_iload_n (pc := 104) (q := 3) dX12_goYear_104 rfl rfl ?_
        refine z_imul (pc := 105) dX12_goYear_105 ?_
        refine z_iconst (pc := 106) (v := 0) dX12_goYear_106 zci_0 ?_
        refine z_iadd (pc := 107) dX12_goYear_107 ?_
        refine z_iload_n (pc := 108) (q := 0) dX12_goYear_108 rfl rfl ?_
        refine z_if_ge (pc := 109) (tgt := 116) dX12_goYear_109 (by decide) (fun c33 => ?_) (fun c33 => ?_)
        · have h := ze_some c33 h
          refine z_iload_n (pc := 116) (q := 0) dX12_goYear_116 rfl rfl ?_
          refine z_bipush (pc := 117) (v := 99) dX12_goYear_117 zcb_99 ?_
          refine z_icmp_le (pc := 119) (tgt := 127) dX12_goYear_119 (by decide) (fun c34 => ?_) (fun c34 => ?_)
          · have h := ze_some c34 h
            refine z_iload_n (pc := 127) (q := 0) dX12_goYear_127 rfl rfl ?_
            exact z_sub [1, 2, 3] rfl (w_X12_goYear_B128 l (f_X12_goYear_L7 n) ih x1 x2 v32 ((8 * x2) + 0) T30 h)
          · have h := zt_some c34 h
            refine z_bipush (pc := 122) (v := 99) dX12_goYear_122 zcb_99 ?_
            refine z_goto (pc := 124) (tgt := 128) dX12_goYear_124 (by decide) ?_
            exact z_sub [1, 2, 3] rfl (w_X12_goYear_B128 l (f_X12_goYear_L7 n) ih x1 x2 99 ((8 * x2) + 0) T30 h)
        · have h := zt_some c33 h
          refine z_iconst (pc := 112) (v := 0) dX12_goYear_112 zci_0 ?_
          refine z_goto (pc := 113) (tgt := 128) dX12_goYear_113 (by decide) ?_
          exact z_sub [1, 2, 3] rfl (w_X12_goYear_B128 l (f_X12_goYear_L7 n) ih x1 x2 0 ((8 * x2) + 0) T30 h)
      · have h := zt_some c8 h
        refine z_goto (pc := 23) (tgt := 144) dX12_goYear_23 (by decide) ?_
        obtain ⟨v9, ev9, h⟩ := zl_some h
        refine z_iinc (pc := 144) (q := 2) (v := v9) (lo' := [(2, .int v9), (0, .ref 0), (1, .int x1)]) dX12_goYear_144 rfl (by rw [ev9, zci_1]) (by decide) rfl ?_
        refine z_goto (pc := 147) (tgt := 7) dX12_goYear_147 (by decide) ?_
        exact z_sub [1, 2, 0] rfl (ih x1 v9 T6 h)
set_option maxRecDepth 100000 in
theorem w_X12_goYear (l : Launch)  {S : zS} {r : Int32} {S1 : zS} (h : f_X12_goYear S = some (r, S1)) : zMet zLM l yX12_goYear cX12_goYear 4 (some .int) 4 [.ref 0] S (some (.int r)) S1 := by
  unfold f_X12_goYear at h
  refine zMet.of (by decide +kernel) (Nat.le_of_ble_eq_true rfl) ?_
  show WA zLM l RX12 cX12_goYear 4 (some .int) 4 (some (.int r)) S1 0 [(0, .ref 0)] [] S
  refine z_aload_n (pc := 0) (q := 0) dX12_goYear_0 rfl rfl ?_
  obtain ⟨r3, T2, q1, h⟩ := zb_some h
  refine z_callVi (pc := 1) (st := []) [] dX12_goYear_1 zm_X12_435 zM_X12_livingSet (by decide) oM_0 rfl (w_X12_livingSet l q1) rfl rfl (Nat.le_of_ble_eq_true rfl) ?_
  refine z_istore_n (pc := 4) (lo' := [(1, .int r3), (0, .ref 0)]) dX12_goYear_4 rfl (by decide) rfl ?_
  refine z_iconst (pc := 5) (v := 0) dX12_goYear_5 zci_0 ?_
  refine z_istore_n (pc := 6) (lo' := [(2, .int 0), (1, .int r3), (0, .ref 0)]) dX12_goYear_6 rfl (by decide) rfl ?_
  exact z_sub [2, 1, 0] rfl (w_X12_goYear_L7 l zN r3 0 T2 h)
def f_X12_bill (x1 : Int32) (x2 : Int32) (S : zS) : Option (Int32 × zS) :=
  zb (f_X12_isBill x1 S) fun r3 T2 =>
  if r3 = 0 then
    some ((-100), T2)
  else
    zu (f_X12_load T2) fun T6 =>
    if x2 = 0 then
      zb (f_X12_of x1 0 T6) fun r10 T9 =>
      some (r10, T9)
    else
      if x2 = 1 then
        zb (f_X12_of x1 1 T6) fun r11 T10 =>
        some (r11, T10)
      else
        if x2 = 2 then
          zb (f_X12_of x1 2 T6) fun r12 T11 =>
          some (r12, T11)
        else
          if x2 = 3 then
            zb (f_X12_of x1 3 T6) fun r13 T12 =>
            some (r13, T12)
          else
            if x2 = 4 then
              zb (f_X12_of x1 4 T6) fun r14 T13 =>
              some (r14, T13)
            else
              if x2 = 5 then
                zb (f_X12_of x1 5 T6) fun r15 T14 =>
                some (r15, T14)
              else
                if x2 = 6 then
                  zb (f_X12_of x1 6 T6) fun r16 T15 =>
                  some (r16, T15)
                else
                  if x2 = 7 then
                    zb (f_X12_of x1 7 T6) fun r17 T16 =>
                    some (r17, T16)
                  else
                    if x2 = 8 then
                      zb (f_X12_standing T6) fun r18 T17 =>
                      some ((r18 >>> (x1 &&& 31)) &&& 1, T17)
                    else
                      if x2 = 9 then
                        zb (f_X12_repealedSet T6) fun r19 T18 =>
                        some ((r19 >>> (x1 &&& 31)) &&& 1, T18)
                      else
                        some ((-100), T6)
set_option maxRecDepth 100000 in
theorem w_X12_bill (l : Launch) {x1 : Int32} {x2 : Int32} {S : zS} {r : Int32} {S1 : zS} (h : f_X12_bill x1 x2 S = some (r, S1)) : zMet zLM l yX12_bill cX12_bill 3 (some .int) 5 [.ref 0, .int x1, .int x2] S (some (.int r)) S1 := by
  unfold f_X12_bill at h
  refine zMet.of (by decide +kernel) (Nat.le_of_ble_eq_true rfl) ?_
  show WA zLM l RX12 cX12_bill 3 (some .int) 5 (some (.int r)) S1 0 [(0, .ref 0), (1, .int x1), (2, .int x2)] [] S
  refine z_aload_n (pc := 0) (q := 0) dX12_bill_0 rfl rfl ?_
  refine z_iload_n (pc := 1) (q := 1) dX12_bill_1 rfl rfl ?_
  obtain ⟨r3, T2, q1, h⟩ := zb_some h
  refine z_callVi (pc := 2) (st := []) [.int x1] dX12_bill_2 zm_X12_459 zM_X12_isBill (by decide) oM_0 rfl (w_X12_isBill l q1) rfl rfl (Nat.le_of_ble_eq_true rfl) ?_
  refine z_if_ne (pc := 5) (tgt := 11) dX12_bill_5 (by decide) (fun c4 => ?_) (fun c4 => ?_)
  · have h := ze_some c4 h
    refine z_aload_n (pc := 11) (q := 0) dX12_bill_11 rfl rfl ?_
    obtain ⟨T6, q5, h⟩ := zu_some h
    refine z_callVv (pc := 12) (st := []) [] dX12_bill_12 zm_X12_462 zM_X12_load (by decide) oM_0 rfl (w_X12_load l q5) rfl rfl (Nat.le_of_ble_eq_true rfl) ?_
    refine z_iload_n (pc := 15) (q := 2) dX12_bill_15 rfl rfl ?_
    refine z_tsw (pc := 16) 148 [(0, 72), (1, 79), (2, 86), (3, 93), (4, 100), (5, 107), (6, 114), (7, 122), (8, 130), (9, 139)] dX12_bill_16 (by decide) (by decide +kernel) (by decide +kernel) ?_
    refine zsw_c (fun c7 => ?_) (fun c7 => ?_)
    · have h := zt_some c7 h
      refine z_aload_n (pc := 72) (q := 0) dX12_bill_72 rfl rfl ?_
      refine z_iload_n (pc := 73) (q := 1) dX12_bill_73 rfl rfl ?_
      refine z_iconst (pc := 74) (v := 0) dX12_bill_74 zci_0 ?_
      obtain ⟨r10, T9, q8, h⟩ := zb_some h
      refine z_callVi (pc := 75) (st := []) [.int x1, .int 0] dX12_bill_75 zm_X12_426 zM_X12_of (by decide) oM_0 rfl (w_X12_of l q8) rfl rfl (Nat.le_of_ble_eq_true rfl) ?_
      obtain ⟨rfl, rfl⟩ := zr_some h
      exact z_iret dX12_bill_78
    · have h := ze_some c7 h
      refine zsw_c (fun c8 => ?_) (fun c8 => ?_)
      · have h := zt_some c8 h
        refine z_aload_n (pc := 79) (q := 0) dX12_bill_79 rfl rfl ?_
        refine z_iload_n (pc := 80) (q := 1) dX12_bill_80 rfl rfl ?_
        refine z_iconst (pc := 81) (v := 1) dX12_bill_81 zci_1 ?_
        obtain ⟨r11, T10, q9, h⟩ := zb_some h
        refine z_callVi (pc := 82) (st := []) [.int x1, .int 1] dX12_bill_82 zm_X12_426 zM_X12_of (by decide) oM_0 rfl (w_X12_of l q9) rfl rfl (Nat.le_of_ble_eq_true rfl) ?_
        obtain ⟨rfl, rfl⟩ := zr_some h
        exact z_iret dX12_bill_85
      · have h := ze_some c8 h
        refine zsw_c (fun c9 => ?_) (fun c9 => ?_)
        · have h := zt_some c9 h
          refine z_aload_n (pc := 86) (q := 0) dX12_bill_86 rfl rfl ?_
          refine z_iload_n (pc := 87) (q := 1) dX12_bill_87 rfl rfl ?_
          refine z_iconst (pc := 88) (v := 2) dX12_bill_88 zci_2 ?_
          obtain ⟨r12, T11, q10, h⟩ := zb_some h
          refine z_callVi (pc := 89) (st := []) [.int x1, .int 2] dX12_bill_89 zm_X12_426 zM_X12_of (by decide) oM_0 rfl (w_X12_of l q10) rfl rfl (Nat.le_of_ble_eq_true rfl) ?_
          obtain ⟨rfl, rfl⟩ := zr_some h
          exact z_iret dX12_bill_92
        · have h := ze_some c9 h
          refine zsw_c (fun c10 => ?_) (fun c10 => ?_)
          · have h := zt_some c10 h
            refine z_aload_n (pc := 93) (q := 0) dX12_bill_93 rfl rfl ?_
            refine z_iload_n (pc := 94) (q := 1) dX12_bill_94 rfl rfl ?_
            refine z_iconst (pc := 95) (v := 3) dX12_bill_95 zci_3 ?_
            obtain ⟨r13, T12, q11, h⟩ := zb_some h
            refine z_callVi (pc := 96) (st := []) [.int x1, .int 3] dX12_bill_96 zm_X12_426 zM_X12_of (by decide) oM_0 rfl (w_X12_of l q11) rfl rfl (Nat.le_of_ble_eq_true rfl) ?_
            obtain ⟨rfl, rfl⟩ := zr_some h
            exact z_iret dX12_bill_99
          · have h := ze_some c10 h
            refine zsw_c (fun c11 => ?_) (fun c11 => ?_)
            · have h := zt_some c11 h
              refine z_aload_n (pc := 100) (q := 0) dX12_bill_100 rfl rfl ?_
              refine z_iload_n (pc := 101) (q := 1) dX12_bill_101 rfl rfl ?_
              refine z_iconst (pc := 102) (v := 4) dX12_bill_102 zci_4 ?_
              obtain ⟨r14, T13, q12, h⟩ := zb_some h
              refine z_callVi (pc := 103) (st := []) [.int x1, .int 4] dX12_bill_103 zm_X12_426 zM_X12_of (by decide) oM_0 rfl (w_X12_of l q12) rfl rfl (Nat.le_of_ble_eq_true rfl) ?_
              obtain ⟨rfl, rfl⟩ := zr_some h
              exact z_iret dX12_bill_106
            · have h := ze_some c11 h
              refine zsw_c (fun c12 => ?_) (fun c12 => ?_)
              · have h := zt_some c12 h
                refine z_aload_n (pc := 107) (q := 0) dX12_bill_107 rfl rfl ?_
                refine z_iload_n (pc := 108) (q := 1) dX12_bill_108 rfl rfl ?_
                refine z_iconst (pc := 109) (v := 5) dX12_bill_109 zci_5 ?_
                obtain ⟨r15, T14, q13, h⟩ := zb_some h
                refine z_callVi (pc := 110) (st := []) [.int x1, .int 5] dX12_bill_110 zm_X12_426 zM_X12_of (by decide) oM_0 rfl (w_X12_of l q13) rfl rfl (Nat.le_of_ble_eq_true rfl) ?_
                obtain ⟨rfl, rfl⟩ := zr_some h
                exact z_iret dX12_bill_113
              · have h := ze_some c12 h
                refine zsw_c (fun c13 => ?_) (fun c13 => ?_)
                · have h := zt_some c13 h
                  refine z_aload_n (pc := 114) (q := 0) dX12_bill_114 rfl rfl ?_
                  refine z_iload_n (pc := 115) (q := 1) dX12_bill_115 rfl rfl ?_
                  refine z_bipush (pc := 116) (v := 6) dX12_bill_116 zcb_6 ?_
                  obtain ⟨r16, T15, q14, h⟩ := zb_some h
                  refine z_callVi (pc := 118) (st := []) [.int x1, .int 6] dX12_bill_118 zm_X12_426 zM_X12_of (by decide) oM_0 rfl (w_X12_of l q14) rfl rfl (Nat.le_of_ble_eq_true rfl) ?_
                  obtain ⟨rfl, rfl⟩ := zr_some h
                  exact z_iret dX12_bill_121
                · have h := ze_some c13 h
                  refine zsw_c (fun c14 => ?_) (fun c14 => ?_)
                  · have h := zt_some c14 h
                    refine z_aload_n (pc := 122) (q := 0) dX12_bill_122 rfl rfl ?_
                    refine z_iload_n (pc := 123) (q := 1) dX12_bill_123 rfl rfl ?_
                    refine z_bipush (pc := 124) (v := 7) dX12_bill_124 zcb_7 ?_
                    obtain ⟨r17, T16, q15, h⟩ := zb_some h
                    refine z_callVi (pc := 126) (st := []) [.int x1, .int 7] dX12_bill_126 zm_X12_426 zM_X12_of (by decide) oM_0 rfl (w_X12_of l q15) rfl rfl (Nat.le_of_ble_eq_true rfl) ?_
                    obtain ⟨rfl, rfl⟩ := zr_some h
                    exact z_iret dX12_bill_129
                  · have h := ze_some c14 h
                    refine zsw_c (fun c15 => ?_) (fun c15 => ?_)
                    · have h := zt_some c15 h
                      refine z_aload_n (pc := 130) (q := 0) dX12_bill_130 rfl rfl ?_
                      obtain ⟨r18, T17, q16, h⟩ := zb_some h
                      refine z_callVi (pc := 131) (st := []) [] dX12_bill_131 zm_X12_441 zM_X12_standing (by decide) oM_0 rfl (w_X12_standing l q16) rfl rfl (Nat.le_of_ble_eq_true rfl) ?_
                      refine z_iload_n (pc := 134) (q := 1) dX12_bill_134 rfl rfl ?_
                      refine z_ishr (pc := 135) dX12_bill_135 ?_
                      refine z_iconst (pc := 136) (v := 1) dX12_bill_136 zci_1 ?_
                      refine z_iand (pc := 137) dX12_bill_137 ?_
                      obtain ⟨rfl, rfl⟩ := zr_some h
                      exact z_iret dX12_bill_138
                    · have h := ze_some c15 h
                      refine zsw_c (fun c16 => ?_) (fun c16 => ?_)
                      · have h := zt_some c16 h
                        refine z_aload_n (pc := 139) (q := 0) dX12_bill_139 rfl rfl ?_
                        obtain ⟨r19, T18, q17, h⟩ := zb_some h
                        refine z_callVi (pc := 140) (st := []) [] dX12_bill_140 zm_X12_438 zM_X12_repealedSet (by decide) oM_0 rfl (w_X12_repealedSet l q17) rfl rfl (Nat.le_of_ble_eq_true rfl) ?_
                        refine z_iload_n (pc := 143) (q := 1) dX12_bill_143 rfl rfl ?_
                        refine z_ishr (pc := 144) dX12_bill_144 ?_
                        refine z_iconst (pc := 145) (v := 1) dX12_bill_145 zci_1 ?_
                        refine z_iand (pc := 146) dX12_bill_146 ?_
                        obtain ⟨rfl, rfl⟩ := zr_some h
                        exact z_iret dX12_bill_147
                      · have h := ze_some c16 h
                        refine zsw_n ?_
                        refine z_bipush (pc := 148) (v := (-100)) dX12_bill_148 zcb_m100 ?_
                        obtain ⟨rfl, rfl⟩ := zr_some h
                        exact z_iret dX12_bill_150
  · have h := zt_some c4 h
    refine z_bipush (pc := 8) (v := (-100)) dX12_bill_8 zcb_m100 ?_
    obtain ⟨rfl, rfl⟩ := zr_some h
    exact z_iret dX12_bill_10
def f_X12_billsAt_B28 (K4 : Int32 → Int32 → Int32 → zS → Option (Int32 × zS)) (x1 : Int32) (x3 : Int32) (s0 : Int32) (s1 : Int32) (S : zS) : Option (Int32 × zS) :=
  zb (f_X12_truth s0 S) fun r3 T2 =>
  zlet (s1 ||| (r3 <<< (x3 &&& 31))) fun v4 =>
  zlet (x3 + 1) fun v5 =>
  K4 x1 v4 v5 T2
def f_X12_billsAt_L4 : Nat → Int32 → Int32 → Int32 → zS → Option (Int32 × zS)
  | 0, _, _, _, _ => none
  | n + 1, x1, x2, x3, S =>
    zb (f_X12_bills S) fun r3 T2 =>
    if x3 < r3 then
      zb (f_X12_of x3 2 T2) fun r7 T6 =>
      if r7 = x1 then
        f_X12_billsAt_B28 (f_X12_billsAt_L4 n) x1 x3 1 x2 T6
      else
        f_X12_billsAt_B28 (f_X12_billsAt_L4 n) x1 x3 0 x2 T6
    else
      some (x2, T2)
def f_X12_billsAt (x1 : Int32) (S : zS) : Option (Int32 × zS) :=
  f_X12_billsAt_L4 zN x1 0 0 S
set_option maxRecDepth 100000 in
theorem w_X12_billsAt_B28 (l : Launch) {r : Int32} {S1 : zS} (K4 : Int32 → Int32 → Int32 → zS → Option (Int32 × zS)) (hK4 : ∀ (x1 : Int32) (x2 : Int32) (x3 : Int32) (S : zS), K4 x1 x2 x3 S = some (r, S1) → WA zLM l RX12 cX12_billsAt 4 (some .int) 2 (some (.int r)) S1 4 [(0, .ref 0), (1, .int x1), (2, .int x2), (3, .int x3)] [] S) (x1 : Int32) (x3 : Int32) (s0 : Int32) (s1 : Int32) (S : zS) (h : f_X12_billsAt_B28 K4 x1 x3 s0 s1 S = some (r, S1)) : WA zLM l RX12 cX12_billsAt 4 (some .int) 2 (some (.int r)) S1 28 [(0, .ref 0), (1, .int x1), (3, .int x3)] [.int s0, .int s1] S := by
  unfold f_X12_billsAt_B28 at h
  obtain ⟨r3, T2, q1, h⟩ := zb_some h
  refine z_callSi (pc := 28) (st := [.int s1]) [.int s0] dX12_billsAt_28 zm_X12_307 zM_X12_truth (by decide) (w_X12_truth l q1) rfl rfl (Nat.le_of_ble_eq_true rfl) ?_
  refine z_iload_n (pc := 31) (q := 2) dX12_billsAt_31 rfl rfl ?_
  refine z_ishl (pc := 32) dX12_billsAt_32 ?_
  refine z_ior (pc := 33) dX12_billsAt_33 ?_
  obtain ⟨v4, ev4, h⟩ := zl_some h
  refine z_top ev4 ?_
  refine z_istore_n (pc := 34) (lo' := [(2, .int v4), (0, .ref 0), (1, .int x1), (3, .int x3)]) dX12_billsAt_34 rfl (by decide) rfl ?_
  obtain ⟨v5, ev5, h⟩ := zl_some h
  refine z_iinc (pc := 35) (q := 3) (v := v5) (lo' := [(3, .int v5), (2, .int v4), (0, .ref 0), (1, .int x1)]) dX12_billsAt_35 rfl (by rw [ev5, zci_1]) (by decide) rfl ?_
  refine z_goto (pc := 38) (tgt := 4) dX12_billsAt_38 (by decide) ?_
  exact z_sub [2, 3, 1, 0] rfl (hK4 x1 v4 v5 T2 h)
set_option maxRecDepth 100000 in
theorem w_X12_billsAt_L4 (l : Launch) {r : Int32} {S1 : zS} : ∀ (n : Nat) (x1 : Int32) (x2 : Int32) (x3 : Int32) (S : zS), f_X12_billsAt_L4 n x1 x2 x3 S = some (r, S1) → WA zLM l RX12 cX12_billsAt 4 (some .int) 2 (some (.int r)) S1 4 [(0, .ref 0), (1, .int x1), (2, .int x2), (3, .int x3)] [] S := by
  intro n
  induction n with
  | zero =>
    intro x1 x2 x3 S h
    exact nomatch h
  | succ n ih =>
    intro x1 x2 x3 S h
    rw [f_X12_billsAt_L4] at h
    refine z_iload_n (pc := 4) (q := 3) dX12_billsAt_4 rfl rfl ?_
    refine z_aload_n (pc := 5) (q := 0) dX12_billsAt_5 rfl rfl ?_
    obtain ⟨r3, T2, q1, h⟩ := zb_some h
    refine z_callVi (pc := 6) (st := [.int x3]) [] dX12_billsAt_6 zm_X12_429 zM_X12_bills (by decide) oM_0 rfl (w_X12_bills l q1) rfl rfl (Nat.le_of_ble_eq_true rfl) ?_
    refine z_icmp_ge (pc := 9) (tgt := 41) dX12_billsAt_9 (by decide) (fun c4 => ?_) (fun c4 => ?_)
    · have h := ze_some c4 h
      refine z_iload_n (pc := 41) (q := 2) dX12_billsAt_41 rfl rfl ?_
      obtain ⟨rfl, rfl⟩ := zr_some h
      exact z_iret dX12_billsAt_42
    · have h := zt_some c4 h
      refine z_iload_n (pc := 12) (q := 2) dX12_billsAt_12 rfl rfl ?_
      refine z_aload_n (pc := 13) (q := 0) dX12_billsAt_13 rfl rfl ?_
      refine z_iload_n (pc := 14) (q := 3) dX12_billsAt_14 rfl rfl ?_
      refine z_iconst (pc := 15) (v := 2) dX12_billsAt_15 zci_2 ?_
      obtain ⟨r7, T6, q5, h⟩ := zb_some h
      refine z_callVi (pc := 16) (st := [.int x2]) [.int x3, .int 2] dX12_billsAt_16 zm_X12_426 zM_X12_of (by decide) oM_0 rfl (w_X12_of l q5) rfl rfl (Nat.le_of_ble_eq_true rfl) ?_
      refine z_iload_n (pc := 19) (q := 1) dX12_billsAt_19 rfl rfl ?_
      refine z_icmp_ne (pc := 20) (tgt := 27) dX12_billsAt_20 (by decide) (fun c8 => ?_) (fun c8 => ?_)
      · have h := ze_some c8 h
        refine z_iconst (pc := 27) (v := 0) dX12_billsAt_27 zci_0 ?_
        exact z_sub [0, 1, 3] rfl (w_X12_billsAt_B28 l (f_X12_billsAt_L4 n) ih x1 x3 0 x2 T6 h)
      · have h := zt_some c8 h
        refine z_iconst (pc := 23) (v := 1) dX12_billsAt_23 zci_1 ?_
        refine z_goto (pc := 24) (tgt := 28) dX12_billsAt_24 (by decide) ?_
        exact z_sub [0, 1, 3] rfl (w_X12_billsAt_B28 l (f_X12_billsAt_L4 n) ih x1 x3 1 x2 T6 h)
set_option maxRecDepth 100000 in
theorem w_X12_billsAt (l : Launch) {x1 : Int32} {S : zS} {r : Int32} {S1 : zS} (h : f_X12_billsAt x1 S = some (r, S1)) : zMet zLM l yX12_billsAt cX12_billsAt 4 (some .int) 2 [.ref 0, .int x1] S (some (.int r)) S1 := by
  unfold f_X12_billsAt at h
  refine zMet.of (by decide +kernel) (Nat.le_of_ble_eq_true rfl) ?_
  show WA zLM l RX12 cX12_billsAt 4 (some .int) 2 (some (.int r)) S1 0 [(0, .ref 0), (1, .int x1)] [] S
  refine z_iconst (pc := 0) (v := 0) dX12_billsAt_0 zci_0 ?_
  refine z_istore_n (pc := 1) (lo' := [(2, .int 0), (0, .ref 0), (1, .int x1)]) dX12_billsAt_1 rfl (by decide) rfl ?_
  refine z_iconst (pc := 2) (v := 0) dX12_billsAt_2 zci_0 ?_
  refine z_istore_n (pc := 3) (lo' := [(3, .int 0), (2, .int 0), (0, .ref 0), (1, .int x1)]) dX12_billsAt_3 rfl (by decide) rfl ?_
  exact z_sub [2, 3, 1, 0] rfl (w_X12_billsAt_L4 l zN x1 0 0 S h)
def f_X12_stake (x1 : Int32) (x2 : Int32) (S : zS) : Option (Int32 × zS) :=
  zb (f_X12_isStake x1 S) fun r3 T2 =>
  if r3 = 0 then
    some ((-1), T2)
  else
    zu (f_X12_load T2) fun T6 =>
    if x2 = 0 then
      zb (f_X12_billsAt x1 T6) fun r10 T9 =>
      zb (f_X12_livingSet T9) fun r13 T12 =>
      some (r10 &&& r13, T12)
    else
      if x2 = 1 then
        zb (f_X12_billsAt x1 T6) fun r11 T10 =>
        zb (f_X12_standing T10) fun r14 T13 =>
        some (r11 &&& r14, T13)
      else
        some ((-1), T6)
set_option maxRecDepth 100000 in
theorem w_X12_stake (l : Launch) {x1 : Int32} {x2 : Int32} {S : zS} {r : Int32} {S1 : zS} (h : f_X12_stake x1 x2 S = some (r, S1)) : zMet zLM l yX12_stake cX12_stake 3 (some .int) 5 [.ref 0, .int x1, .int x2] S (some (.int r)) S1 := by
  unfold f_X12_stake at h
  refine zMet.of (by decide +kernel) (Nat.le_of_ble_eq_true rfl) ?_
  show WA zLM l RX12 cX12_stake 3 (some .int) 5 (some (.int r)) S1 0 [(0, .ref 0), (1, .int x1), (2, .int x2)] [] S
  refine z_aload_n (pc := 0) (q := 0) dX12_stake_0 rfl rfl ?_
  refine z_iload_n (pc := 1) (q := 1) dX12_stake_1 rfl rfl ?_
  obtain ⟨r3, T2, q1, h⟩ := zb_some h
  refine z_callVi (pc := 2) (st := []) [.int x1] dX12_stake_2 zm_X12_465 zM_X12_isStake (by decide) oM_0 rfl (w_X12_isStake l q1) rfl rfl (Nat.le_of_ble_eq_true rfl) ?_
  refine z_if_ne (pc := 5) (tgt := 10) dX12_stake_5 (by decide) (fun c4 => ?_) (fun c4 => ?_)
  · have h := ze_some c4 h
    refine z_aload_n (pc := 10) (q := 0) dX12_stake_10 rfl rfl ?_
    obtain ⟨T6, q5, h⟩ := zu_some h
    refine z_callVv (pc := 11) (st := []) [] dX12_stake_11 zm_X12_462 zM_X12_load (by decide) oM_0 rfl (w_X12_load l q5) rfl rfl (Nat.le_of_ble_eq_true rfl) ?_
    refine z_iload_n (pc := 14) (q := 2) dX12_stake_14 rfl rfl ?_
    refine z_if_ne (pc := 15) (tgt := 31) dX12_stake_15 (by decide) (fun c7 => ?_) (fun c7 => ?_)
    · have h := ze_some c7 h
      refine z_iload_n (pc := 31) (q := 2) dX12_stake_31 rfl rfl ?_
      refine z_iconst (pc := 32) (v := 1) dX12_stake_32 zci_1 ?_
      refine z_icmp_ne (pc := 33) (tgt := 49) dX12_stake_33 (by decide) (fun c8 => ?_) (fun c8 => ?_)
      · have h := ze_some c8 h
        refine z_iconst (pc := 49) (v := (-1)) dX12_stake_49 zci_m1 ?_
        obtain ⟨rfl, rfl⟩ := zr_some h
        exact z_iret dX12_stake_50
      · have h := zt_some c8 h
        refine z_aload_n (pc := 36) (q := 0) dX12_stake_36 rfl rfl ?_
        refine z_iload_n (pc := 37) (q := 1) dX12_stake_37 rfl rfl ?_
        obtain ⟨r11, T10, q9, h⟩ := zb_some h
        refine z_callVi (pc := 38) (st := []) [.int x1] dX12_stake_38 zm_X12_468 zM_X12_billsAt (by decide) oM_0 rfl (w_X12_billsAt l q9) rfl rfl (Nat.le_of_ble_eq_true rfl) ?_
        refine z_aload_n (pc := 41) (q := 0) dX12_stake_41 rfl rfl ?_
        obtain ⟨r14, T13, q12, h⟩ := zb_some h
        refine z_callVi (pc := 42) (st := [.int r11]) [] dX12_stake_42 zm_X12_441 zM_X12_standing (by decide) oM_0 rfl (w_X12_standing l q12) rfl rfl (Nat.le_of_ble_eq_true rfl) ?_
        refine z_iand (pc := 45) dX12_stake_45 ?_
        refine z_goto (pc := 46) (tgt := 50) dX12_stake_46 (by decide) ?_
        obtain ⟨rfl, rfl⟩ := zr_some h
        exact z_iret dX12_stake_50
    · have h := zt_some c7 h
      refine z_aload_n (pc := 18) (q := 0) dX12_stake_18 rfl rfl ?_
      refine z_iload_n (pc := 19) (q := 1) dX12_stake_19 rfl rfl ?_
      obtain ⟨r10, T9, q8, h⟩ := zb_some h
      refine z_callVi (pc := 20) (st := []) [.int x1] dX12_stake_20 zm_X12_468 zM_X12_billsAt (by decide) oM_0 rfl (w_X12_billsAt l q8) rfl rfl (Nat.le_of_ble_eq_true rfl) ?_
      refine z_aload_n (pc := 23) (q := 0) dX12_stake_23 rfl rfl ?_
      obtain ⟨r13, T12, q11, h⟩ := zb_some h
      refine z_callVi (pc := 24) (st := [.int r10]) [] dX12_stake_24 zm_X12_435 zM_X12_livingSet (by decide) oM_0 rfl (w_X12_livingSet l q11) rfl rfl (Nat.le_of_ble_eq_true rfl) ?_
      refine z_iand (pc := 27) dX12_stake_27 ?_
      refine z_goto (pc := 28) (tgt := 50) dX12_stake_28 (by decide) ?_
      obtain ⟨rfl, rfl⟩ := zr_some h
      exact z_iret dX12_stake_50
  · have h := zt_some c4 h
    refine z_iconst (pc := 8) (v := (-1)) dX12_stake_8 zci_m1 ?_
    obtain ⟨rfl, rfl⟩ := zr_some h
    exact z_iret dX12_stake_9
def f_X12_law (x1 : Int32) (S : zS) : Option (Int32 × zS) :=
  zu (f_X12_load S) fun T2 =>
  zb (f_X12_isTopic x1 T2) fun r5 T4 =>
  if r5 = 0 then
    some ((-1000), T4)
  else
    zb (f_X12_lawOf x1 T4) fun r9 T8 =>
    some (r9, T8)
set_option maxRecDepth 100000 in
theorem w_X12_law (l : Launch) {x1 : Int32} {S : zS} {r : Int32} {S1 : zS} (h : f_X12_law x1 S = some (r, S1)) : zMet zLM l yX12_law cX12_law 2 (some .int) 6 [.ref 0, .int x1] S (some (.int r)) S1 := by
  unfold f_X12_law at h
  refine zMet.of (by decide +kernel) (Nat.le_of_ble_eq_true rfl) ?_
  show WA zLM l RX12 cX12_law 2 (some .int) 6 (some (.int r)) S1 0 [(0, .ref 0), (1, .int x1)] [] S
  refine z_aload_n (pc := 0) (q := 0) dX12_law_0 rfl rfl ?_
  obtain ⟨T2, q1, h⟩ := zu_some h
  refine z_callVv (pc := 1) (st := []) [] dX12_law_1 zm_X12_462 zM_X12_load (by decide) oM_0 rfl (w_X12_load l q1) rfl rfl (Nat.le_of_ble_eq_true rfl) ?_
  refine z_aload_n (pc := 4) (q := 0) dX12_law_4 rfl rfl ?_
  refine z_iload_n (pc := 5) (q := 1) dX12_law_5 rfl rfl ?_
  obtain ⟨r5, T4, q3, h⟩ := zb_some h
  refine z_callVi (pc := 6) (st := []) [.int x1] dX12_law_6 zm_X12_471 zM_X12_isTopic (by decide) oM_0 rfl (w_X12_isTopic l q3) rfl rfl (Nat.le_of_ble_eq_true rfl) ?_
  refine z_if_eq (pc := 9) (tgt := 20) dX12_law_9 (by decide) (fun c6 => ?_) (fun c6 => ?_)
  · have h := zt_some c6 h
    refine z_sipush (pc := 20) (v := (-1000)) dX12_law_20 zcs_m1000 ?_
    obtain ⟨rfl, rfl⟩ := zr_some h
    exact z_iret dX12_law_23
  · have h := ze_some c6 h
    refine z_aload_n (pc := 12) (q := 0) dX12_law_12 rfl rfl ?_
    refine z_iload_n (pc := 13) (q := 1) dX12_law_13 rfl rfl ?_
    obtain ⟨r9, T8, q7, h⟩ := zb_some h
    refine z_callVi (pc := 14) (st := []) [.int x1] dX12_law_14 zm_X12_474 zM_X12_lawOf (by decide) oM_0 rfl (w_X12_lawOf l q7) rfl rfl (Nat.le_of_ble_eq_true rfl) ?_
    refine z_goto (pc := 17) (tgt := 23) dX12_law_17 (by decide) ?_
    obtain ⟨rfl, rfl⟩ := zr_some h
    exact z_iret dX12_law_23
def f_X12_stands  (S : zS) : Option (Int32 × zS) :=
  zu (f_X12_load S) fun T2 =>
  zb (f_X12_standing T2) fun r5 T4 =>
  some (r5, T4)
set_option maxRecDepth 100000 in
theorem w_X12_stands (l : Launch)  {S : zS} {r : Int32} {S1 : zS} (h : f_X12_stands S = some (r, S1)) : zMet zLM l yX12_stands cX12_stands 1 (some .int) 5 [.ref 0] S (some (.int r)) S1 := by
  unfold f_X12_stands at h
  refine zMet.of (by decide +kernel) (Nat.le_of_ble_eq_true rfl) ?_
  show WA zLM l RX12 cX12_stands 1 (some .int) 5 (some (.int r)) S1 0 [(0, .ref 0)] [] S
  refine z_aload_n (pc := 0) (q := 0) dX12_stands_0 rfl rfl ?_
  obtain ⟨T2, q1, h⟩ := zu_some h
  refine z_callVv (pc := 1) (st := []) [] dX12_stands_1 zm_X12_462 zM_X12_load (by decide) oM_0 rfl (w_X12_load l q1) rfl rfl (Nat.le_of_ble_eq_true rfl) ?_
  refine z_aload_n (pc := 4) (q := 0) dX12_stands_4 rfl rfl ?_
  obtain ⟨r5, T4, q3, h⟩ := zb_some h
  refine z_callVi (pc := 5) (st := []) [] dX12_stands_5 zm_X12_441 zM_X12_standing (by decide) oM_0 rfl (w_X12_standing l q3) rfl rfl (Nat.le_of_ble_eq_true rfl) ?_
  obtain ⟨rfl, rfl⟩ := zr_some h
  exact z_iret dX12_stands_8
def f_X12_kill (x1 : Int32) (S : zS) : Option zS :=
  if zin ((8 * x1) + 0) 99 then
  zlet (zput S 20 ((8 * x1) + 0).toNatClampNeg 0) fun T2 =>
  some T2 else none
set_option maxRecDepth 100000 in
theorem w_X12_kill (l : Launch) {x1 : Int32} {S : zS} {S1 : zS} (h : f_X12_kill x1 S = some S1) : zMet zLM l yX12_kill cX12_kill 2 none 1 [.ref 0, .int x1] S none S1 := by
  unfold f_X12_kill at h
  refine zMet.of (by decide +kernel) (Nat.le_of_ble_eq_true rfl) ?_
  show WA zLM l RX12 cX12_kill 2 none 1 none S1 0 [(0, .ref 0), (1, .int x1)] [] S
  refine z_aload_n (pc := 0) (q := 0) dX12_kill_0 rfl rfl ?_
  refine z_getR (pc := 1) dX12_kill_1 zf_X12_79 gM_0_54 ?_
  refine z_bipush (pc := 4) (v := 8) dX12_kill_4 zcb_8 ?_
  refine z_iload_n (pc := 6) (q := 1) dX12_kill_6 rfl rfl ?_
  refine z_imul (pc := 7) dX12_kill_7 ?_
  refine z_iconst (pc := 8) (v := 0) dX12_kill_8 zci_0 ?_
  refine z_iadd (pc := 9) dX12_kill_9 ?_
  refine z_iconst (pc := 10) (v := 0) dX12_kill_10 zci_0 ?_
  obtain ⟨c1, h⟩ := zg_some h
  obtain ⟨T2, eT2, h⟩ := zl_some h
  refine z_iast (pc := 11) dX12_kill_11 aM_20 c1 eT2 ?_
  cases h
  exact z_vret dX12_kill_12
def f_X12_falls (x1 : Int32) (S : zS) : Option (Int32 × zS) :=
  zb (f_X12_isBill x1 S) fun r3 T2 =>
  if r3 = 0 then
    some ((-1), T2)
  else
    zb (f_X12_stands T2) fun r7 T6 =>
    zu (f_X12_kill x1 T6) fun T9 =>
    zb (f_X12_standing T9) fun r12 T11 =>
    some (r7 &&& (r12 ^^^ (-1)), T11)
set_option maxRecDepth 100000 in
theorem w_X12_falls (l : Launch) {x1 : Int32} {S : zS} {r : Int32} {S1 : zS} (h : f_X12_falls x1 S = some (r, S1)) : zMet zLM l yX12_falls cX12_falls 3 (some .int) 6 [.ref 0, .int x1] S (some (.int r)) S1 := by
  unfold f_X12_falls at h
  refine zMet.of (by decide +kernel) (Nat.le_of_ble_eq_true rfl) ?_
  show WA zLM l RX12 cX12_falls 3 (some .int) 6 (some (.int r)) S1 0 [(0, .ref 0), (1, .int x1)] [] S
  refine z_aload_n (pc := 0) (q := 0) dX12_falls_0 rfl rfl ?_
  refine z_iload_n (pc := 1) (q := 1) dX12_falls_1 rfl rfl ?_
  obtain ⟨r3, T2, q1, h⟩ := zb_some h
  refine z_callVi (pc := 2) (st := []) [.int x1] dX12_falls_2 zm_X12_459 zM_X12_isBill (by decide) oM_0 rfl (w_X12_isBill l q1) rfl rfl (Nat.le_of_ble_eq_true rfl) ?_
  refine z_if_ne (pc := 5) (tgt := 10) dX12_falls_5 (by decide) (fun c4 => ?_) (fun c4 => ?_)
  · have h := ze_some c4 h
    refine z_aload_n (pc := 10) (q := 0) dX12_falls_10 rfl rfl ?_
    obtain ⟨r7, T6, q5, h⟩ := zb_some h
    refine z_callVi (pc := 11) (st := []) [] dX12_falls_11 zm_X12_477 zM_X12_stands (by decide) oM_0 rfl (w_X12_stands l q5) rfl rfl (Nat.le_of_ble_eq_true rfl) ?_
    refine z_istore_n (pc := 14) (lo' := [(2, .int r7), (0, .ref 0), (1, .int x1)]) dX12_falls_14 rfl (by decide) rfl ?_
    refine z_aload_n (pc := 15) (q := 1) dX12_falls_15 rfl rfl ?_
    refine z_iload_n (pc := 16) (q := 2) dX12_falls_16 rfl rfl ?_
    obtain ⟨T9, q8, h⟩ := zu_some h
    refine z_callVv (pc := 17) (st := []) [.int x1] dX12_falls_17 zm_X12_480 zM_X12_kill (by decide) oM_0 rfl (w_X12_kill l q8) rfl rfl (Nat.le_of_ble_eq_true rfl) ?_
    refine z_iload_n (pc := 20) (q := 0) dX12_falls_20 rfl rfl ?_
    refine z_aload_n (pc := 21) (q := 1) dX12_falls_21 rfl rfl ?_
    obtain ⟨r12, T11, q10, h⟩ := zb_some h
    refine z_callVi (pc := 22) (st := [.int r7]) [] dX12_falls_22 zm_X12_441 zM_X12_standing (by decide) oM_0 rfl (w_X12_standing l q10) rfl rfl (Nat.le_of_ble_eq_true rfl) ?_
    refine z_iconst (pc := 25) (v := (-1)) dX12_falls_25 zci_m1 ?_
    refine z_ixor (pc := 26) dX12_falls_26 ?_
    refine z_iand (pc := 27) dX12_falls_27 ?_
    obtain ⟨rfl, rfl⟩ := zr_some h
    exact z_iret dX12_falls_28
  · have h := zt_some c4 h
    refine z_iconst (pc := 8) (v := (-1)) dX12_falls_8 zci_m1 ?_
    obtain ⟨rfl, rfl⟩ := zr_some h
    exact z_iret dX12_falls_9
def f_X12_act_L51 : Nat → Int32 → zS → Option zS
  | 0, _, _ => none
  | n + 1, x1, S =>
    if x1 < 99 then
      if zin x1 99 then
      if zin ((99 * (S.1 0 56)) + x1) 3960 then
      zlet (zput S 21 ((99 * (S.1 0 56)) + x1).toNatClampNeg (S.1 19 x1.toNatClampNeg)) fun T4 =>
      zlet (x1 + 1) fun v5 =>
      (f_X12_act_L51 n) v5 T4 else none else none
    else
      zlet (zput S 0 56 ((S.1 0 56) + 1)) fun T2 =>
      zlet (zput T2 0 57 0) fun T3 =>
      some T3
def f_X12_act_L11 : Nat → Int32 → zS → Option zS
  | 0, _, _ => none
  | n + 1, x1, S =>
    if x1 < 3861 then
      if zin (99 + x1) 3960 then
      if zin x1 3960 then
      zlet (zput S 21 x1.toNatClampNeg (S.1 21 (99 + x1).toNatClampNeg)) fun T4 =>
      zlet (x1 + 1) fun v5 =>
      (f_X12_act_L11 n) v5 T4 else none else none
    else
      zlet (zput S 0 56 ((S.1 0 56) - 1)) fun T2 =>
      f_X12_act_L51 zN 0 T2
def f_X12_act  (S : zS) : Option zS :=
  if (S.1 0 56) = 40 then
    f_X12_act_L11 zN 0 S
  else
    f_X12_act_L51 zN 0 S
set_option maxRecDepth 100000 in
theorem w_X12_act_L51 (l : Launch) {S1 : zS} : ∀ (n : Nat) (x1 : Int32) (S : zS), f_X12_act_L51 n x1 S = some S1 → WA zLM l RX12 cX12_act 2 none 1 none S1 51 [(0, .ref 0), (1, .int x1)] [] S := by
  intro n
  induction n with
  | zero =>
    intro x1 S h
    exact nomatch h
  | succ n ih =>
    intro x1 S h
    rw [f_X12_act_L51] at h
    refine z_iload_n (pc := 51) (q := 1) dX12_act_51 rfl rfl ?_
    refine z_bipush (pc := 52) (v := 99) dX12_act_52 zcb_99 ?_
    refine z_icmp_ge (pc := 54) (tgt := 83) dX12_act_54 (by decide) (fun c1 => ?_) (fun c1 => ?_)
    · have h := ze_some c1 h
      refine z_aload_n (pc := 83) (q := 0) dX12_act_83 rfl rfl ?_
      refine z_dup (pc := 84) dX12_act_84 rfl ?_
      refine z_getI (pc := 85) dX12_act_85 zf_X12_410 gM_0_56 ?_
      refine z_iconst (pc := 88) (v := 1) dX12_act_88 zci_1 ?_
      refine z_iadd (pc := 89) dX12_act_89 ?_
      obtain ⟨T2, eT2, h⟩ := zl_some h
      refine z_putI (pc := 90) dX12_act_90 zp_X12_410 gM_0_56 rfl rfl eT2 ?_
      refine z_aload_n (pc := 93) (q := 0) dX12_act_93 rfl rfl ?_
      refine z_iconst (pc := 94) (v := 0) dX12_act_94 zci_0 ?_
      obtain ⟨T3, eT3, h⟩ := zl_some h
      refine z_putI (pc := 95) dX12_act_95 zp_X12_413 gM_0_57 rfl rfl eT3 ?_
      cases h
      exact z_vret dX12_act_98
    · have h := zt_some c1 h
      refine z_aload_n (pc := 57) (q := 0) dX12_act_57 rfl rfl ?_
      refine z_getR (pc := 58) dX12_act_58 zf_X12_82 gM_0_55 ?_
      refine z_bipush (pc := 61) (v := 99) dX12_act_61 zcb_99 ?_
      refine z_aload_n (pc := 63) (q := 0) dX12_act_63 rfl rfl ?_
      refine z_getI (pc := 64) dX12_act_64 zf_X12_410 gM_0_56 ?_
      refine z_imul (pc := 67) dX12_act_67 ?_
      refine z_iload_n (pc := 68) (q := 1) dX12_act_68 rfl rfl ?_
      refine z_iadd (pc := 69) dX12_act_69 ?_
      refine z_aload_n (pc := 70) (q := 0) dX12_act_70 rfl rfl ?_
      refine z_getR (pc := 71) dX12_act_71 zf_X12_76 gM_0_53 ?_
      refine z_iload_n (pc := 74) (q := 1) dX12_act_74 rfl rfl ?_
      obtain ⟨c2, h⟩ := zg_some h
      refine z_iald (pc := 75) dX12_act_75 aM_19 c2 ?_
      obtain ⟨c3, h⟩ := zg_some h
      obtain ⟨T4, eT4, h⟩ := zl_some h
      refine z_iast (pc := 76) dX12_act_76 aM_21 c3 eT4 ?_
      obtain ⟨v5, ev5, h⟩ := zl_some h
      refine z_iinc (pc := 77) (q := 1) (v := v5) (lo' := [(1, .int v5), (0, .ref 0)]) dX12_act_77 rfl (by rw [ev5, zci_1]) (by decide) rfl ?_
      refine z_goto (pc := 80) (tgt := 51) dX12_act_80 (by decide) ?_
      exact z_sub [1, 0] rfl (ih v5 T4 h)
set_option maxRecDepth 100000 in
theorem w_X12_act_L11 (l : Launch) {S1 : zS} : ∀ (n : Nat) (x1 : Int32) (S : zS), f_X12_act_L11 n x1 S = some S1 → WA zLM l RX12 cX12_act 2 none 1 none S1 11 [(0, .ref 0), (1, .int x1)] [] S := by
  intro n
  induction n with
  | zero =>
    intro x1 S h
    exact nomatch h
  | succ n ih =>
    intro x1 S h
    rw [f_X12_act_L11] at h
    refine z_iload_n (pc := 11) (q := 1) dX12_act_11 rfl rfl ?_
    refine z_sipush (pc := 12) (v := 3861) dX12_act_12 zcs_3861 ?_
    refine z_icmp_ge (pc := 15) (tgt := 39) dX12_act_15 (by decide) (fun c1 => ?_) (fun c1 => ?_)
    · have h := ze_some c1 h
      refine z_aload_n (pc := 39) (q := 0) dX12_act_39 rfl rfl ?_
      refine z_dup (pc := 40) dX12_act_40 rfl ?_
      refine z_getI (pc := 41) dX12_act_41 zf_X12_410 gM_0_56 ?_
      refine z_iconst (pc := 44) (v := 1) dX12_act_44 zci_1 ?_
      refine z_isub (pc := 45) dX12_act_45 ?_
      obtain ⟨T2, eT2, h⟩ := zl_some h
      refine z_putI (pc := 46) dX12_act_46 zp_X12_410 gM_0_56 rfl rfl eT2 ?_
      refine z_iconst (pc := 49) (v := 0) dX12_act_49 zci_0 ?_
      refine z_istore_n (pc := 50) (lo' := [(1, .int 0), (0, .ref 0)]) dX12_act_50 rfl (by decide) rfl ?_
      exact z_sub [1, 0] rfl (w_X12_act_L51 l zN 0 T2 h)
    · have h := zt_some c1 h
      refine z_aload_n (pc := 18) (q := 0) dX12_act_18 rfl rfl ?_
      refine z_getR (pc := 19) dX12_act_19 zf_X12_82 gM_0_55 ?_
      refine z_iload_n (pc := 22) (q := 1) dX12_act_22 rfl rfl ?_
      refine z_aload_n (pc := 23) (q := 0) dX12_act_23 rfl rfl ?_
      refine z_getR (pc := 24) dX12_act_24 zf_X12_82 gM_0_55 ?_
      refine z_bipush (pc := 27) (v := 99) dX12_act_27 zcb_99 ?_
      refine z_iload_n (pc := 29) (q := 1) dX12_act_29 rfl rfl ?_
      refine z_iadd (pc := 30) dX12_act_30 ?_
      obtain ⟨c2, h⟩ := zg_some h
      refine z_iald (pc := 31) dX12_act_31 aM_21 c2 ?_
      obtain ⟨c3, h⟩ := zg_some h
      obtain ⟨T4, eT4, h⟩ := zl_some h
      refine z_iast (pc := 32) dX12_act_32 aM_21 c3 eT4 ?_
      obtain ⟨v5, ev5, h⟩ := zl_some h
      refine z_iinc (pc := 33) (q := 1) (v := v5) (lo' := [(1, .int v5), (0, .ref 0)]) dX12_act_33 rfl (by rw [ev5, zci_1]) (by decide) rfl ?_
      refine z_goto (pc := 36) (tgt := 11) dX12_act_36 (by decide) ?_
      exact z_sub [1, 0] rfl (ih v5 T4 h)
set_option maxRecDepth 100000 in
theorem w_X12_act (l : Launch)  {S : zS} {S1 : zS} (h : f_X12_act S = some S1) : zMet zLM l yX12_act cX12_act 2 none 1 [.ref 0] S none S1 := by
  unfold f_X12_act at h
  refine zMet.of (by decide +kernel) (Nat.le_of_ble_eq_true rfl) ?_
  show WA zLM l RX12 cX12_act 2 none 1 none S1 0 [(0, .ref 0)] [] S
  refine z_aload_n (pc := 0) (q := 0) dX12_act_0 rfl rfl ?_
  refine z_getI (pc := 1) dX12_act_1 zf_X12_410 gM_0_56 ?_
  refine z_bipush (pc := 4) (v := 40) dX12_act_4 zcb_40 ?_
  refine z_icmp_ne (pc := 6) (tgt := 49) dX12_act_6 (by decide) (fun c1 => ?_) (fun c1 => ?_)
  · have h := ze_some c1 h
    refine z_iconst (pc := 49) (v := 0) dX12_act_49 zci_0 ?_
    refine z_istore_n (pc := 50) (lo' := [(1, .int 0), (0, .ref 0)]) dX12_act_50 rfl (by decide) rfl ?_
    exact z_sub [1, 0] rfl (w_X12_act_L51 l zN 0 S h)
  · have h := zt_some c1 h
    refine z_iconst (pc := 9) (v := 0) dX12_act_9 zci_0 ?_
    refine z_istore_n (pc := 10) (lo' := [(1, .int 0), (0, .ref 0)]) dX12_act_10 rfl (by decide) rfl ?_
    exact z_sub [1, 0] rfl (w_X12_act_L11 l zN 0 S h)
def f_X12_exchange_L2 : Nat → Int32 → Int32 → zS → Option zS
  | 0, _, _, _ => none
  | n + 1, x1, x2, S =>
    if x2 < 99 then
      if zin (x1 + x2) 3960 then
      zlet (S.1 21 (x1 + x2).toNatClampNeg) fun v3 =>
      if zin x2 99 then
      if zin (x1 + x2) 3960 then
      zlet (zput S 21 (x1 + x2).toNatClampNeg (S.1 19 x2.toNatClampNeg)) fun T6 =>
      if zin x2 99 then
      zlet (zput T6 19 x2.toNatClampNeg v3) fun T8 =>
      zlet (x2 + 1) fun v9 =>
      (f_X12_exchange_L2 n) x1 v9 T8 else none else none else none else none
    else
      some S
def f_X12_exchange (x1 : Int32) (S : zS) : Option zS :=
  f_X12_exchange_L2 zN x1 0 S
set_option maxRecDepth 100000 in
theorem w_X12_exchange_L2 (l : Launch) {S1 : zS} : ∀ (n : Nat) (x1 : Int32) (x2 : Int32) (S : zS), f_X12_exchange_L2 n x1 x2 S = some S1 → WA zLM l RX12 cX12_exchange 4 none 1 none S1 2 [(0, .ref 0), (1, .int x1), (2, .int x2)] [] S := by
  intro n
  induction n with
  | zero =>
    intro x1 x2 S h
    exact nomatch h
  | succ n ih =>
    intro x1 x2 S h
    rw [f_X12_exchange_L2] at h
    refine z_iload_n (pc := 2) (q := 2) dX12_exchange_2 rfl rfl ?_
    refine z_bipush (pc := 3) (v := 99) dX12_exchange_3 zcb_99 ?_
    refine z_icmp_ge (pc := 5) (tgt := 44) dX12_exchange_5 (by decide) (fun c1 => ?_) (fun c1 => ?_)
    · have h := ze_some c1 h
      cases h
      exact z_vret dX12_exchange_44
    · have h := zt_some c1 h
      refine z_aload_n (pc := 8) (q := 0) dX12_exchange_8 rfl rfl ?_
      refine z_getR (pc := 9) dX12_exchange_9 zf_X12_82 gM_0_55 ?_
      refine z_iload_n (pc := 12) (q := 1) dX12_exchange_12 rfl rfl ?_
      refine z_iload_n (pc := 13) (q := 2) dX12_exchange_13 rfl rfl ?_
      refine z_iadd (pc := 14) dX12_exchange_14 ?_
      obtain ⟨c2, h⟩ := zg_some h
      refine z_iald (pc := 15) dX12_exchange_15 aM_21 c2 ?_
      obtain ⟨v3, ev3, h⟩ := zl_some h
      refine z_top ev3 ?_
      refine z_istore_n (pc := 16) (lo' := [(3, .int v3), (0, .ref 0), (1, .int x1), (2, .int x2)]) dX12_exchange_16 rfl (by decide) rfl ?_
      refine z_aload_n (pc := 17) (q := 1) dX12_exchange_17 rfl rfl ?_
      refine z_getR (pc := 18) dX12_exchange_18 zf_X12_82 gM_0_55 ?_
      refine z_iload_n (pc := 21) (q := 2) dX12_exchange_21 rfl rfl ?_
      refine z_iload_n (pc := 22) (q := 3) dX12_exchange_22 rfl rfl ?_
      refine z_iadd (pc := 23) dX12_exchange_23 ?_
      refine z_aload_n (pc := 24) (q := 1) dX12_exchange_24 rfl rfl ?_
      refine z_getR (pc := 25) dX12_exchange_25 zf_X12_76 gM_0_53 ?_
      refine z_iload_n (pc := 28) (q := 3) dX12_exchange_28 rfl rfl ?_
      obtain ⟨c4, h⟩ := zg_some h
      refine z_iald (pc := 29) dX12_exchange_29 aM_19 c4 ?_
      obtain ⟨c5, h⟩ := zg_some h
      obtain ⟨T6, eT6, h⟩ := zl_some h
      refine z_iast (pc := 30) dX12_exchange_30 aM_21 c5 eT6 ?_
      refine z_aload_n (pc := 31) (q := 1) dX12_exchange_31 rfl rfl ?_
      refine z_getR (pc := 32) dX12_exchange_32 zf_X12_76 gM_0_53 ?_
      refine z_iload_n (pc := 35) (q := 3) dX12_exchange_35 rfl rfl ?_
      refine z_iload_n (pc := 36) (q := 0) dX12_exchange_36 rfl rfl ?_
      obtain ⟨c7, h⟩ := zg_some h
      obtain ⟨T8, eT8, h⟩ := zl_some h
      refine z_iast (pc := 37) dX12_exchange_37 aM_19 c7 eT8 ?_
      obtain ⟨v9, ev9, h⟩ := zl_some h
      refine z_iinc (pc := 38) (q := 3) (v := v9) (lo' := [(2, .int v9), (3, .int v3), (0, .ref 0), (1, .int x1)]) dX12_exchange_38 rfl (by rw [ev9, zci_1]) (by decide) rfl ?_
      refine z_goto (pc := 41) (tgt := 2) dX12_exchange_41 (by decide) ?_
      exact z_sub [2, 3, 0] rfl (ih x1 v9 T8 h)
set_option maxRecDepth 100000 in
theorem w_X12_exchange (l : Launch) {x1 : Int32} {S : zS} {S1 : zS} (h : f_X12_exchange x1 S = some S1) : zMet zLM l yX12_exchange cX12_exchange 4 none 1 [.ref 0, .int x1] S none S1 := by
  unfold f_X12_exchange at h
  refine zMet.of (by decide +kernel) (Nat.le_of_ble_eq_true rfl) ?_
  show WA zLM l RX12 cX12_exchange 4 none 1 none S1 0 [(0, .ref 0), (1, .int x1)] [] S
  refine z_iconst (pc := 0) (v := 0) dX12_exchange_0 zci_0 ?_
  refine z_istore_n (pc := 1) (lo' := [(2, .int 0), (0, .ref 0), (1, .int x1)]) dX12_exchange_1 rfl (by decide) rfl ?_
  exact z_sub [1, 2, 0] rfl (w_X12_exchange_L2 l zN x1 0 S h)
def f_X12_keep_L2 : Nat → Int32 → zS → Option zS
  | 0, _, _ => none
  | n + 1, x1, S =>
    if x1 < 99 then
      if zin x1 99 then
      if zin x1 99 then
      zlet (zput S 19 x1.toNatClampNeg (S.1 20 x1.toNatClampNeg)) fun T4 =>
      zlet (x1 + 1) fun v5 =>
      (f_X12_keep_L2 n) v5 T4 else none else none
    else
      some S
def f_X12_keep  (S : zS) : Option zS :=
  f_X12_keep_L2 zN 0 S
set_option maxRecDepth 100000 in
theorem w_X12_keep_L2 (l : Launch) {S1 : zS} : ∀ (n : Nat) (x1 : Int32) (S : zS), f_X12_keep_L2 n x1 S = some S1 → WA zLM l RX12 cX12_keep 2 none 1 none S1 2 [(0, .ref 0), (1, .int x1)] [] S := by
  intro n
  induction n with
  | zero =>
    intro x1 S h
    exact nomatch h
  | succ n ih =>
    intro x1 S h
    rw [f_X12_keep_L2] at h
    refine z_iload_n (pc := 2) (q := 1) dX12_keep_2 rfl rfl ?_
    refine z_bipush (pc := 3) (v := 99) dX12_keep_3 zcb_99 ?_
    refine z_icmp_ge (pc := 5) (tgt := 26) dX12_keep_5 (by decide) (fun c1 => ?_) (fun c1 => ?_)
    · have h := ze_some c1 h
      cases h
      exact z_vret dX12_keep_26
    · have h := zt_some c1 h
      refine z_aload_n (pc := 8) (q := 0) dX12_keep_8 rfl rfl ?_
      refine z_getR (pc := 9) dX12_keep_9 zf_X12_76 gM_0_53 ?_
      refine z_iload_n (pc := 12) (q := 1) dX12_keep_12 rfl rfl ?_
      refine z_aload_n (pc := 13) (q := 0) dX12_keep_13 rfl rfl ?_
      refine z_getR (pc := 14) dX12_keep_14 zf_X12_79 gM_0_54 ?_
      refine z_iload_n (pc := 17) (q := 1) dX12_keep_17 rfl rfl ?_
      obtain ⟨c2, h⟩ := zg_some h
      refine z_iald (pc := 18) dX12_keep_18 aM_20 c2 ?_
      obtain ⟨c3, h⟩ := zg_some h
      obtain ⟨T4, eT4, h⟩ := zl_some h
      refine z_iast (pc := 19) dX12_keep_19 aM_19 c3 eT4 ?_
      obtain ⟨v5, ev5, h⟩ := zl_some h
      refine z_iinc (pc := 20) (q := 1) (v := v5) (lo' := [(1, .int v5), (0, .ref 0)]) dX12_keep_20 rfl (by rw [ev5, zci_1]) (by decide) rfl ?_
      refine z_goto (pc := 23) (tgt := 2) dX12_keep_23 (by decide) ?_
      exact z_sub [1, 0] rfl (ih v5 T4 h)
set_option maxRecDepth 100000 in
theorem w_X12_keep (l : Launch)  {S : zS} {S1 : zS} (h : f_X12_keep S = some S1) : zMet zLM l yX12_keep cX12_keep 2 none 1 [.ref 0] S none S1 := by
  unfold f_X12_keep at h
  refine zMet.of (by decide +kernel) (Nat.le_of_ble_eq_true rfl) ?_
  show WA zLM l RX12 cX12_keep 2 none 1 none S1 0 [(0, .ref 0)] [] S
  refine z_iconst (pc := 0) (v := 0) dX12_keep_0 zci_0 ?_
  refine z_istore_n (pc := 1) (lo' := [(1, .int 0), (0, .ref 0)]) dX12_keep_1 rfl (by decide) rfl ?_
  exact z_sub [1, 0] rfl (w_X12_keep_L2 l zN 0 S h)
def f_X12_put (x1 : Int32) (x2 : Int32) (x3 : Int32) (x4 : Int32) (x5 : Int32) (x6 : Int32) (S : zS) : Option zS :=
  zb (f_X12_bills S) fun r3 T2 =>
  zlet (8 * r3) fun v4 =>
  if zin x2 4 then
  if zin (v4 + 0) 99 then
  zlet (zput T2 20 (v4 + 0).toNatClampNeg (T2.1 11 x2.toNatClampNeg)) fun T7 =>
  if zin (v4 + 1) 99 then
  zlet (zput T7 20 (v4 + 1).toNatClampNeg 0) fun T9 =>
  if zin (v4 + 2) 99 then
  zlet (zput T9 20 (v4 + 2).toNatClampNeg x1) fun T11 =>
  if zin (v4 + 3) 99 then
  zlet (zput T11 20 (v4 + 3).toNatClampNeg x2) fun T13 =>
  if zin (v4 + 4) 99 then
  zlet (zput T13 20 (v4 + 4).toNatClampNeg x3) fun T15 =>
  if zin (v4 + 5) 99 then
  zlet (zput T15 20 (v4 + 5).toNatClampNeg x4) fun T17 =>
  if zin (v4 + 6) 99 then
  zlet (zput T17 20 (v4 + 6).toNatClampNeg x5) fun T19 =>
  if zin (v4 + 7) 99 then
  zlet (zput T19 20 (v4 + 7).toNatClampNeg x6) fun T21 =>
  zlet (zput T21 20 (Int32.toNatClampNeg 96) ((T21.1 20 (Int32.toNatClampNeg 96)) + 1)) fun T22 =>
  some T22 else none else none else none else none else none else none else none else none else none
set_option maxRecDepth 100000 in
theorem w_X12_put (l : Launch) {x1 : Int32} {x2 : Int32} {x3 : Int32} {x4 : Int32} {x5 : Int32} {x6 : Int32} {S : zS} {S1 : zS} (h : f_X12_put x1 x2 x3 x4 x5 x6 S = some S1) : zMet zLM l yX12_put cX12_put 8 none 2 [.ref 0, .int x1, .int x2, .int x3, .int x4, .int x5, .int x6] S none S1 := by
  unfold f_X12_put at h
  refine zMet.of (by decide +kernel) (Nat.le_of_ble_eq_true rfl) ?_
  show WA zLM l RX12 cX12_put 8 none 2 none S1 0 [(0, .ref 0), (1, .int x1), (2, .int x2), (3, .int x3), (4, .int x4), (5, .int x5), (6, .int x6)] [] S
  refine z_bipush (pc := 0) (v := 8) dX12_put_0 zcb_8 ?_
  refine z_aload_n (pc := 2) (q := 0) dX12_put_2 rfl rfl ?_
  obtain ⟨r3, T2, q1, h⟩ := zb_some h
  refine z_callVi (pc := 3) (st := [.int 8]) [] dX12_put_3 zm_X12_429 zM_X12_bills (by decide) oM_0 rfl (w_X12_bills l q1) rfl rfl (Nat.le_of_ble_eq_true rfl) ?_
  refine z_imul (pc := 6) dX12_put_6 ?_
  obtain ⟨v4, ev4, h⟩ := zl_some h
  refine z_top ev4 ?_
  refine z_istore (pc := 7) (lo' := [(7, .int v4), (0, .ref 0), (1, .int x1), (2, .int x2), (3, .int x3), (4, .int x4), (5, .int x5), (6, .int x6)]) dX12_put_7 (by decide) rfl ?_
  refine z_aload_n (pc := 9) (q := 1) dX12_put_9 rfl rfl ?_
  refine z_getR (pc := 10) dX12_put_10 zf_X12_79 gM_0_54 ?_
  refine z_iload (pc := 13) (q := 0) dX12_put_13 rfl ?_
  refine z_iconst (pc := 15) (v := 0) dX12_put_15 zci_0 ?_
  refine z_iadd (pc := 16) dX12_put_16 ?_
  refine z_aload_n (pc := 17) (q := 1) dX12_put_17 rfl rfl ?_
  refine z_getR (pc := 18) dX12_put_18 zf_X12_45 gM_0_26 ?_
  refine z_iload_n (pc := 21) (q := 3) dX12_put_21 rfl rfl ?_
  obtain ⟨c5, h⟩ := zg_some h
  refine z_iald (pc := 22) dX12_put_22 aM_11 c5 ?_
  obtain ⟨c6, h⟩ := zg_some h
  obtain ⟨T7, eT7, h⟩ := zl_some h
  refine z_iast (pc := 23) dX12_put_23 aM_20 c6 eT7 ?_
  refine z_aload_n (pc := 24) (q := 1) dX12_put_24 rfl rfl ?_
  refine z_getR (pc := 25) dX12_put_25 zf_X12_79 gM_0_54 ?_
  refine z_iload (pc := 28) (q := 0) dX12_put_28 rfl ?_
  refine z_iconst (pc := 30) (v := 1) dX12_put_30 zci_1 ?_
  refine z_iadd (pc := 31) dX12_put_31 ?_
  refine z_iconst (pc := 32) (v := 0) dX12_put_32 zci_0 ?_
  obtain ⟨c8, h⟩ := zg_some h
  obtain ⟨T9, eT9, h⟩ := zl_some h
  refine z_iast (pc := 33) dX12_put_33 aM_20 c8 eT9 ?_
  refine z_aload_n (pc := 34) (q := 1) dX12_put_34 rfl rfl ?_
  refine z_getR (pc := 35) dX12_put_35 zf_X12_79 gM_0_54 ?_
  refine z_iload (pc := 38) (q := 0) dX12_put_38 rfl ?_
  refine z_iconst (pc := 40) (v := 2) dX12_put_40 zci_2 ?_
  refine z_iadd (pc := 41) dX12_put_41 ?_
  refine z_iload_n (pc := 42) (q := 2) dX12_put_42 rfl rfl ?_
  obtain ⟨c10, h⟩ := zg_some h
  obtain ⟨T11, eT11, h⟩ := zl_some h
  refine z_iast (pc := 43) dX12_put_43 aM_20 c10 eT11 ?_
  refine z_aload_n (pc := 44) (q := 1) dX12_put_44 rfl rfl ?_
  refine z_getR (pc := 45) dX12_put_45 zf_X12_79 gM_0_54 ?_
  refine z_iload (pc := 48) (q := 0) dX12_put_48 rfl ?_
  refine z_iconst (pc := 50) (v := 3) dX12_put_50 zci_3 ?_
  refine z_iadd (pc := 51) dX12_put_51 ?_
  refine z_iload_n (pc := 52) (q := 3) dX12_put_52 rfl rfl ?_
  obtain ⟨c12, h⟩ := zg_some h
  obtain ⟨T13, eT13, h⟩ := zl_some h
  refine z_iast (pc := 53) dX12_put_53 aM_20 c12 eT13 ?_
  refine z_aload_n (pc := 54) (q := 1) dX12_put_54 rfl rfl ?_
  refine z_getR (pc := 55) dX12_put_55 zf_X12_79 gM_0_54 ?_
  refine z_iload (pc := 58) (q := 0) dX12_put_58 rfl ?_
  refine z_iconst (pc := 60) (v := 4) dX12_put_60 zci_4 ?_
  refine z_iadd (pc := 61) dX12_put_61 ?_
  refine z_iload_n (pc := 62) (q := 4) dX12_put_62 rfl rfl ?_
  obtain ⟨c14, h⟩ := zg_some h
  obtain ⟨T15, eT15, h⟩ := zl_some h
  refine z_iast (pc := 63) dX12_put_63 aM_20 c14 eT15 ?_
  refine z_aload_n (pc := 64) (q := 1) dX12_put_64 rfl rfl ?_
  refine z_getR (pc := 65) dX12_put_65 zf_X12_79 gM_0_54 ?_
  refine z_iload (pc := 68) (q := 0) dX12_put_68 rfl ?_
  refine z_iconst (pc := 70) (v := 5) dX12_put_70 zci_5 ?_
  refine z_iadd (pc := 71) dX12_put_71 ?_
  refine z_iload (pc := 72) (q := 5) dX12_put_72 rfl ?_
  obtain ⟨c16, h⟩ := zg_some h
  obtain ⟨T17, eT17, h⟩ := zl_some h
  refine z_iast (pc := 74) dX12_put_74 aM_20 c16 eT17 ?_
  refine z_aload_n (pc := 75) (q := 1) dX12_put_75 rfl rfl ?_
  refine z_getR (pc := 76) dX12_put_76 zf_X12_79 gM_0_54 ?_
  refine z_iload (pc := 79) (q := 0) dX12_put_79 rfl ?_
  refine z_bipush (pc := 81) (v := 6) dX12_put_81 zcb_6 ?_
  refine z_iadd (pc := 83) dX12_put_83 ?_
  refine z_iload (pc := 84) (q := 6) dX12_put_84 rfl ?_
  obtain ⟨c18, h⟩ := zg_some h
  obtain ⟨T19, eT19, h⟩ := zl_some h
  refine z_iast (pc := 86) dX12_put_86 aM_20 c18 eT19 ?_
  refine z_aload_n (pc := 87) (q := 1) dX12_put_87 rfl rfl ?_
  refine z_getR (pc := 88) dX12_put_88 zf_X12_79 gM_0_54 ?_
  refine z_iload (pc := 91) (q := 0) dX12_put_91 rfl ?_
  refine z_bipush (pc := 93) (v := 7) dX12_put_93 zcb_7 ?_
  refine z_iadd (pc := 95) dX12_put_95 ?_
  refine z_iload (pc := 96) (q := 7) dX12_put_96 rfl ?_
  obtain ⟨c20, h⟩ := zg_some h
  obtain ⟨T21, eT21, h⟩ := zl_some h
  refine z_iast (pc := 98) dX12_put_98 aM_20 c20 eT21 ?_
  refine z_aload_n (pc := 99) (q := 1) dX12_put_99 rfl rfl ?_
  refine z_getR (pc := 100) dX12_put_100 zf_X12_79 gM_0_54 ?_
  refine z_bipush (pc := 103) (v := 96) dX12_put_103 zcb_96 ?_
  refine z_dup2 (pc := 105) dX12_put_105 rfl rfl ?_
  refine z_iald (pc := 106) dX12_put_106 aM_20 (by decide) ?_
  refine z_iconst (pc := 107) (v := 1) dX12_put_107 zci_1 ?_
  refine z_iadd (pc := 108) dX12_put_108 ?_
  obtain ⟨T22, eT22, h⟩ := zl_some h
  refine z_iast (pc := 109) dX12_put_109 aM_20 (by decide) eT22 ?_
  cases h
  exact z_vret dX12_put_110
def f_X12_canPut (x1 : Int32) (x2 : Int32) (S : zS) : Option (Int32 × zS) :=
  zb (f_X12_isStake x1 S) fun r3 T2 =>
  if r3 = 0 then
    some (0, T2)
  else
    zb (f_X12_isPlant x2 T2) fun r7 T6 =>
    if r7 = 0 then
      some (0, T6)
    else
      if (T6.1 19 (Int32.toNatClampNeg 96)) < 12 then
        some (1, T6)
      else
        some (0, T6)
set_option maxRecDepth 100000 in
theorem w_X12_canPut (l : Launch) {x1 : Int32} {x2 : Int32} {S : zS} {r : Int32} {S1 : zS} (h : f_X12_canPut x1 x2 S = some (r, S1)) : zMet zLM l yX12_canPut cX12_canPut 3 (some .boolean) 3 [.ref 0, .int x1, .int x2] S (some (.int r)) S1 := by
  unfold f_X12_canPut at h
  refine zMet.of (by decide +kernel) (Nat.le_of_ble_eq_true rfl) ?_
  show WA zLM l RX12 cX12_canPut 3 (some .boolean) 3 (some (.int r)) S1 0 [(0, .ref 0), (1, .int x1), (2, .int x2)] [] S
  refine z_aload_n (pc := 0) (q := 0) dX12_canPut_0 rfl rfl ?_
  refine z_iload_n (pc := 1) (q := 1) dX12_canPut_1 rfl rfl ?_
  obtain ⟨r3, T2, q1, h⟩ := zb_some h
  refine z_callVi (pc := 2) (st := []) [.int x1] dX12_canPut_2 zm_X12_465 zM_X12_isStake (by decide) oM_0 rfl (w_X12_isStake l q1) rfl rfl (Nat.le_of_ble_eq_true rfl) ?_
  refine z_if_eq (pc := 5) (tgt := 32) dX12_canPut_5 (by decide) (fun c4 => ?_) (fun c4 => ?_)
  · have h := zt_some c4 h
    refine z_iconst (pc := 32) (v := 0) dX12_canPut_32 zci_0 ?_
    obtain ⟨rfl, rfl⟩ := zr_some h
    exact z_zret dX12_canPut_33 rfl
  · have h := ze_some c4 h
    refine z_aload_n (pc := 8) (q := 0) dX12_canPut_8 rfl rfl ?_
    refine z_iload_n (pc := 9) (q := 2) dX12_canPut_9 rfl rfl ?_
    obtain ⟨r7, T6, q5, h⟩ := zb_some h
    refine z_callVi (pc := 10) (st := []) [.int x2] dX12_canPut_10 zm_X12_483 zM_X12_isPlant (by decide) oM_0 rfl (w_X12_isPlant l q5) rfl rfl (Nat.le_of_ble_eq_true rfl) ?_
    refine z_if_eq (pc := 13) (tgt := 32) dX12_canPut_13 (by decide) (fun c8 => ?_) (fun c8 => ?_)
    · have h := zt_some c8 h
      refine z_iconst (pc := 32) (v := 0) dX12_canPut_32 zci_0 ?_
      obtain ⟨rfl, rfl⟩ := zr_some h
      exact z_zret dX12_canPut_33 rfl
    · have h := ze_some c8 h
      refine z_aload_n (pc := 16) (q := 0) dX12_canPut_16 rfl rfl ?_
      refine z_getR (pc := 17) dX12_canPut_17 zf_X12_76 gM_0_53 ?_
      refine z_bipush (pc := 20) (v := 96) dX12_canPut_20 zcb_96 ?_
      refine z_iald (pc := 22) dX12_canPut_22 aM_19 (by decide) ?_
      refine z_bipush (pc := 23) (v := 12) dX12_canPut_23 zcb_12 ?_
      refine z_icmp_ge (pc := 25) (tgt := 32) dX12_canPut_25 (by decide) (fun c9 => ?_) (fun c9 => ?_)
      · have h := ze_some c9 h
        refine z_iconst (pc := 32) (v := 0) dX12_canPut_32 zci_0 ?_
        obtain ⟨rfl, rfl⟩ := zr_some h
        exact z_zret dX12_canPut_33 rfl
      · have h := zt_some c9 h
        refine z_iconst (pc := 28) (v := 1) dX12_canPut_28 zci_1 ?_
        refine z_goto (pc := 29) (tgt := 33) dX12_canPut_29 (by decide) ?_
        obtain ⟨rfl, rfl⟩ := zr_some h
        exact z_zret dX12_canPut_33 rfl
def f_X12_lay_B46 (x1 : Int32) (x2 : Int32) (x3 : Int32) (x4 : Int32) (x5 : Int32) (S : zS) : Option (Int32 × zS) :=
  zu (f_X12_act S) fun T2 =>
  zu (f_X12_load T2) fun T4 =>
  zu (f_X12_put x1 x2 x3 x4 x5 (-1) T4) fun T6 =>
  zu (f_X12_keep T6) fun T8 =>
  some ((T8.1 19 (Int32.toNatClampNeg 96)) - 1, T8)
def f_X12_lay (x1 : Int32) (x2 : Int32) (x3 : Int32) (x4 : Int32) (x5 : Int32) (S : zS) : Option (Int32 × zS) :=
  zb (f_X12_canPut x1 x2 S) fun r3 T2 =>
  if r3 = 0 then
    some ((-1), T2)
  else
    zb (f_X12_isTopic x3 T2) fun r7 T6 =>
    if r7 = 0 then
      some ((-1), T6)
    else
      zb (f_X12_isIn x4 (-9) 9 T6) fun r11 T10 =>
      if r11 = 0 then
        some ((-1), T10)
      else
        if x5 = (-1) then
          f_X12_lay_B46 x1 x2 x3 x4 x5 T10
        else
          zb (f_X12_isBill x5 T10) fun r16 T15 =>
          if r16 = 0 then
            some ((-1), T15)
          else
            f_X12_lay_B46 x1 x2 x3 x4 x5 T15
set_option maxRecDepth 100000 in
theorem w_X12_lay_B46 (l : Launch) {r : Int32} {S1 : zS} (x1 : Int32) (x2 : Int32) (x3 : Int32) (x4 : Int32) (x5 : Int32) (S : zS) (h : f_X12_lay_B46 x1 x2 x3 x4 x5 S = some (r, S1)) : WA zLM l RX12 cX12_lay 6 (some .int) 4 (some (.int r)) S1 46 [(0, .ref 0), (1, .int x1), (2, .int x2), (3, .int x3), (4, .int x4), (5, .int x5)] [] S := by
  unfold f_X12_lay_B46 at h
  refine z_aload_n (pc := 46) (q := 0) dX12_lay_46 rfl rfl ?_
  obtain ⟨T2, q1, h⟩ := zu_some h
  refine z_callVv (pc := 47) (st := []) [] dX12_lay_47 zm_X12_490 zM_X12_act (by decide) oM_0 rfl (w_X12_act l q1) rfl rfl (Nat.le_of_ble_eq_true rfl) ?_
  refine z_aload_n (pc := 50) (q := 0) dX12_lay_50 rfl rfl ?_
  obtain ⟨T4, q3, h⟩ := zu_some h
  refine z_callVv (pc := 51) (st := []) [] dX12_lay_51 zm_X12_462 zM_X12_load (by decide) oM_0 rfl (w_X12_load l q3) rfl rfl (Nat.le_of_ble_eq_true rfl) ?_
  refine z_aload_n (pc := 54) (q := 0) dX12_lay_54 rfl rfl ?_
  refine z_iload_n (pc := 55) (q := 1) dX12_lay_55 rfl rfl ?_
  refine z_iload_n (pc := 56) (q := 2) dX12_lay_56 rfl rfl ?_
  refine z_iload_n (pc := 57) (q := 3) dX12_lay_57 rfl rfl ?_
  refine z_iload (pc := 58) (q := 4) dX12_lay_58 rfl ?_
  refine z_iload (pc := 60) (q := 5) dX12_lay_60 rfl ?_
  refine z_iconst (pc := 62) (v := (-1)) dX12_lay_62 zci_m1 ?_
  obtain ⟨T6, q5, h⟩ := zu_some h
  refine z_callVv (pc := 63) (st := []) [.int x1, .int x2, .int x3, .int x4, .int x5, .int (-1)] dX12_lay_63 zm_X12_493 zM_X12_put (by decide) oM_0 rfl (w_X12_put l q5) rfl rfl (Nat.le_of_ble_eq_true rfl) ?_
  refine z_aload_n (pc := 66) (q := 0) dX12_lay_66 rfl rfl ?_
  obtain ⟨T8, q7, h⟩ := zu_some h
  refine z_callVv (pc := 67) (st := []) [] dX12_lay_67 zm_X12_497 zM_X12_keep (by decide) oM_0 rfl (w_X12_keep l q7) rfl rfl (Nat.le_of_ble_eq_true rfl) ?_
  refine z_aload_n (pc := 70) (q := 0) dX12_lay_70 rfl rfl ?_
  refine z_getR (pc := 71) dX12_lay_71 zf_X12_76 gM_0_53 ?_
  refine z_bipush (pc := 74) (v := 96) dX12_lay_74 zcb_96 ?_
  refine z_iald (pc := 76) dX12_lay_76 aM_19 (by decide) ?_
  refine z_iconst (pc := 77) (v := 1) dX12_lay_77 zci_1 ?_
  refine z_isub (pc := 78) dX12_lay_78 ?_
  obtain ⟨rfl, rfl⟩ := zr_some h
  exact z_iret dX12_lay_79
set_option maxRecDepth 100000 in
theorem w_X12_lay (l : Launch) {x1 : Int32} {x2 : Int32} {x3 : Int32} {x4 : Int32} {x5 : Int32} {S : zS} {r : Int32} {S1 : zS} (h : f_X12_lay x1 x2 x3 x4 x5 S = some (r, S1)) : zMet zLM l yX12_lay cX12_lay 6 (some .int) 4 [.ref 0, .int x1, .int x2, .int x3, .int x4, .int x5] S (some (.int r)) S1 := by
  unfold f_X12_lay at h
  refine zMet.of (by decide +kernel) (Nat.le_of_ble_eq_true rfl) ?_
  show WA zLM l RX12 cX12_lay 6 (some .int) 4 (some (.int r)) S1 0 [(0, .ref 0), (1, .int x1), (2, .int x2), (3, .int x3), (4, .int x4), (5, .int x5)] [] S
  refine z_aload_n (pc := 0) (q := 0) dX12_lay_0 rfl rfl ?_
  refine z_iload_n (pc := 1) (q := 1) dX12_lay_1 rfl rfl ?_
  refine z_iload_n (pc := 2) (q := 2) dX12_lay_2 rfl rfl ?_
  obtain ⟨r3, T2, q1, h⟩ := zb_some h
  refine z_callVi (pc := 3) (st := []) [.int x1, .int x2] dX12_lay_3 zm_X12_486 zM_X12_canPut (by decide) oM_0 rfl (w_X12_canPut l q1) rfl rfl (Nat.le_of_ble_eq_true rfl) ?_
  refine z_if_eq (pc := 6) (tgt := 44) dX12_lay_6 (by decide) (fun c4 => ?_) (fun c4 => ?_)
  · have h := zt_some c4 h
    refine z_iconst (pc := 44) (v := (-1)) dX12_lay_44 zci_m1 ?_
    obtain ⟨rfl, rfl⟩ := zr_some h
    exact z_iret dX12_lay_45
  · have h := ze_some c4 h
    refine z_aload_n (pc := 9) (q := 0) dX12_lay_9 rfl rfl ?_
    refine z_iload_n (pc := 10) (q := 3) dX12_lay_10 rfl rfl ?_
    obtain ⟨r7, T6, q5, h⟩ := zb_some h
    refine z_callVi (pc := 11) (st := []) [.int x3] dX12_lay_11 zm_X12_471 zM_X12_isTopic (by decide) oM_0 rfl (w_X12_isTopic l q5) rfl rfl (Nat.le_of_ble_eq_true rfl) ?_
    refine z_if_eq (pc := 14) (tgt := 44) dX12_lay_14 (by decide) (fun c8 => ?_) (fun c8 => ?_)
    · have h := zt_some c8 h
      refine z_iconst (pc := 44) (v := (-1)) dX12_lay_44 zci_m1 ?_
      obtain ⟨rfl, rfl⟩ := zr_some h
      exact z_iret dX12_lay_45
    · have h := ze_some c8 h
      refine z_iload (pc := 17) (q := 4) dX12_lay_17 rfl ?_
      refine z_bipush (pc := 19) (v := (-9)) dX12_lay_19 zcb_m9 ?_
      refine z_bipush (pc := 21) (v := 9) dX12_lay_21 zcb_9 ?_
      obtain ⟨r11, T10, q9, h⟩ := zb_some h
      refine z_callSi (pc := 23) (st := []) [.int x4, .int (-9), .int 9] dX12_lay_23 zm_X12_422 zM_X12_isIn (by decide) (w_X12_isIn l q9) rfl rfl (Nat.le_of_ble_eq_true rfl) ?_
      refine z_if_eq (pc := 26) (tgt := 44) dX12_lay_26 (by decide) (fun c12 => ?_) (fun c12 => ?_)
      · have h := zt_some c12 h
        refine z_iconst (pc := 44) (v := (-1)) dX12_lay_44 zci_m1 ?_
        obtain ⟨rfl, rfl⟩ := zr_some h
        exact z_iret dX12_lay_45
      · have h := ze_some c12 h
        refine z_iload (pc := 29) (q := 5) dX12_lay_29 rfl ?_
        refine z_iconst (pc := 31) (v := (-1)) dX12_lay_31 zci_m1 ?_
        refine z_icmp_eq (pc := 32) (tgt := 46) dX12_lay_32 (by decide) (fun c13 => ?_) (fun c13 => ?_)
        · have h := zt_some c13 h
          exact w_X12_lay_B46 l x1 x2 x3 x4 x5 T10 h
        · have h := ze_some c13 h
          refine z_aload_n (pc := 35) (q := 0) dX12_lay_35 rfl rfl ?_
          refine z_iload (pc := 36) (q := 5) dX12_lay_36 rfl ?_
          obtain ⟨r16, T15, q14, h⟩ := zb_some h
          refine z_callVi (pc := 38) (st := []) [.int x5] dX12_lay_38 zm_X12_459 zM_X12_isBill (by decide) oM_0 rfl (w_X12_isBill l q14) rfl rfl (Nat.le_of_ble_eq_true rfl) ?_
          refine z_if_ne (pc := 41) (tgt := 46) dX12_lay_41 (by decide) (fun c17 => ?_) (fun c17 => ?_)
          · have h := ze_some c17 h
            exact w_X12_lay_B46 l x1 x2 x3 x4 x5 T15 h
          · have h := zt_some c17 h
            refine z_iconst (pc := 44) (v := (-1)) dX12_lay_44 zci_m1 ?_
            obtain ⟨rfl, rfl⟩ := zr_some h
            exact z_iret dX12_lay_45
def f_X12_repeal (x1 : Int32) (x2 : Int32) (x3 : Int32) (S : zS) : Option (Int32 × zS) :=
  zb (f_X12_canPut x1 x2 S) fun r3 T2 =>
  if r3 = 0 then
    some ((-1), T2)
  else
    zb (f_X12_isBill x3 T2) fun r7 T6 =>
    if r7 = 0 then
      some ((-1), T6)
    else
      zu (f_X12_act T6) fun T10 =>
      zu (f_X12_load T10) fun T12 =>
      zu (f_X12_put x1 x2 (-1) 0 (-1) x3 T12) fun T14 =>
      zu (f_X12_keep T14) fun T16 =>
      some ((T16.1 19 (Int32.toNatClampNeg 96)) - 1, T16)
set_option maxRecDepth 100000 in
theorem w_X12_repeal (l : Launch) {x1 : Int32} {x2 : Int32} {x3 : Int32} {S : zS} {r : Int32} {S1 : zS} (h : f_X12_repeal x1 x2 x3 S = some (r, S1)) : zMet zLM l yX12_repeal cX12_repeal 4 (some .int) 4 [.ref 0, .int x1, .int x2, .int x3] S (some (.int r)) S1 := by
  unfold f_X12_repeal at h
  refine zMet.of (by decide +kernel) (Nat.le_of_ble_eq_true rfl) ?_
  show WA zLM l RX12 cX12_repeal 4 (some .int) 4 (some (.int r)) S1 0 [(0, .ref 0), (1, .int x1), (2, .int x2), (3, .int x3)] [] S
  refine z_aload_n (pc := 0) (q := 0) dX12_repeal_0 rfl rfl ?_
  refine z_iload_n (pc := 1) (q := 1) dX12_repeal_1 rfl rfl ?_
  refine z_iload_n (pc := 2) (q := 2) dX12_repeal_2 rfl rfl ?_
  obtain ⟨r3, T2, q1, h⟩ := zb_some h
  refine z_callVi (pc := 3) (st := []) [.int x1, .int x2] dX12_repeal_3 zm_X12_486 zM_X12_canPut (by decide) oM_0 rfl (w_X12_canPut l q1) rfl rfl (Nat.le_of_ble_eq_true rfl) ?_
  refine z_if_eq (pc := 6) (tgt := 17) dX12_repeal_6 (by decide) (fun c4 => ?_) (fun c4 => ?_)
  · have h := zt_some c4 h
    refine z_iconst (pc := 17) (v := (-1)) dX12_repeal_17 zci_m1 ?_
    obtain ⟨rfl, rfl⟩ := zr_some h
    exact z_iret dX12_repeal_18
  · have h := ze_some c4 h
    refine z_aload_n (pc := 9) (q := 0) dX12_repeal_9 rfl rfl ?_
    refine z_iload_n (pc := 10) (q := 3) dX12_repeal_10 rfl rfl ?_
    obtain ⟨r7, T6, q5, h⟩ := zb_some h
    refine z_callVi (pc := 11) (st := []) [.int x3] dX12_repeal_11 zm_X12_459 zM_X12_isBill (by decide) oM_0 rfl (w_X12_isBill l q5) rfl rfl (Nat.le_of_ble_eq_true rfl) ?_
    refine z_if_ne (pc := 14) (tgt := 19) dX12_repeal_14 (by decide) (fun c8 => ?_) (fun c8 => ?_)
    · have h := ze_some c8 h
      refine z_aload_n (pc := 19) (q := 0) dX12_repeal_19 rfl rfl ?_
      obtain ⟨T10, q9, h⟩ := zu_some h
      refine z_callVv (pc := 20) (st := []) [] dX12_repeal_20 zm_X12_490 zM_X12_act (by decide) oM_0 rfl (w_X12_act l q9) rfl rfl (Nat.le_of_ble_eq_true rfl) ?_
      refine z_aload_n (pc := 23) (q := 0) dX12_repeal_23 rfl rfl ?_
      obtain ⟨T12, q11, h⟩ := zu_some h
      refine z_callVv (pc := 24) (st := []) [] dX12_repeal_24 zm_X12_462 zM_X12_load (by decide) oM_0 rfl (w_X12_load l q11) rfl rfl (Nat.le_of_ble_eq_true rfl) ?_
      refine z_aload_n (pc := 27) (q := 0) dX12_repeal_27 rfl rfl ?_
      refine z_iload_n (pc := 28) (q := 1) dX12_repeal_28 rfl rfl ?_
      refine z_iload_n (pc := 29) (q := 2) dX12_repeal_29 rfl rfl ?_
      refine z_iconst (pc := 30) (v := (-1)) dX12_repeal_30 zci_m1 ?_
      refine z_iconst (pc := 31) (v := 0) dX12_repeal_31 zci_0 ?_
      refine z_iconst (pc := 32) (v := (-1)) dX12_repeal_32 zci_m1 ?_
      refine z_iload_n (pc := 33) (q := 3) dX12_repeal_33 rfl rfl ?_
      obtain ⟨T14, q13, h⟩ := zu_some h
      refine z_callVv (pc := 34) (st := []) [.int x1, .int x2, .int (-1), .int 0, .int (-1), .int x3] dX12_repeal_34 zm_X12_493 zM_X12_put (by decide) oM_0 rfl (w_X12_put l q13) rfl rfl (Nat.le_of_ble_eq_true rfl) ?_
      refine z_aload_n (pc := 37) (q := 0) dX12_repeal_37 rfl rfl ?_
      obtain ⟨T16, q15, h⟩ := zu_some h
      refine z_callVv (pc := 38) (st := []) [] dX12_repeal_38 zm_X12_497 zM_X12_keep (by decide) oM_0 rfl (w_X12_keep l q15) rfl rfl (Nat.le_of_ble_eq_true rfl) ?_
      refine z_aload_n (pc := 41) (q := 0) dX12_repeal_41 rfl rfl ?_
      refine z_getR (pc := 42) dX12_repeal_42 zf_X12_76 gM_0_53 ?_
      refine z_bipush (pc := 45) (v := 96) dX12_repeal_45 zcb_96 ?_
      refine z_iald (pc := 47) dX12_repeal_47 aM_19 (by decide) ?_
      refine z_iconst (pc := 48) (v := 1) dX12_repeal_48 zci_1 ?_
      refine z_isub (pc := 49) dX12_repeal_49 ?_
      obtain ⟨rfl, rfl⟩ := zr_some h
      exact z_iret dX12_repeal_50
    · have h := zt_some c8 h
      refine z_iconst (pc := 17) (v := (-1)) dX12_repeal_17 zci_m1 ?_
      obtain ⟨rfl, rfl⟩ := zr_some h
      exact z_iret dX12_repeal_18
def f_X12_pull (x1 : Int32) (S : zS) : Option (Int32 × zS) :=
  zb (f_X12_isBill x1 S) fun r3 T2 =>
  if r3 = 0 then
    some ((-1), T2)
  else
    if zin ((8 * x1) + 0) 99 then
    if (T2.1 19 ((8 * x1) + 0).toNatClampNeg) = 0 then
      some ((-1), T2)
    else
      zu (f_X12_act T2) fun T8 =>
      if zin ((8 * x1) + 0) 99 then
      zlet (T8.1 19 ((8 * x1) + 0).toNatClampNeg) fun v10 =>
      if zin ((8 * x1) + 0) 99 then
      zlet (zput T8 19 ((8 * x1) + 0).toNatClampNeg 0) fun T12 =>
      some (v10, T12) else none else none else none
set_option maxRecDepth 100000 in
theorem w_X12_pull (l : Launch) {x1 : Int32} {S : zS} {r : Int32} {S1 : zS} (h : f_X12_pull x1 S = some (r, S1)) : zMet zLM l yX12_pull cX12_pull 3 (some .int) 3 [.ref 0, .int x1] S (some (.int r)) S1 := by
  unfold f_X12_pull at h
  refine zMet.of (by decide +kernel) (Nat.le_of_ble_eq_true rfl) ?_
  show WA zLM l RX12 cX12_pull 3 (some .int) 3 (some (.int r)) S1 0 [(0, .ref 0), (1, .int x1)] [] S
  refine z_aload_n (pc := 0) (q := 0) dX12_pull_0 rfl rfl ?_
  refine z_iload_n (pc := 1) (q := 1) dX12_pull_1 rfl rfl ?_
  obtain ⟨r3, T2, q1, h⟩ := zb_some h
  refine z_callVi (pc := 2) (st := []) [.int x1] dX12_pull_2 zm_X12_459 zM_X12_isBill (by decide) oM_0 rfl (w_X12_isBill l q1) rfl rfl (Nat.le_of_ble_eq_true rfl) ?_
  refine z_if_eq (pc := 5) (tgt := 22) dX12_pull_5 (by decide) (fun c4 => ?_) (fun c4 => ?_)
  · have h := zt_some c4 h
    refine z_iconst (pc := 22) (v := (-1)) dX12_pull_22 zci_m1 ?_
    obtain ⟨rfl, rfl⟩ := zr_some h
    exact z_iret dX12_pull_23
  · have h := ze_some c4 h
    refine z_aload_n (pc := 8) (q := 0) dX12_pull_8 rfl rfl ?_
    refine z_getR (pc := 9) dX12_pull_9 zf_X12_76 gM_0_53 ?_
    refine z_bipush (pc := 12) (v := 8) dX12_pull_12 zcb_8 ?_
    refine z_iload_n (pc := 14) (q := 1) dX12_pull_14 rfl rfl ?_
    refine z_imul (pc := 15) dX12_pull_15 ?_
    refine z_iconst (pc := 16) (v := 0) dX12_pull_16 zci_0 ?_
    refine z_iadd (pc := 17) dX12_pull_17 ?_
    obtain ⟨c5, h⟩ := zg_some h
    refine z_iald (pc := 18) dX12_pull_18 aM_19 c5 ?_
    refine z_if_ne (pc := 19) (tgt := 24) dX12_pull_19 (by decide) (fun c6 => ?_) (fun c6 => ?_)
    · have h := ze_some c6 h
      refine z_aload_n (pc := 24) (q := 0) dX12_pull_24 rfl rfl ?_
      obtain ⟨T8, q7, h⟩ := zu_some h
      refine z_callVv (pc := 25) (st := []) [] dX12_pull_25 zm_X12_490 zM_X12_act (by decide) oM_0 rfl (w_X12_act l q7) rfl rfl (Nat.le_of_ble_eq_true rfl) ?_
      refine z_aload_n (pc := 28) (q := 0) dX12_pull_28 rfl rfl ?_
      refine z_getR (pc := 29) dX12_pull_29 zf_X12_76 gM_0_53 ?_
      refine z_bipush (pc := 32) (v := 8) dX12_pull_32 zcb_8 ?_
      refine z_iload_n (pc := 34) (q := 1) dX12_pull_34 rfl rfl ?_
      refine z_imul (pc := 35) dX12_pull_35 ?_
      refine z_iconst (pc := 36) (v := 0) dX12_pull_36 zci_0 ?_
      refine z_iadd (pc := 37) dX12_pull_37 ?_
      obtain ⟨c9, h⟩ := zg_some h
      refine z_iald (pc := 38) dX12_pull_38 aM_19 c9 ?_
      obtain ⟨v10, ev10, h⟩ := zl_some h
      refine z_top ev10 ?_
      refine z_istore_n (pc := 39) (lo' := [(2, .int v10), (0, .ref 0), (1, .int x1)]) dX12_pull_39 rfl (by decide) rfl ?_
      refine z_aload_n (pc := 40) (q := 1) dX12_pull_40 rfl rfl ?_
      refine z_getR (pc := 41) dX12_pull_41 zf_X12_76 gM_0_53 ?_
      refine z_bipush (pc := 44) (v := 8) dX12_pull_44 zcb_8 ?_
      refine z_iload_n (pc := 46) (q := 2) dX12_pull_46 rfl rfl ?_
      refine z_imul (pc := 47) dX12_pull_47 ?_
      refine z_iconst (pc := 48) (v := 0) dX12_pull_48 zci_0 ?_
      refine z_iadd (pc := 49) dX12_pull_49 ?_
      refine z_iconst (pc := 50) (v := 0) dX12_pull_50 zci_0 ?_
      obtain ⟨c11, h⟩ := zg_some h
      obtain ⟨T12, eT12, h⟩ := zl_some h
      refine z_iast (pc := 51) dX12_pull_51 aM_19 c11 eT12 ?_
      refine z_iload_n (pc := 52) (q := 0) dX12_pull_52 rfl rfl ?_
      obtain ⟨rfl, rfl⟩ := zr_some h
      exact z_iret dX12_pull_53
    · have h := zt_some c6 h
      refine z_iconst (pc := 22) (v := (-1)) dX12_pull_22 zci_m1 ?_
      obtain ⟨rfl, rfl⟩ := zr_some h
      exact z_iret dX12_pull_23
def f_X12_trimHere_L2 : Nat → Int32 → Int32 → Int32 → zS → Option zS
  | 0, _, _, _, _ => none
  | n + 1, x1, x2, x3, S =>
    zb (f_X12_bills S) fun r3 T2 =>
    if x3 < r3 then
      zb (f_X12_of x3 2 T2) fun r7 T6 =>
      if r7 = x1 then
        zu (f_X12_lessen x3 x2 T6) fun T10 =>
        zlet (x3 + 1) fun v11 =>
        (f_X12_trimHere_L2 n) x1 x2 v11 T10
      else
        zlet (x3 + 1) fun v9 =>
        (f_X12_trimHere_L2 n) x1 x2 v9 T6
    else
      some T2
def f_X12_trimHere (x1 : Int32) (x2 : Int32) (S : zS) : Option zS :=
  f_X12_trimHere_L2 zN x1 x2 0 S
set_option maxRecDepth 100000 in
theorem w_X12_trimHere_L2 (l : Launch) {S1 : zS} : ∀ (n : Nat) (x1 : Int32) (x2 : Int32) (x3 : Int32) (S : zS), f_X12_trimHere_L2 n x1 x2 x3 S = some S1 → WA zLM l RX12 cX12_trimHere 4 none 3 none S1 2 [(0, .ref 0), (1, .int x1), (2, .int x2), (3, .int x3)] [] S := by
  intro n
  induction n with
  | zero =>
    intro x1 x2 x3 S h
    exact nomatch h
  | succ n ih =>
    intro x1 x2 x3 S h
    rw [f_X12_trimHere_L2] at h
    refine z_iload_n (pc := 2) (q := 3) dX12_trimHere_2 rfl rfl ?_
    refine z_aload_n (pc := 3) (q := 0) dX12_trimHere_3 rfl rfl ?_
    obtain ⟨r3, T2, q1, h⟩ := zb_some h
    refine z_callVi (pc := 4) (st := [.int x3]) [] dX12_trimHere_4 zm_X12_429 zM_X12_bills (by decide) oM_0 rfl (w_X12_bills l q1) rfl rfl (Nat.le_of_ble_eq_true rfl) ?_
    refine z_icmp_ge (pc := 7) (tgt := 32) dX12_trimHere_7 (by decide) (fun c4 => ?_) (fun c4 => ?_)
    · have h := ze_some c4 h
      cases h
      exact z_vret dX12_trimHere_32
    · have h := zt_some c4 h
      refine z_aload_n (pc := 10) (q := 0) dX12_trimHere_10 rfl rfl ?_
      refine z_iload_n (pc := 11) (q := 3) dX12_trimHere_11 rfl rfl ?_
      refine z_iconst (pc := 12) (v := 2) dX12_trimHere_12 zci_2 ?_
      obtain ⟨r7, T6, q5, h⟩ := zb_some h
      refine z_callVi (pc := 13) (st := []) [.int x3, .int 2] dX12_trimHere_13 zm_X12_426 zM_X12_of (by decide) oM_0 rfl (w_X12_of l q5) rfl rfl (Nat.le_of_ble_eq_true rfl) ?_
      refine z_iload_n (pc := 16) (q := 1) dX12_trimHere_16 rfl rfl ?_
      refine z_icmp_ne (pc := 17) (tgt := 26) dX12_trimHere_17 (by decide) (fun c8 => ?_) (fun c8 => ?_)
      · have h := ze_some c8 h
        obtain ⟨v9, ev9, h⟩ := zl_some h
        refine z_iinc (pc := 26) (q := 3) (v := v9) (lo' := [(3, .int v9), (0, .ref 0), (1, .int x1), (2, .int x2)]) dX12_trimHere_26 rfl (by rw [ev9, zci_1]) (by decide) rfl ?_
        refine z_goto (pc := 29) (tgt := 2) dX12_trimHere_29 (by decide) ?_
        exact z_sub [1, 2, 3, 0] rfl (ih x1 x2 v9 T6 h)
      · have h := zt_some c8 h
        refine z_aload_n (pc := 20) (q := 0) dX12_trimHere_20 rfl rfl ?_
        refine z_iload_n (pc := 21) (q := 3) dX12_trimHere_21 rfl rfl ?_
        refine z_iload_n (pc := 22) (q := 2) dX12_trimHere_22 rfl rfl ?_
        obtain ⟨T10, q9, h⟩ := zu_some h
        refine z_callVv (pc := 23) (st := []) [.int x3, .int x2] dX12_trimHere_23 zm_X12_453 zM_X12_lessen (by decide) oM_0 rfl (w_X12_lessen l q9) rfl rfl (Nat.le_of_ble_eq_true rfl) ?_
        obtain ⟨v11, ev11, h⟩ := zl_some h
        refine z_iinc (pc := 26) (q := 3) (v := v11) (lo' := [(3, .int v11), (0, .ref 0), (1, .int x1), (2, .int x2)]) dX12_trimHere_26 rfl (by rw [ev11, zci_1]) (by decide) rfl ?_
        refine z_goto (pc := 29) (tgt := 2) dX12_trimHere_29 (by decide) ?_
        exact z_sub [1, 2, 3, 0] rfl (ih x1 x2 v11 T10 h)
set_option maxRecDepth 100000 in
theorem w_X12_trimHere (l : Launch) {x1 : Int32} {x2 : Int32} {S : zS} {S1 : zS} (h : f_X12_trimHere x1 x2 S = some S1) : zMet zLM l yX12_trimHere cX12_trimHere 4 none 3 [.ref 0, .int x1, .int x2] S none S1 := by
  unfold f_X12_trimHere at h
  refine zMet.of (by decide +kernel) (Nat.le_of_ble_eq_true rfl) ?_
  show WA zLM l RX12 cX12_trimHere 4 none 3 none S1 0 [(0, .ref 0), (1, .int x1), (2, .int x2)] [] S
  refine z_iconst (pc := 0) (v := 0) dX12_trimHere_0 zci_0 ?_
  refine z_istore_n (pc := 1) (lo' := [(3, .int 0), (0, .ref 0), (1, .int x1), (2, .int x2)]) dX12_trimHere_1 rfl (by decide) rfl ?_
  exact z_sub [1, 2, 3, 0] rfl (w_X12_trimHere_L2 l zN x1 x2 0 S h)
def f_X12_trim (x1 : Int32) (x2 : Int32) (S : zS) : Option (Int32 × zS) :=
  zb (f_X12_isIn x2 1 99 S) fun r3 T2 =>
  if r3 = 0 then
    some ((-1), T2)
  else
    zb (f_X12_stake x1 0 T2) fun r7 T6 =>
    if (0 : Int32) < r7 then
      zu (f_X12_act T6) fun T10 =>
      zu (f_X12_load T10) fun T12 =>
      zb (f_X12_livingSet T12) fun r15 T14 =>
      zu (f_X12_trimHere x1 x2 T14) fun T17 =>
      zu (f_X12_keep T17) fun T19 =>
      zb (f_X12_livingSet T19) fun r22 T21 =>
      zb (f_X12_members (r15 &&& (r22 ^^^ (-1))) T21) fun r25 T24 =>
      some (r25, T24)
    else
      some ((-1), T6)
set_option maxRecDepth 100000 in
theorem w_X12_trim (l : Launch) {x1 : Int32} {x2 : Int32} {S : zS} {r : Int32} {S1 : zS} (h : f_X12_trim x1 x2 S = some (r, S1)) : zMet zLM l yX12_trim cX12_trim 4 (some .int) 6 [.ref 0, .int x1, .int x2] S (some (.int r)) S1 := by
  unfold f_X12_trim at h
  refine zMet.of (by decide +kernel) (Nat.le_of_ble_eq_true rfl) ?_
  show WA zLM l RX12 cX12_trim 4 (some .int) 6 (some (.int r)) S1 0 [(0, .ref 0), (1, .int x1), (2, .int x2)] [] S
  refine z_iload_n (pc := 0) (q := 2) dX12_trim_0 rfl rfl ?_
  refine z_iconst (pc := 1) (v := 1) dX12_trim_1 zci_1 ?_
  refine z_bipush (pc := 2) (v := 99) dX12_trim_2 zcb_99 ?_
  obtain ⟨r3, T2, q1, h⟩ := zb_some h
  refine z_callSi (pc := 4) (st := []) [.int x2, .int 1, .int 99] dX12_trim_4 zm_X12_422 zM_X12_isIn (by decide) (w_X12_isIn l q1) rfl rfl (Nat.le_of_ble_eq_true rfl) ?_
  refine z_if_eq (pc := 7) (tgt := 19) dX12_trim_7 (by decide) (fun c4 => ?_) (fun c4 => ?_)
  · have h := zt_some c4 h
    refine z_iconst (pc := 19) (v := (-1)) dX12_trim_19 zci_m1 ?_
    obtain ⟨rfl, rfl⟩ := zr_some h
    exact z_iret dX12_trim_20
  · have h := ze_some c4 h
    refine z_aload_n (pc := 10) (q := 0) dX12_trim_10 rfl rfl ?_
    refine z_iload_n (pc := 11) (q := 1) dX12_trim_11 rfl rfl ?_
    refine z_iconst (pc := 12) (v := 0) dX12_trim_12 zci_0 ?_
    obtain ⟨r7, T6, q5, h⟩ := zb_some h
    refine z_callVi (pc := 13) (st := []) [.int x1, .int 0] dX12_trim_13 zm_X12_500 zM_X12_stake (by decide) oM_0 rfl (w_X12_stake l q5) rfl rfl (Nat.le_of_ble_eq_true rfl) ?_
    refine z_if_gt (pc := 16) (tgt := 21) dX12_trim_16 (by decide) (fun c8 => ?_) (fun c8 => ?_)
    · have h := zt_some c8 h
      refine z_aload_n (pc := 21) (q := 0) dX12_trim_21 rfl rfl ?_
      obtain ⟨T10, q9, h⟩ := zu_some h
      refine z_callVv (pc := 22) (st := []) [] dX12_trim_22 zm_X12_490 zM_X12_act (by decide) oM_0 rfl (w_X12_act l q9) rfl rfl (Nat.le_of_ble_eq_true rfl) ?_
      refine z_aload_n (pc := 25) (q := 0) dX12_trim_25 rfl rfl ?_
      obtain ⟨T12, q11, h⟩ := zu_some h
      refine z_callVv (pc := 26) (st := []) [] dX12_trim_26 zm_X12_462 zM_X12_load (by decide) oM_0 rfl (w_X12_load l q11) rfl rfl (Nat.le_of_ble_eq_true rfl) ?_
      refine z_aload_n (pc := 29) (q := 0) dX12_trim_29 rfl rfl ?_
      obtain ⟨r15, T14, q13, h⟩ := zb_some h
      refine z_callVi (pc := 30) (st := []) [] dX12_trim_30 zm_X12_435 zM_X12_livingSet (by decide) oM_0 rfl (w_X12_livingSet l q13) rfl rfl (Nat.le_of_ble_eq_true rfl) ?_
      refine z_istore_n (pc := 33) (lo' := [(3, .int r15), (0, .ref 0), (1, .int x1), (2, .int x2)]) dX12_trim_33 rfl (by decide) rfl ?_
      refine z_aload_n (pc := 34) (q := 1) dX12_trim_34 rfl rfl ?_
      refine z_iload_n (pc := 35) (q := 2) dX12_trim_35 rfl rfl ?_
      refine z_iload_n (pc := 36) (q := 3) dX12_trim_36 rfl rfl ?_
      obtain ⟨T17, q16, h⟩ := zu_some h
      refine z_callVv (pc := 37) (st := []) [.int x1, .int x2] dX12_trim_37 zm_X12_503 zM_X12_trimHere (by decide) oM_0 rfl (w_X12_trimHere l q16) rfl rfl (Nat.le_of_ble_eq_true rfl) ?_
      refine z_aload_n (pc := 40) (q := 1) dX12_trim_40 rfl rfl ?_
      obtain ⟨T19, q18, h⟩ := zu_some h
      refine z_callVv (pc := 41) (st := []) [] dX12_trim_41 zm_X12_497 zM_X12_keep (by decide) oM_0 rfl (w_X12_keep l q18) rfl rfl (Nat.le_of_ble_eq_true rfl) ?_
      refine z_iload_n (pc := 44) (q := 0) dX12_trim_44 rfl rfl ?_
      refine z_aload_n (pc := 45) (q := 1) dX12_trim_45 rfl rfl ?_
      obtain ⟨r22, T21, q20, h⟩ := zb_some h
      refine z_callVi (pc := 46) (st := [.int r15]) [] dX12_trim_46 zm_X12_435 zM_X12_livingSet (by decide) oM_0 rfl (w_X12_livingSet l q20) rfl rfl (Nat.le_of_ble_eq_true rfl) ?_
      refine z_iconst (pc := 49) (v := (-1)) dX12_trim_49 zci_m1 ?_
      refine z_ixor (pc := 50) dX12_trim_50 ?_
      refine z_iand (pc := 51) dX12_trim_51 ?_
      obtain ⟨r25, T24, q23, h⟩ := zb_some h
      refine z_callSi (pc := 52) (st := []) [.int (r15 &&& (r22 ^^^ (-1)))] dX12_trim_52 zm_X12_456 zM_X12_members (by decide) (w_X12_members l q23) rfl rfl (Nat.le_of_ble_eq_true rfl) ?_
      obtain ⟨rfl, rfl⟩ := zr_some h
      exact z_iret dX12_trim_55
    · have h := ze_some c8 h
      refine z_iconst (pc := 19) (v := (-1)) dX12_trim_19 zci_m1 ?_
      obtain ⟨rfl, rfl⟩ := zr_some h
      exact z_iret dX12_trim_20
def f_X12_year  (S : zS) : Option (Int32 × zS) :=
  if (S.1 19 (Int32.toNatClampNeg 97)) = 999 then
    some ((-1), S)
  else
    zu (f_X12_act S) fun T3 =>
    zu (f_X12_load T3) fun T5 =>
    zb (f_X12_goYear T5) fun r8 T7 =>
    zu (f_X12_keep T7) fun T10 =>
    some (r8, T10)
set_option maxRecDepth 100000 in
theorem w_X12_year (l : Launch)  {S : zS} {r : Int32} {S1 : zS} (h : f_X12_year S = some (r, S1)) : zMet zLM l yX12_year cX12_year 2 (some .int) 5 [.ref 0] S (some (.int r)) S1 := by
  unfold f_X12_year at h
  refine zMet.of (by decide +kernel) (Nat.le_of_ble_eq_true rfl) ?_
  show WA zLM l RX12 cX12_year 2 (some .int) 5 (some (.int r)) S1 0 [(0, .ref 0)] [] S
  refine z_aload_n (pc := 0) (q := 0) dX12_year_0 rfl rfl ?_
  refine z_getR (pc := 1) dX12_year_1 zf_X12_76 gM_0_53 ?_
  refine z_bipush (pc := 4) (v := 97) dX12_year_4 zcb_97 ?_
  refine z_iald (pc := 6) dX12_year_6 aM_19 (by decide) ?_
  refine z_sipush (pc := 7) (v := 999) dX12_year_7 zcs_999 ?_
  refine z_icmp_ne (pc := 10) (tgt := 15) dX12_year_10 (by decide) (fun c1 => ?_) (fun c1 => ?_)
  · have h := ze_some c1 h
    refine z_aload_n (pc := 15) (q := 0) dX12_year_15 rfl rfl ?_
    obtain ⟨T3, q2, h⟩ := zu_some h
    refine z_callVv (pc := 16) (st := []) [] dX12_year_16 zm_X12_490 zM_X12_act (by decide) oM_0 rfl (w_X12_act l q2) rfl rfl (Nat.le_of_ble_eq_true rfl) ?_
    refine z_aload_n (pc := 19) (q := 0) dX12_year_19 rfl rfl ?_
    obtain ⟨T5, q4, h⟩ := zu_some h
    refine z_callVv (pc := 20) (st := []) [] dX12_year_20 zm_X12_462 zM_X12_load (by decide) oM_0 rfl (w_X12_load l q4) rfl rfl (Nat.le_of_ble_eq_true rfl) ?_
    refine z_aload_n (pc := 23) (q := 0) dX12_year_23 rfl rfl ?_
    obtain ⟨r8, T7, q6, h⟩ := zb_some h
    refine z_callVi (pc := 24) (st := []) [] dX12_year_24 zm_X12_506 zM_X12_goYear (by decide) oM_0 rfl (w_X12_goYear l q6) rfl rfl (Nat.le_of_ble_eq_true rfl) ?_
    refine z_istore_n (pc := 27) (lo' := [(1, .int r8), (0, .ref 0)]) dX12_year_27 rfl (by decide) rfl ?_
    refine z_aload_n (pc := 28) (q := 1) dX12_year_28 rfl rfl ?_
    obtain ⟨T10, q9, h⟩ := zu_some h
    refine z_callVv (pc := 29) (st := []) [] dX12_year_29 zm_X12_497 zM_X12_keep (by decide) oM_0 rfl (w_X12_keep l q9) rfl rfl (Nat.le_of_ble_eq_true rfl) ?_
    refine z_iload_n (pc := 32) (q := 0) dX12_year_32 rfl rfl ?_
    obtain ⟨rfl, rfl⟩ := zr_some h
    exact z_iret dX12_year_33
  · have h := zt_some c1 h
    refine z_iconst (pc := 13) (v := (-1)) dX12_year_13 zci_m1 ?_
    obtain ⟨rfl, rfl⟩ := zr_some h
    exact z_iret dX12_year_14
def f_X12_undo  (S : zS) : Option (Int32 × zS) :=
  if (S.1 0 56) = 0 then
    some (0, S)
  else
    zlet (zput S 0 56 ((S.1 0 56) - 1)) fun T2 =>
    zlet (zput T2 0 57 ((T2.1 0 57) + 1)) fun T3 =>
    zu (f_X12_exchange (99 * (T3.1 0 56)) T3) fun T5 =>
    some (1, T5)
set_option maxRecDepth 100000 in
theorem w_X12_undo (l : Launch)  {S : zS} {r : Int32} {S1 : zS} (h : f_X12_undo S = some (r, S1)) : zMet zLM l yX12_undo cX12_undo 1 (some .boolean) 2 [.ref 0] S (some (.int r)) S1 := by
  unfold f_X12_undo at h
  refine zMet.of (by decide +kernel) (Nat.le_of_ble_eq_true rfl) ?_
  show WA zLM l RX12 cX12_undo 1 (some .boolean) 2 (some (.int r)) S1 0 [(0, .ref 0)] [] S
  refine z_aload_n (pc := 0) (q := 0) dX12_undo_0 rfl rfl ?_
  refine z_getI (pc := 1) dX12_undo_1 zf_X12_410 gM_0_56 ?_
  refine z_if_ne (pc := 4) (tgt := 9) dX12_undo_4 (by decide) (fun c1 => ?_) (fun c1 => ?_)
  · have h := ze_some c1 h
    refine z_aload_n (pc := 9) (q := 0) dX12_undo_9 rfl rfl ?_
    refine z_dup (pc := 10) dX12_undo_10 rfl ?_
    refine z_getI (pc := 11) dX12_undo_11 zf_X12_410 gM_0_56 ?_
    refine z_iconst (pc := 14) (v := 1) dX12_undo_14 zci_1 ?_
    refine z_isub (pc := 15) dX12_undo_15 ?_
    obtain ⟨T2, eT2, h⟩ := zl_some h
    refine z_putI (pc := 16) dX12_undo_16 zp_X12_410 gM_0_56 rfl rfl eT2 ?_
    refine z_aload_n (pc := 19) (q := 0) dX12_undo_19 rfl rfl ?_
    refine z_dup (pc := 20) dX12_undo_20 rfl ?_
    refine z_getI (pc := 21) dX12_undo_21 zf_X12_413 gM_0_57 ?_
    refine z_iconst (pc := 24) (v := 1) dX12_undo_24 zci_1 ?_
    refine z_iadd (pc := 25) dX12_undo_25 ?_
    obtain ⟨T3, eT3, h⟩ := zl_some h
    refine z_putI (pc := 26) dX12_undo_26 zp_X12_413 gM_0_57 rfl rfl eT3 ?_
    refine z_aload_n (pc := 29) (q := 0) dX12_undo_29 rfl rfl ?_
    refine z_bipush (pc := 30) (v := 99) dX12_undo_30 zcb_99 ?_
    refine z_aload_n (pc := 32) (q := 0) dX12_undo_32 rfl rfl ?_
    refine z_getI (pc := 33) dX12_undo_33 zf_X12_410 gM_0_56 ?_
    refine z_imul (pc := 36) dX12_undo_36 ?_
    obtain ⟨T5, q4, h⟩ := zu_some h
    refine z_callVv (pc := 37) (st := []) [.int (99 * (T3.1 0 56))] dX12_undo_37 zm_X12_509 zM_X12_exchange (by decide) oM_0 rfl (w_X12_exchange l q4) rfl rfl (Nat.le_of_ble_eq_true rfl) ?_
    refine z_iconst (pc := 40) (v := 1) dX12_undo_40 zci_1 ?_
    obtain ⟨rfl, rfl⟩ := zr_some h
    exact z_zret dX12_undo_41 rfl
  · have h := zt_some c1 h
    refine z_iconst (pc := 7) (v := 0) dX12_undo_7 zci_0 ?_
    obtain ⟨rfl, rfl⟩ := zr_some h
    exact z_zret dX12_undo_8 rfl
def f_X12_redo  (S : zS) : Option (Int32 × zS) :=
  if (S.1 0 57) = 0 then
    some (0, S)
  else
    zu (f_X12_exchange (99 * (S.1 0 56)) S) fun T3 =>
    zlet (zput T3 0 56 ((T3.1 0 56) + 1)) fun T4 =>
    zlet (zput T4 0 57 ((T4.1 0 57) - 1)) fun T5 =>
    some (1, T5)
set_option maxRecDepth 100000 in
theorem w_X12_redo (l : Launch)  {S : zS} {r : Int32} {S1 : zS} (h : f_X12_redo S = some (r, S1)) : zMet zLM l yX12_redo cX12_redo 1 (some .boolean) 2 [.ref 0] S (some (.int r)) S1 := by
  unfold f_X12_redo at h
  refine zMet.of (by decide +kernel) (Nat.le_of_ble_eq_true rfl) ?_
  show WA zLM l RX12 cX12_redo 1 (some .boolean) 2 (some (.int r)) S1 0 [(0, .ref 0)] [] S
  refine z_aload_n (pc := 0) (q := 0) dX12_redo_0 rfl rfl ?_
  refine z_getI (pc := 1) dX12_redo_1 zf_X12_413 gM_0_57 ?_
  refine z_if_ne (pc := 4) (tgt := 9) dX12_redo_4 (by decide) (fun c1 => ?_) (fun c1 => ?_)
  · have h := ze_some c1 h
    refine z_aload_n (pc := 9) (q := 0) dX12_redo_9 rfl rfl ?_
    refine z_bipush (pc := 10) (v := 99) dX12_redo_10 zcb_99 ?_
    refine z_aload_n (pc := 12) (q := 0) dX12_redo_12 rfl rfl ?_
    refine z_getI (pc := 13) dX12_redo_13 zf_X12_410 gM_0_56 ?_
    refine z_imul (pc := 16) dX12_redo_16 ?_
    obtain ⟨T3, q2, h⟩ := zu_some h
    refine z_callVv (pc := 17) (st := []) [.int (99 * (S.1 0 56))] dX12_redo_17 zm_X12_509 zM_X12_exchange (by decide) oM_0 rfl (w_X12_exchange l q2) rfl rfl (Nat.le_of_ble_eq_true rfl) ?_
    refine z_aload_n (pc := 20) (q := 0) dX12_redo_20 rfl rfl ?_
    refine z_dup (pc := 21) dX12_redo_21 rfl ?_
    refine z_getI (pc := 22) dX12_redo_22 zf_X12_410 gM_0_56 ?_
    refine z_iconst (pc := 25) (v := 1) dX12_redo_25 zci_1 ?_
    refine z_iadd (pc := 26) dX12_redo_26 ?_
    obtain ⟨T4, eT4, h⟩ := zl_some h
    refine z_putI (pc := 27) dX12_redo_27 zp_X12_410 gM_0_56 rfl rfl eT4 ?_
    refine z_aload_n (pc := 30) (q := 0) dX12_redo_30 rfl rfl ?_
    refine z_dup (pc := 31) dX12_redo_31 rfl ?_
    refine z_getI (pc := 32) dX12_redo_32 zf_X12_413 gM_0_57 ?_
    refine z_iconst (pc := 35) (v := 1) dX12_redo_35 zci_1 ?_
    refine z_isub (pc := 36) dX12_redo_36 ?_
    obtain ⟨T5, eT5, h⟩ := zl_some h
    refine z_putI (pc := 37) dX12_redo_37 zp_X12_413 gM_0_57 rfl rfl eT5 ?_
    refine z_iconst (pc := 40) (v := 1) dX12_redo_40 zci_1 ?_
    obtain ⟨rfl, rfl⟩ := zr_some h
    exact z_zret dX12_redo_41 rfl
  · have h := zt_some c1 h
    refine z_iconst (pc := 7) (v := 0) dX12_redo_7 zci_0 ?_
    obtain ⟨rfl, rfl⟩ := zr_some h
    exact z_zret dX12_redo_8 rfl
def f_X12_goFar_L6 : Nat → Int32 → Int32 → zS → Option zS
  | 0, _, _, _ => none
  | n + 1, x1, x2, S =>
    if x2 < x1 then
      zb (f_X12_goYear S) fun r4 T3 =>
      zlet (x2 + 1) fun v5 =>
      (f_X12_goFar_L6 n) x1 v5 T3
    else
      some S
def f_X12_goFar (x1 : Int32) (S : zS) : Option zS :=
  zu (f_X12_load S) fun T2 =>
  f_X12_goFar_L6 zN x1 0 T2
set_option maxRecDepth 100000 in
theorem w_X12_goFar_L6 (l : Launch) {S1 : zS} : ∀ (n : Nat) (x1 : Int32) (x2 : Int32) (S : zS), f_X12_goFar_L6 n x1 x2 S = some S1 → WA zLM l RX12 cX12_goFar 3 none 5 none S1 6 [(0, .ref 0), (1, .int x1), (2, .int x2)] [] S := by
  intro n
  induction n with
  | zero =>
    intro x1 x2 S h
    exact nomatch h
  | succ n ih =>
    intro x1 x2 S h
    rw [f_X12_goFar_L6] at h
    refine z_iload_n (pc := 6) (q := 2) dX12_goFar_6 rfl rfl ?_
    refine z_iload_n (pc := 7) (q := 1) dX12_goFar_7 rfl rfl ?_
    refine z_icmp_ge (pc := 8) (tgt := 22) dX12_goFar_8 (by decide) (fun c1 => ?_) (fun c1 => ?_)
    · have h := ze_some c1 h
      cases h
      exact z_vret dX12_goFar_22
    · have h := zt_some c1 h
      refine z_aload_n (pc := 11) (q := 0) dX12_goFar_11 rfl rfl ?_
      obtain ⟨r4, T3, q2, h⟩ := zb_some h
      refine z_callVi (pc := 12) (st := []) [] dX12_goFar_12 zm_X12_506 zM_X12_goYear (by decide) oM_0 rfl (w_X12_goYear l q2) rfl rfl (Nat.le_of_ble_eq_true rfl) ?_
      refine z_pop (pc := 15) dX12_goFar_15 rfl ?_
      obtain ⟨v5, ev5, h⟩ := zl_some h
      refine z_iinc (pc := 16) (q := 2) (v := v5) (lo' := [(2, .int v5), (0, .ref 0), (1, .int x1)]) dX12_goFar_16 rfl (by rw [ev5, zci_1]) (by decide) rfl ?_
      refine z_goto (pc := 19) (tgt := 6) dX12_goFar_19 (by decide) ?_
      exact z_sub [1, 2, 0] rfl (ih x1 v5 T3 h)
set_option maxRecDepth 100000 in
theorem w_X12_goFar (l : Launch) {x1 : Int32} {S : zS} {S1 : zS} (h : f_X12_goFar x1 S = some S1) : zMet zLM l yX12_goFar cX12_goFar 3 none 5 [.ref 0, .int x1] S none S1 := by
  unfold f_X12_goFar at h
  refine zMet.of (by decide +kernel) (Nat.le_of_ble_eq_true rfl) ?_
  show WA zLM l RX12 cX12_goFar 3 none 5 none S1 0 [(0, .ref 0), (1, .int x1)] [] S
  refine z_aload_n (pc := 0) (q := 0) dX12_goFar_0 rfl rfl ?_
  obtain ⟨T2, q1, h⟩ := zu_some h
  refine z_callVv (pc := 1) (st := []) [] dX12_goFar_1 zm_X12_462 zM_X12_load (by decide) oM_0 rfl (w_X12_load l q1) rfl rfl (Nat.le_of_ble_eq_true rfl) ?_
  refine z_iconst (pc := 4) (v := 0) dX12_goFar_4 zci_0 ?_
  refine z_istore_n (pc := 5) (lo' := [(2, .int 0), (0, .ref 0), (1, .int x1)]) dX12_goFar_5 rfl (by decide) rfl ?_
  exact z_sub [1, 2, 0] rfl (w_X12_goFar_L6 l zN x1 0 T2 h)
def f_X12_will (x1 : Int32) (x2 : Int32) (S : zS) : Option (Int32 × zS) :=
  zb (f_X12_isTopic x1 S) fun r3 T2 =>
  if r3 = 0 then
    some ((-1000), T2)
  else
    zb (f_X12_isIn x2 0 60 T2) fun r7 T6 =>
    if r7 = 0 then
      some ((-1000), T6)
    else
      zu (f_X12_goFar x2 T6) fun T10 =>
      zb (f_X12_lawOf x1 T10) fun r13 T12 =>
      some (r13, T12)
set_option maxRecDepth 100000 in
theorem w_X12_will (l : Launch) {x1 : Int32} {x2 : Int32} {S : zS} {r : Int32} {S1 : zS} (h : f_X12_will x1 x2 S = some (r, S1)) : zMet zLM l yX12_will cX12_will 3 (some .int) 6 [.ref 0, .int x1, .int x2] S (some (.int r)) S1 := by
  unfold f_X12_will at h
  refine zMet.of (by decide +kernel) (Nat.le_of_ble_eq_true rfl) ?_
  show WA zLM l RX12 cX12_will 3 (some .int) 6 (some (.int r)) S1 0 [(0, .ref 0), (1, .int x1), (2, .int x2)] [] S
  refine z_aload_n (pc := 0) (q := 0) dX12_will_0 rfl rfl ?_
  refine z_iload_n (pc := 1) (q := 1) dX12_will_1 rfl rfl ?_
  obtain ⟨r3, T2, q1, h⟩ := zb_some h
  refine z_callVi (pc := 2) (st := []) [.int x1] dX12_will_2 zm_X12_471 zM_X12_isTopic (by decide) oM_0 rfl (w_X12_isTopic l q1) rfl rfl (Nat.le_of_ble_eq_true rfl) ?_
  refine z_if_eq (pc := 5) (tgt := 18) dX12_will_5 (by decide) (fun c4 => ?_) (fun c4 => ?_)
  · have h := zt_some c4 h
    refine z_sipush (pc := 18) (v := (-1000)) dX12_will_18 zcs_m1000 ?_
    obtain ⟨rfl, rfl⟩ := zr_some h
    exact z_iret dX12_will_21
  · have h := ze_some c4 h
    refine z_iload_n (pc := 8) (q := 2) dX12_will_8 rfl rfl ?_
    refine z_iconst (pc := 9) (v := 0) dX12_will_9 zci_0 ?_
    refine z_bipush (pc := 10) (v := 60) dX12_will_10 zcb_60 ?_
    obtain ⟨r7, T6, q5, h⟩ := zb_some h
    refine z_callSi (pc := 12) (st := []) [.int x2, .int 0, .int 60] dX12_will_12 zm_X12_422 zM_X12_isIn (by decide) (w_X12_isIn l q5) rfl rfl (Nat.le_of_ble_eq_true rfl) ?_
    refine z_if_ne (pc := 15) (tgt := 22) dX12_will_15 (by decide) (fun c8 => ?_) (fun c8 => ?_)
    · have h := ze_some c8 h
      refine z_aload_n (pc := 22) (q := 0) dX12_will_22 rfl rfl ?_
      refine z_iload_n (pc := 23) (q := 2) dX12_will_23 rfl rfl ?_
      obtain ⟨T10, q9, h⟩ := zu_some h
      refine z_callVv (pc := 24) (st := []) [.int x2] dX12_will_24 zm_X12_512 zM_X12_goFar (by decide) oM_0 rfl (w_X12_goFar l q9) rfl rfl (Nat.le_of_ble_eq_true rfl) ?_
      refine z_aload_n (pc := 27) (q := 0) dX12_will_27 rfl rfl ?_
      refine z_iload_n (pc := 28) (q := 1) dX12_will_28 rfl rfl ?_
      obtain ⟨r13, T12, q11, h⟩ := zb_some h
      refine z_callVi (pc := 29) (st := []) [.int x1] dX12_will_29 zm_X12_474 zM_X12_lawOf (by decide) oM_0 rfl (w_X12_lawOf l q11) rfl rfl (Nat.le_of_ble_eq_true rfl) ?_
      obtain ⟨rfl, rfl⟩ := zr_some h
      exact z_iret dX12_will_32
    · have h := zt_some c8 h
      refine z_sipush (pc := 18) (v := (-1000)) dX12_will_18 zcs_m1000 ?_
      obtain ⟨rfl, rfl⟩ := zr_some h
      exact z_iret dX12_will_21
def f_X12_lapse_L18 : Nat → Int32 → Int32 → Int32 → zS → Option (Int32 × zS)
  | 0, _, _, _, _ => none
  | n + 1, x1, x2, x3, S =>
    if (60 : Int32) < x3 then
      some ((-1), S)
    else
      zb (f_X12_goYear S) fun r4 T3 =>
      zb (f_X12_lawOf x1 T3) fun r7 T6 =>
      if r7 = x2 then
        zlet (x3 + 1) fun v9 =>
        (f_X12_lapse_L18 n) x1 x2 v9 T6
      else
        some (x3, T6)
def f_X12_lapse (x1 : Int32) (S : zS) : Option (Int32 × zS) :=
  zb (f_X12_isTopic x1 S) fun r3 T2 =>
  if r3 = 0 then
    some ((-1), T2)
  else
    zb (f_X12_law x1 T2) fun r7 T6 =>
    f_X12_lapse_L18 zN x1 r7 1 T6
set_option maxRecDepth 100000 in
theorem w_X12_lapse_L18 (l : Launch) {r : Int32} {S1 : zS} : ∀ (n : Nat) (x1 : Int32) (x2 : Int32) (x3 : Int32) (S : zS), f_X12_lapse_L18 n x1 x2 x3 S = some (r, S1) → WA zLM l RX12 cX12_lapse 4 (some .int) 7 (some (.int r)) S1 18 [(0, .ref 0), (1, .int x1), (2, .int x2), (3, .int x3)] [] S := by
  intro n
  induction n with
  | zero =>
    intro x1 x2 x3 S h
    exact nomatch h
  | succ n ih =>
    intro x1 x2 x3 S h
    rw [f_X12_lapse_L18] at h
    refine z_iload_n (pc := 18) (q := 3) dX12_lapse_18 rfl rfl ?_
    refine z_bipush (pc := 19) (v := 60) dX12_lapse_19 zcb_60 ?_
    refine z_icmp_gt (pc := 21) (tgt := 46) dX12_lapse_21 (by decide) (fun c1 => ?_) (fun c1 => ?_)
    · have h := zt_some c1 h
      refine z_iconst (pc := 46) (v := (-1)) dX12_lapse_46 zci_m1 ?_
      obtain ⟨rfl, rfl⟩ := zr_some h
      exact z_iret dX12_lapse_47
    · have h := ze_some c1 h
      refine z_aload_n (pc := 24) (q := 0) dX12_lapse_24 rfl rfl ?_
      obtain ⟨r4, T3, q2, h⟩ := zb_some h
      refine z_callVi (pc := 25) (st := []) [] dX12_lapse_25 zm_X12_506 zM_X12_goYear (by decide) oM_0 rfl (w_X12_goYear l q2) rfl rfl (Nat.le_of_ble_eq_true rfl) ?_
      refine z_pop (pc := 28) dX12_lapse_28 rfl ?_
      refine z_aload_n (pc := 29) (q := 0) dX12_lapse_29 rfl rfl ?_
      refine z_iload_n (pc := 30) (q := 1) dX12_lapse_30 rfl rfl ?_
      obtain ⟨r7, T6, q5, h⟩ := zb_some h
      refine z_callVi (pc := 31) (st := []) [.int x1] dX12_lapse_31 zm_X12_474 zM_X12_lawOf (by decide) oM_0 rfl (w_X12_lawOf l q5) rfl rfl (Nat.le_of_ble_eq_true rfl) ?_
      refine z_iload_n (pc := 34) (q := 2) dX12_lapse_34 rfl rfl ?_
      refine z_icmp_eq (pc := 35) (tgt := 40) dX12_lapse_35 (by decide) (fun c8 => ?_) (fun c8 => ?_)
      · have h := zt_some c8 h
        obtain ⟨v9, ev9, h⟩ := zl_some h
        refine z_iinc (pc := 40) (q := 3) (v := v9) (lo' := [(3, .int v9), (0, .ref 0), (1, .int x1), (2, .int x2)]) dX12_lapse_40 rfl (by rw [ev9, zci_1]) (by decide) rfl ?_
        refine z_goto (pc := 43) (tgt := 18) dX12_lapse_43 (by decide) ?_
        exact z_sub [1, 2, 3, 0] rfl (ih x1 x2 v9 T6 h)
      · have h := ze_some c8 h
        refine z_iload_n (pc := 38) (q := 3) dX12_lapse_38 rfl rfl ?_
        obtain ⟨rfl, rfl⟩ := zr_some h
        exact z_iret dX12_lapse_39
set_option maxRecDepth 100000 in
theorem w_X12_lapse (l : Launch) {x1 : Int32} {S : zS} {r : Int32} {S1 : zS} (h : f_X12_lapse x1 S = some (r, S1)) : zMet zLM l yX12_lapse cX12_lapse 4 (some .int) 7 [.ref 0, .int x1] S (some (.int r)) S1 := by
  unfold f_X12_lapse at h
  refine zMet.of (by decide +kernel) (Nat.le_of_ble_eq_true rfl) ?_
  show WA zLM l RX12 cX12_lapse 4 (some .int) 7 (some (.int r)) S1 0 [(0, .ref 0), (1, .int x1)] [] S
  refine z_aload_n (pc := 0) (q := 0) dX12_lapse_0 rfl rfl ?_
  refine z_iload_n (pc := 1) (q := 1) dX12_lapse_1 rfl rfl ?_
  obtain ⟨r3, T2, q1, h⟩ := zb_some h
  refine z_callVi (pc := 2) (st := []) [.int x1] dX12_lapse_2 zm_X12_471 zM_X12_isTopic (by decide) oM_0 rfl (w_X12_isTopic l q1) rfl rfl (Nat.le_of_ble_eq_true rfl) ?_
  refine z_if_ne (pc := 5) (tgt := 10) dX12_lapse_5 (by decide) (fun c4 => ?_) (fun c4 => ?_)
  · have h := ze_some c4 h
    refine z_aload_n (pc := 10) (q := 0) dX12_lapse_10 rfl rfl ?_
    refine z_iload_n (pc := 11) (q := 1) dX12_lapse_11 rfl rfl ?_
    obtain ⟨r7, T6, q5, h⟩ := zb_some h
    refine z_callVi (pc := 12) (st := []) [.int x1] dX12_lapse_12 zm_X12_515 zM_X12_law (by decide) oM_0 rfl (w_X12_law l q5) rfl rfl (Nat.le_of_ble_eq_true rfl) ?_
    refine z_istore_n (pc := 15) (lo' := [(2, .int r7), (0, .ref 0), (1, .int x1)]) dX12_lapse_15 rfl (by decide) rfl ?_
    refine z_iconst (pc := 16) (v := 1) dX12_lapse_16 zci_1 ?_
    refine z_istore_n (pc := 17) (lo' := [(3, .int 1), (2, .int r7), (0, .ref 0), (1, .int x1)]) dX12_lapse_17 rfl (by decide) rfl ?_
    exact z_sub [2, 3, 1, 0] rfl (w_X12_lapse_L18 l zN x1 r7 1 T6 h)
  · have h := zt_some c4 h
    refine z_iconst (pc := 8) (v := (-1)) dX12_lapse_8 zci_m1 ?_
    obtain ⟨rfl, rfl⟩ := zr_some h
    exact z_iret dX12_lapse_9
def f_X12_dies_L16 : Nat → Int32 → Int32 → zS → Option (Int32 × zS)
  | 0, _, _, _ => none
  | n + 1, x1, x2, S =>
    if (60 : Int32) < x2 then
      some ((-1), S)
    else
      zb (f_X12_lives x1 S) fun r4 T3 =>
      if r4 = 0 then
        some (x2, T3)
      else
        zb (f_X12_goYear T3) fun r8 T7 =>
        zlet (x2 + 1) fun v9 =>
        (f_X12_dies_L16 n) x1 v9 T7
def f_X12_dies (x1 : Int32) (S : zS) : Option (Int32 × zS) :=
  zb (f_X12_isBill x1 S) fun r3 T2 =>
  if r3 = 0 then
    some ((-1), T2)
  else
    zu (f_X12_load T2) fun T6 =>
    f_X12_dies_L16 zN x1 0 T6
set_option maxRecDepth 100000 in
theorem w_X12_dies_L16 (l : Launch) {r : Int32} {S1 : zS} : ∀ (n : Nat) (x1 : Int32) (x2 : Int32) (S : zS), f_X12_dies_L16 n x1 x2 S = some (r, S1) → WA zLM l RX12 cX12_dies 3 (some .int) 5 (some (.int r)) S1 16 [(0, .ref 0), (1, .int x1), (2, .int x2)] [] S := by
  intro n
  induction n with
  | zero =>
    intro x1 x2 S h
    exact nomatch h
  | succ n ih =>
    intro x1 x2 S h
    rw [f_X12_dies_L16] at h
    refine z_iload_n (pc := 16) (q := 2) dX12_dies_16 rfl rfl ?_
    refine z_bipush (pc := 17) (v := 60) dX12_dies_17 zcb_60 ?_
    refine z_icmp_gt (pc := 19) (tgt := 43) dX12_dies_19 (by decide) (fun c1 => ?_) (fun c1 => ?_)
    · have h := zt_some c1 h
      refine z_iconst (pc := 43) (v := (-1)) dX12_dies_43 zci_m1 ?_
      obtain ⟨rfl, rfl⟩ := zr_some h
      exact z_iret dX12_dies_44
    · have h := ze_some c1 h
      refine z_aload_n (pc := 22) (q := 0) dX12_dies_22 rfl rfl ?_
      refine z_iload_n (pc := 23) (q := 1) dX12_dies_23 rfl rfl ?_
      obtain ⟨r4, T3, q2, h⟩ := zb_some h
      refine z_callVi (pc := 24) (st := []) [.int x1] dX12_dies_24 zm_X12_432 zM_X12_lives (by decide) oM_0 rfl (w_X12_lives l q2) rfl rfl (Nat.le_of_ble_eq_true rfl) ?_
      refine z_if_ne (pc := 27) (tgt := 32) dX12_dies_27 (by decide) (fun c5 => ?_) (fun c5 => ?_)
      · have h := ze_some c5 h
        refine z_aload_n (pc := 32) (q := 0) dX12_dies_32 rfl rfl ?_
        obtain ⟨r8, T7, q6, h⟩ := zb_some h
        refine z_callVi (pc := 33) (st := []) [] dX12_dies_33 zm_X12_506 zM_X12_goYear (by decide) oM_0 rfl (w_X12_goYear l q6) rfl rfl (Nat.le_of_ble_eq_true rfl) ?_
        refine z_pop (pc := 36) dX12_dies_36 rfl ?_
        obtain ⟨v9, ev9, h⟩ := zl_some h
        refine z_iinc (pc := 37) (q := 2) (v := v9) (lo' := [(2, .int v9), (0, .ref 0), (1, .int x1)]) dX12_dies_37 rfl (by rw [ev9, zci_1]) (by decide) rfl ?_
        refine z_goto (pc := 40) (tgt := 16) dX12_dies_40 (by decide) ?_
        exact z_sub [1, 2, 0] rfl (ih x1 v9 T7 h)
      · have h := zt_some c5 h
        refine z_iload_n (pc := 30) (q := 2) dX12_dies_30 rfl rfl ?_
        obtain ⟨rfl, rfl⟩ := zr_some h
        exact z_iret dX12_dies_31
set_option maxRecDepth 100000 in
theorem w_X12_dies (l : Launch) {x1 : Int32} {S : zS} {r : Int32} {S1 : zS} (h : f_X12_dies x1 S = some (r, S1)) : zMet zLM l yX12_dies cX12_dies 3 (some .int) 5 [.ref 0, .int x1] S (some (.int r)) S1 := by
  unfold f_X12_dies at h
  refine zMet.of (by decide +kernel) (Nat.le_of_ble_eq_true rfl) ?_
  show WA zLM l RX12 cX12_dies 3 (some .int) 5 (some (.int r)) S1 0 [(0, .ref 0), (1, .int x1)] [] S
  refine z_aload_n (pc := 0) (q := 0) dX12_dies_0 rfl rfl ?_
  refine z_iload_n (pc := 1) (q := 1) dX12_dies_1 rfl rfl ?_
  obtain ⟨r3, T2, q1, h⟩ := zb_some h
  refine z_callVi (pc := 2) (st := []) [.int x1] dX12_dies_2 zm_X12_459 zM_X12_isBill (by decide) oM_0 rfl (w_X12_isBill l q1) rfl rfl (Nat.le_of_ble_eq_true rfl) ?_
  refine z_if_ne (pc := 5) (tgt := 10) dX12_dies_5 (by decide) (fun c4 => ?_) (fun c4 => ?_)
  · have h := ze_some c4 h
    refine z_aload_n (pc := 10) (q := 0) dX12_dies_10 rfl rfl ?_
    obtain ⟨T6, q5, h⟩ := zu_some h
    refine z_callVv (pc := 11) (st := []) [] dX12_dies_11 zm_X12_462 zM_X12_load (by decide) oM_0 rfl (w_X12_load l q5) rfl rfl (Nat.le_of_ble_eq_true rfl) ?_
    refine z_iconst (pc := 14) (v := 0) dX12_dies_14 zci_0 ?_
    refine z_istore_n (pc := 15) (lo' := [(2, .int 0), (0, .ref 0), (1, .int x1)]) dX12_dies_15 rfl (by decide) rfl ?_
    exact z_sub [1, 2, 0] rfl (w_X12_dies_L16 l zN x1 0 T6 h)
  · have h := zt_some c4 h
    refine z_iconst (pc := 8) (v := (-1)) dX12_dies_8 zci_m1 ?_
    obtain ⟨rfl, rfl⟩ := zr_some h
    exact z_iret dX12_dies_9
def f_X12_living (x1 : Int32) (S : zS) : Option (Int32 × zS) :=
  zb (f_X12_isIn x1 0 60 S) fun r3 T2 =>
  if r3 = 0 then
    some ((-1), T2)
  else
    zu (f_X12_goFar x1 T2) fun T6 =>
    zb (f_X12_livingSet T6) fun r9 T8 =>
    some (r9, T8)
set_option maxRecDepth 100000 in
theorem w_X12_living (l : Launch) {x1 : Int32} {S : zS} {r : Int32} {S1 : zS} (h : f_X12_living x1 S = some (r, S1)) : zMet zLM l yX12_living cX12_living 2 (some .int) 6 [.ref 0, .int x1] S (some (.int r)) S1 := by
  unfold f_X12_living at h
  refine zMet.of (by decide +kernel) (Nat.le_of_ble_eq_true rfl) ?_
  show WA zLM l RX12 cX12_living 2 (some .int) 6 (some (.int r)) S1 0 [(0, .ref 0), (1, .int x1)] [] S
  refine z_iload_n (pc := 0) (q := 1) dX12_living_0 rfl rfl ?_
  refine z_iconst (pc := 1) (v := 0) dX12_living_1 zci_0 ?_
  refine z_bipush (pc := 2) (v := 60) dX12_living_2 zcb_60 ?_
  obtain ⟨r3, T2, q1, h⟩ := zb_some h
  refine z_callSi (pc := 4) (st := []) [.int x1, .int 0, .int 60] dX12_living_4 zm_X12_422 zM_X12_isIn (by decide) (w_X12_isIn l q1) rfl rfl (Nat.le_of_ble_eq_true rfl) ?_
  refine z_if_ne (pc := 7) (tgt := 12) dX12_living_7 (by decide) (fun c4 => ?_) (fun c4 => ?_)
  · have h := ze_some c4 h
    refine z_aload_n (pc := 12) (q := 0) dX12_living_12 rfl rfl ?_
    refine z_iload_n (pc := 13) (q := 1) dX12_living_13 rfl rfl ?_
    obtain ⟨T6, q5, h⟩ := zu_some h
    refine z_callVv (pc := 14) (st := []) [.int x1] dX12_living_14 zm_X12_512 zM_X12_goFar (by decide) oM_0 rfl (w_X12_goFar l q5) rfl rfl (Nat.le_of_ble_eq_true rfl) ?_
    refine z_aload_n (pc := 17) (q := 0) dX12_living_17 rfl rfl ?_
    obtain ⟨r9, T8, q7, h⟩ := zb_some h
    refine z_callVi (pc := 18) (st := []) [] dX12_living_18 zm_X12_435 zM_X12_livingSet (by decide) oM_0 rfl (w_X12_livingSet l q7) rfl rfl (Nat.le_of_ble_eq_true rfl) ?_
    obtain ⟨rfl, rfl⟩ := zr_some h
    exact z_iret dX12_living_21
  · have h := zt_some c4 h
    refine z_iconst (pc := 10) (v := (-1)) dX12_living_10 zci_m1 ?_
    obtain ⟨rfl, rfl⟩ := zr_some h
    exact z_iret dX12_living_11
def f_X12_isPlain (x1 : Int32) (x2 : Int32) (S : zS) : Option (Int32 × zS) :=
  if ((x1 >>> (x2 &&& 31)) &&& 1) = 1 then
    zb (f_X12_of x2 6 S) fun r4 T3 =>
    if r4 < 0 then
      zb (f_X12_of x2 4 T3) fun r8 T7 =>
      if r8 < 0 then
        some (0, T7)
      else
        some (1, T7)
    else
      some (0, T3)
  else
    some (0, S)
set_option maxRecDepth 100000 in
theorem w_X12_isPlain (l : Launch) {x1 : Int32} {x2 : Int32} {S : zS} {r : Int32} {S1 : zS} (h : f_X12_isPlain x1 x2 S = some (r, S1)) : zMet zLM l yX12_isPlain cX12_isPlain 3 (some .boolean) 2 [.ref 0, .int x1, .int x2] S (some (.int r)) S1 := by
  unfold f_X12_isPlain at h
  refine zMet.of (by decide +kernel) (Nat.le_of_ble_eq_true rfl) ?_
  show WA zLM l RX12 cX12_isPlain 3 (some .boolean) 2 (some (.int r)) S1 0 [(0, .ref 0), (1, .int x1), (2, .int x2)] [] S
  refine z_iload_n (pc := 0) (q := 1) dX12_isPlain_0 rfl rfl ?_
  refine z_iload_n (pc := 1) (q := 2) dX12_isPlain_1 rfl rfl ?_
  refine z_ishr (pc := 2) dX12_isPlain_2 ?_
  refine z_iconst (pc := 3) (v := 1) dX12_isPlain_3 zci_1 ?_
  refine z_iand (pc := 4) dX12_isPlain_4 ?_
  refine z_iconst (pc := 5) (v := 1) dX12_isPlain_5 zci_1 ?_
  refine z_icmp_ne (pc := 6) (tgt := 32) dX12_isPlain_6 (by decide) (fun c1 => ?_) (fun c1 => ?_)
  · have h := ze_some c1 h
    refine z_iconst (pc := 32) (v := 0) dX12_isPlain_32 zci_0 ?_
    obtain ⟨rfl, rfl⟩ := zr_some h
    exact z_zret dX12_isPlain_33 rfl
  · have h := zt_some c1 h
    refine z_aload_n (pc := 9) (q := 0) dX12_isPlain_9 rfl rfl ?_
    refine z_iload_n (pc := 10) (q := 2) dX12_isPlain_10 rfl rfl ?_
    refine z_bipush (pc := 11) (v := 6) dX12_isPlain_11 zcb_6 ?_
    obtain ⟨r4, T3, q2, h⟩ := zb_some h
    refine z_callVi (pc := 13) (st := []) [.int x2, .int 6] dX12_isPlain_13 zm_X12_426 zM_X12_of (by decide) oM_0 rfl (w_X12_of l q2) rfl rfl (Nat.le_of_ble_eq_true rfl) ?_
    refine z_if_ge (pc := 16) (tgt := 32) dX12_isPlain_16 (by decide) (fun c5 => ?_) (fun c5 => ?_)
    · have h := ze_some c5 h
      refine z_iconst (pc := 32) (v := 0) dX12_isPlain_32 zci_0 ?_
      obtain ⟨rfl, rfl⟩ := zr_some h
      exact z_zret dX12_isPlain_33 rfl
    · have h := zt_some c5 h
      refine z_aload_n (pc := 19) (q := 0) dX12_isPlain_19 rfl rfl ?_
      refine z_iload_n (pc := 20) (q := 2) dX12_isPlain_20 rfl rfl ?_
      refine z_iconst (pc := 21) (v := 4) dX12_isPlain_21 zci_4 ?_
      obtain ⟨r8, T7, q6, h⟩ := zb_some h
      refine z_callVi (pc := 22) (st := []) [.int x2, .int 4] dX12_isPlain_22 zm_X12_426 zM_X12_of (by decide) oM_0 rfl (w_X12_of l q6) rfl rfl (Nat.le_of_ble_eq_true rfl) ?_
      refine z_if_lt (pc := 25) (tgt := 32) dX12_isPlain_25 (by decide) (fun c9 => ?_) (fun c9 => ?_)
      · have h := zt_some c9 h
        refine z_iconst (pc := 32) (v := 0) dX12_isPlain_32 zci_0 ?_
        obtain ⟨rfl, rfl⟩ := zr_some h
        exact z_zret dX12_isPlain_33 rfl
      · have h := ze_some c9 h
        refine z_iconst (pc := 28) (v := 1) dX12_isPlain_28 zci_1 ?_
        refine z_goto (pc := 29) (tgt := 33) dX12_isPlain_29 (by decide) ?_
        obtain ⟨rfl, rfl⟩ := zr_some h
        exact z_zret dX12_isPlain_33 rfl
