def f_X11_closes_B55 (K26 : Int32 → Int32 → Int32 → Int32 → Int32 → zS → Option (Int32 × zS)) (x1 : Int32) (x2 : Int32) (x3 : Int32) (x5 : Int32) (s0 : Int32) (S : zS) : Option (Int32 × zS) :=
  if s0 = x1 then
    zlet (x3 + 1) fun v2 =>
    zlet (x5 + 1) fun v3 =>
    K26 x1 x2 v2 0 v3 S
  else
    zlet (x5 + 1) fun v2 =>
    K26 x1 x2 x3 s0 v2 S
def f_X11_closes_L26 : Nat → Int32 → Int32 → Int32 → Int32 → Int32 → zS → Option (Int32 × zS)
  | 0, _, _, _, _, _, _ => none
  | n + 1, x1, x2, x3, x4, x5, S =>
    if x5 < (S.1 5 0) then
      if ((x2 >>> (x5 &&& 31)) &&& 1) = 0 then
        f_X11_closes_B55 (f_X11_closes_L26 n) x1 x2 x3 x5 0 S
      else
        f_X11_closes_B55 (f_X11_closes_L26 n) x1 x2 x3 x5 (x4 + 1) S
    else
      some (x3, S)
def f_X11_closes (x1 : Int32) (S : zS) : Option (Int32 × zS) :=
  if x1 < 1 then
    some ((-1), S)
  else
    if (12 : Int32) < x1 then
      some ((-1), S)
    else
      zb (f_X11_gaps S) fun r5 T4 =>
      f_X11_closes_L26 zN x1 r5 0 0 0 T4
set_option maxRecDepth 100000 in
theorem w_X11_closes_B55 (l : Launch) {r : Int32} {S1 : zS} (K26 : Int32 → Int32 → Int32 → Int32 → Int32 → zS → Option (Int32 × zS)) (hK26 : ∀ (x1 : Int32) (x2 : Int32) (x3 : Int32) (x4 : Int32) (x5 : Int32) (S : zS), K26 x1 x2 x3 x4 x5 S = some (r, S1) → WA zLX l RX11 cX11_closes 6 (some .int) 3 (some (.int r)) S1 26 [(0, .ref 0), (1, .int x1), (2, .int x2), (3, .int x3), (4, .int x4), (5, .int x5)] [] S) (x1 : Int32) (x2 : Int32) (x3 : Int32) (x5 : Int32) (s0 : Int32) (S : zS) (h : f_X11_closes_B55 K26 x1 x2 x3 x5 s0 S = some (r, S1)) : WA zLX l RX11 cX11_closes 6 (some .int) 3 (some (.int r)) S1 55 [(0, .ref 0), (1, .int x1), (2, .int x2), (3, .int x3), (5, .int x5)] [.int s0] S := by
  unfold f_X11_closes_B55 at h
  refine z_istore (pc := 55) (lo' := [(4, .int s0), (0, .ref 0), (1, .int x1), (2, .int x2), (3, .int x3), (5, .int x5)]) dX11_closes_55 (by decide) rfl ?_
  refine z_iload (pc := 57) (q := 0) dX11_closes_57 rfl ?_
  refine z_iload_n (pc := 59) (q := 2) dX11_closes_59 rfl rfl ?_
  refine z_icmp_ne (pc := 60) (tgt := 69) dX11_closes_60 (by decide) (fun c1 => ?_) (fun c1 => ?_)
  · have h := ze_some c1 h
    obtain ⟨v2, ev2, h⟩ := zl_some h
    refine z_iinc (pc := 69) (q := 5) (v := v2) (lo' := [(5, .int v2), (4, .int s0), (0, .ref 0), (1, .int x1), (2, .int x2), (3, .int x3)]) dX11_closes_69 rfl (by rw [ev2, zci_1]) (by decide) rfl ?_
    refine z_goto (pc := 72) (tgt := 26) dX11_closes_72 (by decide) ?_
    exact z_sub [2, 3, 4, 5, 1, 0] rfl (hK26 x1 x2 x3 s0 v2 S h)
  · have h := zt_some c1 h
    obtain ⟨v2, ev2, h⟩ := zl_some h
    refine z_iinc (pc := 63) (q := 4) (v := v2) (lo' := [(3, .int v2), (4, .int s0), (0, .ref 0), (1, .int x1), (2, .int x2), (5, .int x5)]) dX11_closes_63 rfl (by rw [ev2, zci_1]) (by decide) rfl ?_
    refine z_iconst (pc := 66) (v := 0) dX11_closes_66 zci_0 ?_
    refine z_istore (pc := 67) (lo' := [(4, .int 0), (3, .int v2), (0, .ref 0), (1, .int x1), (2, .int x2), (5, .int x5)]) dX11_closes_67 (by decide) rfl ?_
    obtain ⟨v3, ev3, h⟩ := zl_some h
    refine z_iinc (pc := 69) (q := 5) (v := v3) (lo' := [(5, .int v3), (4, .int 0), (3, .int v2), (0, .ref 0), (1, .int x1), (2, .int x2)]) dX11_closes_69 rfl (by rw [ev3, zci_1]) (by decide) rfl ?_
    refine z_goto (pc := 72) (tgt := 26) dX11_closes_72 (by decide) ?_
    exact z_sub [3, 4, 5, 2, 1, 0] rfl (hK26 x1 x2 v2 0 v3 S h)
set_option maxRecDepth 100000 in
theorem w_X11_closes_L26 (l : Launch) {r : Int32} {S1 : zS} : ∀ (n : Nat) (x1 : Int32) (x2 : Int32) (x3 : Int32) (x4 : Int32) (x5 : Int32) (S : zS), f_X11_closes_L26 n x1 x2 x3 x4 x5 S = some (r, S1) → WA zLX l RX11 cX11_closes 6 (some .int) 3 (some (.int r)) S1 26 [(0, .ref 0), (1, .int x1), (2, .int x2), (3, .int x3), (4, .int x4), (5, .int x5)] [] S := by
  intro n
  induction n with
  | zero =>
    intro x1 x2 x3 x4 x5 S h
    exact nomatch h
  | succ n ih =>
    intro x1 x2 x3 x4 x5 S h
    rw [f_X11_closes_L26] at h
    refine z_iload (pc := 26) (q := 5) dX11_closes_26 rfl ?_
    refine z_aload_n (pc := 28) (q := 0) dX11_closes_28 rfl rfl ?_
    refine z_getR (pc := 29) dX11_closes_29 zf_X11_25 gX_0_3 ?_
    refine z_getI (pc := 32) dX11_closes_32 zf_X11_254 gX_5_0 ?_
    refine z_icmp_ge (pc := 35) (tgt := 75) dX11_closes_35 (by decide) (fun c1 => ?_) (fun c1 => ?_)
    · have h := ze_some c1 h
      refine z_iload_n (pc := 75) (q := 3) dX11_closes_75 rfl rfl ?_
      obtain ⟨rfl, rfl⟩ := zr_some h
      exact z_iret dX11_closes_76
    · have h := zt_some c1 h
      refine z_iload_n (pc := 38) (q := 2) dX11_closes_38 rfl rfl ?_
      refine z_iload (pc := 39) (q := 5) dX11_closes_39 rfl ?_
      refine z_ishr (pc := 41) dX11_closes_41 ?_
      refine z_iconst (pc := 42) (v := 1) dX11_closes_42 zci_1 ?_
      refine z_iand (pc := 43) dX11_closes_43 ?_
      refine z_if_ne (pc := 44) (tgt := 51) dX11_closes_44 (by decide) (fun c2 => ?_) (fun c2 => ?_)
      · have h := ze_some c2 h
        refine z_iload (pc := 51) (q := 4) dX11_closes_51 rfl ?_
        refine z_iconst (pc := 53) (v := 1) dX11_closes_53 zci_1 ?_
        refine z_iadd (pc := 54) dX11_closes_54 ?_
        exact z_sub [0, 1, 2, 3, 5] rfl (w_X11_closes_B55 l (f_X11_closes_L26 n) ih x1 x2 x3 x5 (x4 + 1) S h)
      · have h := zt_some c2 h
        refine z_iconst (pc := 47) (v := 0) dX11_closes_47 zci_0 ?_
        refine z_goto (pc := 48) (tgt := 55) dX11_closes_48 (by decide) ?_
        exact z_sub [0, 1, 2, 3, 5] rfl (w_X11_closes_B55 l (f_X11_closes_L26 n) ih x1 x2 x3 x5 0 S h)
set_option maxRecDepth 100000 in
theorem w_X11_closes (l : Launch) {x1 : Int32} {S : zS} {r : Int32} {S1 : zS} (h : f_X11_closes x1 S = some (r, S1)) : zMet zLX l yX11_closes cX11_closes 6 (some .int) 3 [.ref 0, .int x1] S (some (.int r)) S1 := by
  unfold f_X11_closes at h
  refine zMet.of (by decide +kernel) (Nat.le_of_ble_eq_true rfl) ?_
  show WA zLX l RX11 cX11_closes 6 (some .int) 3 (some (.int r)) S1 0 [(0, .ref 0), (1, .int x1)] [] S
  refine z_iload_n (pc := 0) (q := 1) dX11_closes_0 rfl rfl ?_
  refine z_iconst (pc := 1) (v := 1) dX11_closes_1 zci_1 ?_
  refine z_icmp_lt (pc := 2) (tgt := 11) dX11_closes_2 (by decide) (fun c1 => ?_) (fun c1 => ?_)
  · have h := zt_some c1 h
    refine z_iconst (pc := 11) (v := (-1)) dX11_closes_11 zci_m1 ?_
    obtain ⟨rfl, rfl⟩ := zr_some h
    exact z_iret dX11_closes_12
  · have h := ze_some c1 h
    refine z_iload_n (pc := 5) (q := 1) dX11_closes_5 rfl rfl ?_
    refine z_bipush (pc := 6) (v := 12) dX11_closes_6 zcb_12 ?_
    refine z_icmp_le (pc := 8) (tgt := 13) dX11_closes_8 (by decide) (fun c2 => ?_) (fun c2 => ?_)
    · have h := ze_some c2 h
      refine z_aload_n (pc := 13) (q := 0) dX11_closes_13 rfl rfl ?_
      obtain ⟨r5, T4, q3, h⟩ := zb_some h
      refine z_callVi (pc := 14) (st := []) [] dX11_closes_14 zm_X11_261 zM_X11_gaps (by decide) oX_0 rfl (w_X11_gaps l q3) rfl rfl (Nat.le_of_ble_eq_true rfl) ?_
      refine z_istore_n (pc := 17) (lo' := [(2, .int r5), (0, .ref 0), (1, .int x1)]) dX11_closes_17 rfl (by decide) rfl ?_
      refine z_iconst (pc := 18) (v := 0) dX11_closes_18 zci_0 ?_
      refine z_istore_n (pc := 19) (lo' := [(3, .int 0), (2, .int r5), (0, .ref 0), (1, .int x1)]) dX11_closes_19 rfl (by decide) rfl ?_
      refine z_iconst (pc := 20) (v := 0) dX11_closes_20 zci_0 ?_
      refine z_istore (pc := 21) (lo' := [(4, .int 0), (3, .int 0), (2, .int r5), (0, .ref 0), (1, .int x1)]) dX11_closes_21 (by decide) rfl ?_
      refine z_iconst (pc := 23) (v := 0) dX11_closes_23 zci_0 ?_
      refine z_istore (pc := 24) (lo' := [(5, .int 0), (4, .int 0), (3, .int 0), (2, .int r5), (0, .ref 0), (1, .int x1)]) dX11_closes_24 (by decide) rfl ?_
      exact z_sub [4, 5, 3, 2, 1, 0] rfl (w_X11_closes_L26 l zN x1 r5 0 0 0 T4 h)
    · have h := zt_some c2 h
      refine z_iconst (pc := 11) (v := (-1)) dX11_closes_11 zci_m1 ?_
      obtain ⟨rfl, rfl⟩ := zr_some h
      exact z_iret dX11_closes_12
def f_X11_walk_L36 : Nat → Int32 → Int32 → Int32 → Int32 → Int32 → zS → Option (Int32 × zS)
  | 0, _, _, _, _, _, _ => none
  | n + 1, x1, x2, x3, x4, x5, S =>
    if x5 < (S.1 5 0) then
      if ((x2 >>> (x5 &&& 31)) &&& 1) = 0 then
        zlet (x5 + 1) fun v3 =>
        (f_X11_walk_L36 n) x1 x2 x3 x4 v3 S
      else
        zlet (zmin x3 x5) fun v3 =>
        zlet (zmax x4 x5) fun v4 =>
        zlet (x5 + 1) fun v5 =>
        (f_X11_walk_L36 n) x1 x2 v3 v4 v5 S
    else
      some ((x4 - x3) + (zmin (x1 - x3) (x4 - x1)), S)
def f_X11_walk (x1 : Int32) (x2 : Int32) (S : zS) : Option (Int32 × zS) :=
  zb (f_X11_isStake x1 S) fun r3 T2 =>
  if r3 = 0 then
    some ((-1), T2)
  else
    if (x2 &&& (((1 <<< ((T2.1 5 0) &&& 31)) - 1) ^^^ (-1))) = 0 then
      f_X11_walk_L36 zN x1 x2 x1 x1 0 T2
    else
      some ((-1), T2)
set_option maxRecDepth 100000 in
theorem w_X11_walk_L36 (l : Launch) {r : Int32} {S1 : zS} : ∀ (n : Nat) (x1 : Int32) (x2 : Int32) (x3 : Int32) (x4 : Int32) (x5 : Int32) (S : zS), f_X11_walk_L36 n x1 x2 x3 x4 x5 S = some (r, S1) → WA zLX l RX11 cX11_walk 6 (some .int) 2 (some (.int r)) S1 36 [(0, .ref 0), (1, .int x1), (2, .int x2), (3, .int x3), (4, .int x4), (5, .int x5)] [] S := by
  intro n
  induction n with
  | zero =>
    intro x1 x2 x3 x4 x5 S h
    exact nomatch h
  | succ n ih =>
    intro x1 x2 x3 x4 x5 S h
    rw [f_X11_walk_L36] at h
    refine z_iload (pc := 36) (q := 5) dX11_walk_36 rfl ?_
    refine z_aload_n (pc := 38) (q := 0) dX11_walk_38 rfl rfl ?_
    refine z_getR (pc := 39) dX11_walk_39 zf_X11_25 gX_0_3 ?_
    refine z_getI (pc := 42) dX11_walk_42 zf_X11_254 gX_5_0 ?_
    refine z_icmp_ge (pc := 45) (tgt := 79) dX11_walk_45 (by decide) (fun c1 => ?_) (fun c1 => ?_)
    · have h := ze_some c1 h
      refine z_iload (pc := 79) (q := 4) dX11_walk_79 rfl ?_
      refine z_iload_n (pc := 81) (q := 3) dX11_walk_81 rfl rfl ?_
      refine z_isub (pc := 82) dX11_walk_82 ?_
      refine z_iload_n (pc := 83) (q := 1) dX11_walk_83 rfl rfl ?_
      refine z_iload_n (pc := 84) (q := 3) dX11_walk_84 rfl rfl ?_
      refine z_isub (pc := 85) dX11_walk_85 ?_
      refine z_iload (pc := 86) (q := 4) dX11_walk_86 rfl ?_
      refine z_iload_n (pc := 88) (q := 1) dX11_walk_88 rfl rfl ?_
      refine z_isub (pc := 89) dX11_walk_89 ?_
      refine z_min (pc := 90) dX11_walk_90 zm_X11_269 zM_min.1 zM_min.2.1 zM_min.2.2 (by decide) (Nat.le_of_ble_eq_true rfl) ?_
      refine z_iadd (pc := 93) dX11_walk_93 ?_
      obtain ⟨rfl, rfl⟩ := zr_some h
      exact z_iret dX11_walk_94
    · have h := zt_some c1 h
      refine z_iload_n (pc := 48) (q := 2) dX11_walk_48 rfl rfl ?_
      refine z_iload (pc := 49) (q := 5) dX11_walk_49 rfl ?_
      refine z_ishr (pc := 51) dX11_walk_51 ?_
      refine z_iconst (pc := 52) (v := 1) dX11_walk_52 zci_1 ?_
      refine z_iand (pc := 53) dX11_walk_53 ?_
      refine z_if_eq (pc := 54) (tgt := 73) dX11_walk_54 (by decide) (fun c2 => ?_) (fun c2 => ?_)
      · have h := zt_some c2 h
        obtain ⟨v3, ev3, h⟩ := zl_some h
        refine z_iinc (pc := 73) (q := 5) (v := v3) (lo' := [(5, .int v3), (0, .ref 0), (1, .int x1), (2, .int x2), (3, .int x3), (4, .int x4)]) dX11_walk_73 rfl (by rw [ev3, zci_1]) (by decide) rfl ?_
        refine z_goto (pc := 76) (tgt := 36) dX11_walk_76 (by decide) ?_
        exact z_sub [1, 2, 3, 4, 5, 0] rfl (ih x1 x2 x3 x4 v3 S h)
      · have h := ze_some c2 h
        refine z_iload_n (pc := 57) (q := 3) dX11_walk_57 rfl rfl ?_
        refine z_iload (pc := 58) (q := 5) dX11_walk_58 rfl ?_
        refine z_min (pc := 60) dX11_walk_60 zm_X11_269 zM_min.1 zM_min.2.1 zM_min.2.2 (by decide) (Nat.le_of_ble_eq_true rfl) ?_
        obtain ⟨v3, ev3, h⟩ := zl_some h
        refine z_top ev3 ?_
        refine z_istore_n (pc := 63) (lo' := [(3, .int v3), (0, .ref 0), (1, .int x1), (2, .int x2), (4, .int x4), (5, .int x5)]) dX11_walk_63 rfl (by decide) rfl ?_
        refine z_iload (pc := 64) (q := 4) dX11_walk_64 rfl ?_
        refine z_iload (pc := 66) (q := 5) dX11_walk_66 rfl ?_
        refine z_max (pc := 68) dX11_walk_68 zm_X11_264 zM_max.1 zM_max.2.1 zM_max.2.2 (by decide) (Nat.le_of_ble_eq_true rfl) ?_
        obtain ⟨v4, ev4, h⟩ := zl_some h
        refine z_top ev4 ?_
        refine z_istore (pc := 71) (lo' := [(4, .int v4), (3, .int v3), (0, .ref 0), (1, .int x1), (2, .int x2), (5, .int x5)]) dX11_walk_71 (by decide) rfl ?_
        obtain ⟨v5, ev5, h⟩ := zl_some h
        refine z_iinc (pc := 73) (q := 5) (v := v5) (lo' := [(5, .int v5), (4, .int v4), (3, .int v3), (0, .ref 0), (1, .int x1), (2, .int x2)]) dX11_walk_73 rfl (by rw [ev5, zci_1]) (by decide) rfl ?_
        refine z_goto (pc := 76) (tgt := 36) dX11_walk_76 (by decide) ?_
        exact z_sub [3, 4, 5, 2, 1, 0] rfl (ih x1 x2 v3 v4 v5 S h)
set_option maxRecDepth 100000 in
theorem w_X11_walk (l : Launch) {x1 : Int32} {x2 : Int32} {S : zS} {r : Int32} {S1 : zS} (h : f_X11_walk x1 x2 S = some (r, S1)) : zMet zLX l yX11_walk cX11_walk 6 (some .int) 2 [.ref 0, .int x1, .int x2] S (some (.int r)) S1 := by
  unfold f_X11_walk at h
  refine zMet.of (by decide +kernel) (Nat.le_of_ble_eq_true rfl) ?_
  show WA zLX l RX11 cX11_walk 6 (some .int) 2 (some (.int r)) S1 0 [(0, .ref 0), (1, .int x1), (2, .int x2)] [] S
  refine z_aload_n (pc := 0) (q := 0) dX11_walk_0 rfl rfl ?_
  refine z_iload_n (pc := 1) (q := 1) dX11_walk_1 rfl rfl ?_
  obtain ⟨r3, T2, q1, h⟩ := zb_some h
  refine z_callVi (pc := 2) (st := []) [.int x1] dX11_walk_2 zm_X11_172 zM_X11_isStake (by decide) oX_0 rfl (w_X11_isStake l q1) rfl rfl (Nat.le_of_ble_eq_true rfl) ?_
  refine z_if_eq (pc := 5) (tgt := 26) dX11_walk_5 (by decide) (fun c4 => ?_) (fun c4 => ?_)
  · have h := zt_some c4 h
    refine z_iconst (pc := 26) (v := (-1)) dX11_walk_26 zci_m1 ?_
    obtain ⟨rfl, rfl⟩ := zr_some h
    exact z_iret dX11_walk_27
  · have h := ze_some c4 h
    refine z_iload_n (pc := 8) (q := 2) dX11_walk_8 rfl rfl ?_
    refine z_iconst (pc := 9) (v := 1) dX11_walk_9 zci_1 ?_
    refine z_aload_n (pc := 10) (q := 0) dX11_walk_10 rfl rfl ?_
    refine z_getR (pc := 11) dX11_walk_11 zf_X11_25 gX_0_3 ?_
    refine z_getI (pc := 14) dX11_walk_14 zf_X11_254 gX_5_0 ?_
    refine z_ishl (pc := 17) dX11_walk_17 ?_
    refine z_iconst (pc := 18) (v := 1) dX11_walk_18 zci_1 ?_
    refine z_isub (pc := 19) dX11_walk_19 ?_
    refine z_iconst (pc := 20) (v := (-1)) dX11_walk_20 zci_m1 ?_
    refine z_ixor (pc := 21) dX11_walk_21 ?_
    refine z_iand (pc := 22) dX11_walk_22 ?_
    refine z_if_eq (pc := 23) (tgt := 28) dX11_walk_23 (by decide) (fun c5 => ?_) (fun c5 => ?_)
    · have h := zt_some c5 h
      refine z_iload_n (pc := 28) (q := 1) dX11_walk_28 rfl rfl ?_
      refine z_istore_n (pc := 29) (lo' := [(3, .int x1), (0, .ref 0), (1, .int x1), (2, .int x2)]) dX11_walk_29 rfl (by decide) rfl ?_
      refine z_iload_n (pc := 30) (q := 2) dX11_walk_30 rfl rfl ?_
      refine z_istore (pc := 31) (lo' := [(4, .int x1), (3, .int x1), (0, .ref 0), (1, .int x1), (2, .int x2)]) dX11_walk_31 (by decide) rfl ?_
      refine z_iconst (pc := 33) (v := 0) dX11_walk_33 zci_0 ?_
      refine z_istore (pc := 34) (lo' := [(5, .int 0), (4, .int x1), (3, .int x1), (0, .ref 0), (1, .int x1), (2, .int x2)]) dX11_walk_34 (by decide) rfl ?_
      exact z_sub [3, 4, 5, 2, 1, 0] rfl (w_X11_walk_L36 l zN x1 x2 x1 x1 0 T2 h)
    · have h := ze_some c5 h
      refine z_iconst (pc := 26) (v := (-1)) dX11_walk_26 zci_m1 ?_
      obtain ⟨rfl, rfl⟩ := zr_some h
      exact z_iret dX11_walk_27
def f_X3_store_37_59 (x2 : Int32) (S : zS) : Option zS :=
  if x2 < 0 then
    some S
  else
    if (108 : Int32) < (x2 + 27) then
      some S
    else
      if zin x2 108 then
      zlet (zput S 59 x2.toNatClampNeg (S.1 37 0)) fun T4 =>
      if zin (x2 + 1) 108 then
      zlet (zput T4 59 (x2 + 1).toNatClampNeg (T4.1 37 1)) fun T6 =>
      if zin (x2 + 2) 108 then
      zlet (zput T6 59 (x2 + 2).toNatClampNeg (T6.1 37 2)) fun T8 =>
      if zcinB 0 (x2 + 3) 12 12 108 then
      zlet (zcpy T8 38 59 (Int32.toNatClampNeg 0) (x2 + 3).toNatClampNeg (Int32.toNatClampNeg 12)) fun T10 =>
      if zcinB 0 ((x2 + 3) + 12) 12 12 108 then
      zlet (zcpy T10 39 59 (Int32.toNatClampNeg 0) ((x2 + 3) + 12).toNatClampNeg (Int32.toNatClampNeg 12)) fun T12 =>
      some T12 else none else none else none else none else none
set_option maxRecDepth 100000 in
theorem w_X3_store_37_59 (l : Launch) {x2 : Int32} {S : zS} {S1 : zS} (h : f_X3_store_37_59 x2 S = some S1) : zMet zLX l yX3_store cX3_store 3 none 1 [.ref 37, .ref 59, .int x2] S none S1 := by
  unfold f_X3_store_37_59 at h
  refine zMet.of (by decide +kernel) (Nat.le_of_ble_eq_true rfl) ?_
  show WA zLX l RX3 cX3_store 3 none 1 none S1 0 [(0, .ref 37), (1, .ref 59), (2, .int x2)] [] S
  refine z_iload_n (pc := 0) (q := 2) dX3_store_0 rfl rfl ?_
  refine z_if_lt (pc := 1) (tgt := 69) dX3_store_1 (by decide) (fun c1 => ?_) (fun c1 => ?_)
  · have h := zt_some c1 h
    cases h
    exact z_vret dX3_store_69
  · have h := ze_some c1 h
    refine z_iload_n (pc := 4) (q := 2) dX3_store_4 rfl rfl ?_
    refine z_bipush (pc := 5) (v := 27) dX3_store_5 zcb_27 ?_
    refine z_iadd (pc := 7) dX3_store_7 ?_
    refine z_aload_n (pc := 8) (q := 1) dX3_store_8 rfl rfl ?_
    refine z_alen (pc := 9) (v := 108) dX3_store_9 aX_59 (by decide) (by decide) ?_
    refine z_icmp_gt (pc := 10) (tgt := 69) dX3_store_10 (by decide) (fun c2 => ?_) (fun c2 => ?_)
    · have h := zt_some c2 h
      cases h
      exact z_vret dX3_store_69
    · have h := ze_some c2 h
      refine z_aload_n (pc := 13) (q := 1) dX3_store_13 rfl rfl ?_
      refine z_iload_n (pc := 14) (q := 2) dX3_store_14 rfl rfl ?_
      refine z_aload_n (pc := 15) (q := 0) dX3_store_15 rfl rfl ?_
      refine z_getI (pc := 16) dX3_store_16 zf_X3_24 gX_37_0 ?_
      obtain ⟨c3, h⟩ := zg_some h
      obtain ⟨T4, eT4, h⟩ := zl_some h
      refine z_iast (pc := 19) dX3_store_19 aX_59 c3 eT4 ?_
      refine z_aload_n (pc := 20) (q := 1) dX3_store_20 rfl rfl ?_
      refine z_iload_n (pc := 21) (q := 2) dX3_store_21 rfl rfl ?_
      refine z_iconst (pc := 22) (v := 1) dX3_store_22 zci_1 ?_
      refine z_iadd (pc := 23) dX3_store_23 ?_
      refine z_aload_n (pc := 24) (q := 0) dX3_store_24 rfl rfl ?_
      refine z_getI (pc := 25) dX3_store_25 zf_X3_27 gX_37_1 ?_
      obtain ⟨c5, h⟩ := zg_some h
      obtain ⟨T6, eT6, h⟩ := zl_some h
      refine z_iast (pc := 28) dX3_store_28 aX_59 c5 eT6 ?_
      refine z_aload_n (pc := 29) (q := 1) dX3_store_29 rfl rfl ?_
      refine z_iload_n (pc := 30) (q := 2) dX3_store_30 rfl rfl ?_
      refine z_iconst (pc := 31) (v := 2) dX3_store_31 zci_2 ?_
      refine z_iadd (pc := 32) dX3_store_32 ?_
      refine z_aload_n (pc := 33) (q := 0) dX3_store_33 rfl rfl ?_
      refine z_getI (pc := 34) dX3_store_34 zf_X3_33 gX_37_2 ?_
      obtain ⟨c7, h⟩ := zg_some h
      obtain ⟨T8, eT8, h⟩ := zl_some h
      refine z_iast (pc := 37) dX3_store_37 aX_59 c7 eT8 ?_
      refine z_aload_n (pc := 38) (q := 0) dX3_store_38 rfl rfl ?_
      refine z_getR (pc := 39) dX3_store_39 zf_X3_9 gX_37_3 ?_
      refine z_iconst (pc := 42) (v := 0) dX3_store_42 zci_0 ?_
      refine z_aload_n (pc := 43) (q := 1) dX3_store_43 rfl rfl ?_
      refine z_iload_n (pc := 44) (q := 2) dX3_store_44 rfl rfl ?_
      refine z_iconst (pc := 45) (v := 3) dX3_store_45 zci_3 ?_
      refine z_iadd (pc := 46) dX3_store_46 ?_
      refine z_bipush (pc := 47) (v := 12) dX3_store_47 zcb_12 ?_
      obtain ⟨c9, h⟩ := zg_some h
      obtain ⟨T10, eT10, h⟩ := zl_some h
      refine z_copy (pc := 49) dX3_store_49 zm_X3_40 zM_copy.1 zM_copy.2.1 zM_copy.2.2 aX_38 aX_59 c9 (by decide) (Nat.le_of_ble_eq_true rfl) eT10 ?_
      refine z_aload_n (pc := 52) (q := 0) dX3_store_52 rfl rfl ?_
      refine z_getR (pc := 53) dX3_store_53 zf_X3_15 gX_37_4 ?_
      refine z_iconst (pc := 56) (v := 0) dX3_store_56 zci_0 ?_
      refine z_aload_n (pc := 57) (q := 1) dX3_store_57 rfl rfl ?_
      refine z_iload_n (pc := 58) (q := 2) dX3_store_58 rfl rfl ?_
      refine z_iconst (pc := 59) (v := 3) dX3_store_59 zci_3 ?_
      refine z_iadd (pc := 60) dX3_store_60 ?_
      refine z_bipush (pc := 61) (v := 12) dX3_store_61 zcb_12 ?_
      refine z_iadd (pc := 63) dX3_store_63 ?_
      refine z_bipush (pc := 64) (v := 12) dX3_store_64 zcb_12 ?_
      obtain ⟨c11, h⟩ := zg_some h
      obtain ⟨T12, eT12, h⟩ := zl_some h
      refine z_copy (pc := 66) dX3_store_66 zm_X3_40 zM_copy.1 zM_copy.2.1 zM_copy.2.2 aX_39 aX_59 c11 (by decide) (Nat.le_of_ble_eq_true rfl) eT12 ?_
      cases h
      exact z_vret dX3_store_69
def f_X3_load_60_59 (x2 : Int32) (S : zS) : Option zS :=
  if x2 < 0 then
    some S
  else
    if (108 : Int32) < (x2 + 27) then
      some S
    else
      if zin x2 108 then
      zlet (zput S 60 0 (S.1 59 x2.toNatClampNeg)) fun T4 =>
      if zin (x2 + 1) 108 then
      zlet (zput T4 60 1 (T4.1 59 (x2 + 1).toNatClampNeg)) fun T6 =>
      if zin (x2 + 2) 108 then
      zlet (zput T6 60 2 (T6.1 59 (x2 + 2).toNatClampNeg)) fun T8 =>
      if zcinB (x2 + 3) 0 12 108 12 then
      zlet (zcpy T8 59 61 (x2 + 3).toNatClampNeg (Int32.toNatClampNeg 0) (Int32.toNatClampNeg 12)) fun T10 =>
      if zcinB ((x2 + 3) + 12) 0 12 108 12 then
      zlet (zcpy T10 59 62 ((x2 + 3) + 12).toNatClampNeg (Int32.toNatClampNeg 0) (Int32.toNatClampNeg 12)) fun T12 =>
      some T12 else none else none else none else none else none
set_option maxRecDepth 100000 in
theorem w_X3_load_60_59 (l : Launch) {x2 : Int32} {S : zS} {S1 : zS} (h : f_X3_load_60_59 x2 S = some S1) : zMet zLX l yX3_load cX3_load 3 none 1 [.ref 60, .ref 59, .int x2] S none S1 := by
  unfold f_X3_load_60_59 at h
  refine zMet.of (by decide +kernel) (Nat.le_of_ble_eq_true rfl) ?_
  show WA zLX l RX3 cX3_load 3 none 1 none S1 0 [(0, .ref 60), (1, .ref 59), (2, .int x2)] [] S
  refine z_iload_n (pc := 0) (q := 2) dX3_load_0 rfl rfl ?_
  refine z_if_lt (pc := 1) (tgt := 69) dX3_load_1 (by decide) (fun c1 => ?_) (fun c1 => ?_)
  · have h := zt_some c1 h
    cases h
    exact z_vret dX3_load_69
  · have h := ze_some c1 h
    refine z_iload_n (pc := 4) (q := 2) dX3_load_4 rfl rfl ?_
    refine z_bipush (pc := 5) (v := 27) dX3_load_5 zcb_27 ?_
    refine z_iadd (pc := 7) dX3_load_7 ?_
    refine z_aload_n (pc := 8) (q := 1) dX3_load_8 rfl rfl ?_
    refine z_alen (pc := 9) (v := 108) dX3_load_9 aX_59 (by decide) (by decide) ?_
    refine z_icmp_gt (pc := 10) (tgt := 69) dX3_load_10 (by decide) (fun c2 => ?_) (fun c2 => ?_)
    · have h := zt_some c2 h
      cases h
      exact z_vret dX3_load_69
    · have h := ze_some c2 h
      refine z_aload_n (pc := 13) (q := 0) dX3_load_13 rfl rfl ?_
      refine z_aload_n (pc := 14) (q := 1) dX3_load_14 rfl rfl ?_
      refine z_iload_n (pc := 15) (q := 2) dX3_load_15 rfl rfl ?_
      obtain ⟨c3, h⟩ := zg_some h
      refine z_iald (pc := 16) dX3_load_16 aX_59 c3 ?_
      obtain ⟨T4, eT4, h⟩ := zl_some h
      refine z_putI (pc := 17) dX3_load_17 zp_X3_24 gX_60_0 rfl rfl eT4 ?_
      refine z_aload_n (pc := 20) (q := 0) dX3_load_20 rfl rfl ?_
      refine z_aload_n (pc := 21) (q := 1) dX3_load_21 rfl rfl ?_
      refine z_iload_n (pc := 22) (q := 2) dX3_load_22 rfl rfl ?_
      refine z_iconst (pc := 23) (v := 1) dX3_load_23 zci_1 ?_
      refine z_iadd (pc := 24) dX3_load_24 ?_
      obtain ⟨c5, h⟩ := zg_some h
      refine z_iald (pc := 25) dX3_load_25 aX_59 c5 ?_
      obtain ⟨T6, eT6, h⟩ := zl_some h
      refine z_putI (pc := 26) dX3_load_26 zp_X3_27 gX_60_1 rfl rfl eT6 ?_
      refine z_aload_n (pc := 29) (q := 0) dX3_load_29 rfl rfl ?_
      refine z_aload_n (pc := 30) (q := 1) dX3_load_30 rfl rfl ?_
      refine z_iload_n (pc := 31) (q := 2) dX3_load_31 rfl rfl ?_
      refine z_iconst (pc := 32) (v := 2) dX3_load_32 zci_2 ?_
      refine z_iadd (pc := 33) dX3_load_33 ?_
      obtain ⟨c7, h⟩ := zg_some h
      refine z_iald (pc := 34) dX3_load_34 aX_59 c7 ?_
      obtain ⟨T8, eT8, h⟩ := zl_some h
      refine z_putI (pc := 35) dX3_load_35 zp_X3_33 gX_60_2 rfl rfl eT8 ?_
      refine z_aload_n (pc := 38) (q := 1) dX3_load_38 rfl rfl ?_
      refine z_iload_n (pc := 39) (q := 2) dX3_load_39 rfl rfl ?_
      refine z_iconst (pc := 40) (v := 3) dX3_load_40 zci_3 ?_
      refine z_iadd (pc := 41) dX3_load_41 ?_
      refine z_aload_n (pc := 42) (q := 0) dX3_load_42 rfl rfl ?_
      refine z_getR (pc := 43) dX3_load_43 zf_X3_9 gX_60_3 ?_
      refine z_iconst (pc := 46) (v := 0) dX3_load_46 zci_0 ?_
      refine z_bipush (pc := 47) (v := 12) dX3_load_47 zcb_12 ?_
      obtain ⟨c9, h⟩ := zg_some h
      obtain ⟨T10, eT10, h⟩ := zl_some h
      refine z_copy (pc := 49) dX3_load_49 zm_X3_40 zM_copy.1 zM_copy.2.1 zM_copy.2.2 aX_59 aX_61 c9 (by decide) (Nat.le_of_ble_eq_true rfl) eT10 ?_
      refine z_aload_n (pc := 52) (q := 1) dX3_load_52 rfl rfl ?_
      refine z_iload_n (pc := 53) (q := 2) dX3_load_53 rfl rfl ?_
      refine z_iconst (pc := 54) (v := 3) dX3_load_54 zci_3 ?_
      refine z_iadd (pc := 55) dX3_load_55 ?_
      refine z_bipush (pc := 56) (v := 12) dX3_load_56 zcb_12 ?_
      refine z_iadd (pc := 58) dX3_load_58 ?_
      refine z_aload_n (pc := 59) (q := 0) dX3_load_59 rfl rfl ?_
      refine z_getR (pc := 60) dX3_load_60 zf_X3_15 gX_60_4 ?_
      refine z_iconst (pc := 63) (v := 0) dX3_load_63 zci_0 ?_
      refine z_bipush (pc := 64) (v := 12) dX3_load_64 zcb_12 ?_
      obtain ⟨c11, h⟩ := zg_some h
      obtain ⟨T12, eT12, h⟩ := zl_some h
      refine z_copy (pc := 66) dX3_load_66 zm_X3_40 zM_copy.1 zM_copy.2.1 zM_copy.2.2 aX_59 aX_62 c11 (by decide) (Nat.le_of_ble_eq_true rfl) eT12 ?_
      cases h
      exact z_vret dX3_load_69
def f_X3_livingBits_60_L4 : Nat → Int32 → Int32 → zS → Option (Int32 × zS)
  | 0, _, _, _ => none
  | n + 1, x1, x2, S =>
    if x2 < (S.1 60 0) then
      if x2 < 12 then
        if zin x2 12 then
        if (0 : Int32) < (S.1 61 x2.toNatClampNeg) then
          zlet (x1 ||| (1 <<< (x2 &&& 31))) fun v5 =>
          zlet (x2 + 1) fun v6 =>
          (f_X3_livingBits_60_L4 n) v5 v6 S
        else
          zlet (x2 + 1) fun v5 =>
          (f_X3_livingBits_60_L4 n) x1 v5 S else none
      else
        some (x1, S)
    else
      some (x1, S)
def f_X3_livingBits_60  (S : zS) : Option (Int32 × zS) :=
  f_X3_livingBits_60_L4 zN 0 0 S
set_option maxRecDepth 100000 in
theorem w_X3_livingBits_60_L4 (l : Launch) {r : Int32} {S1 : zS} : ∀ (n : Nat) (x1 : Int32) (x2 : Int32) (S : zS), f_X3_livingBits_60_L4 n x1 x2 S = some (r, S1) → WA zLX l RX3 cX3_livingBits 3 (some .int) 1 (some (.int r)) S1 4 [(0, .ref 60), (1, .int x1), (2, .int x2)] [] S := by
  intro n
  induction n with
  | zero =>
    intro x1 x2 S h
    exact nomatch h
  | succ n ih =>
    intro x1 x2 S h
    rw [f_X3_livingBits_60_L4] at h
    refine z_iload_n (pc := 4) (q := 2) dX3_livingBits_4 rfl rfl ?_
    refine z_aload_n (pc := 5) (q := 0) dX3_livingBits_5 rfl rfl ?_
    refine z_getI (pc := 6) dX3_livingBits_6 zf_X3_24 gX_60_0 ?_
    refine z_icmp_ge (pc := 9) (tgt := 39) dX3_livingBits_9 (by decide) (fun c1 => ?_) (fun c1 => ?_)
    · have h := ze_some c1 h
      refine z_iload_n (pc := 39) (q := 1) dX3_livingBits_39 rfl rfl ?_
      obtain ⟨rfl, rfl⟩ := zr_some h
      exact z_iret dX3_livingBits_40
    · have h := zt_some c1 h
      refine z_iload_n (pc := 12) (q := 2) dX3_livingBits_12 rfl rfl ?_
      refine z_bipush (pc := 13) (v := 12) dX3_livingBits_13 zcb_12 ?_
      refine z_icmp_ge (pc := 15) (tgt := 39) dX3_livingBits_15 (by decide) (fun c2 => ?_) (fun c2 => ?_)
      · have h := ze_some c2 h
        refine z_iload_n (pc := 39) (q := 1) dX3_livingBits_39 rfl rfl ?_
        obtain ⟨rfl, rfl⟩ := zr_some h
        exact z_iret dX3_livingBits_40
      · have h := zt_some c2 h
        refine z_aload_n (pc := 18) (q := 0) dX3_livingBits_18 rfl rfl ?_
        refine z_getR (pc := 19) dX3_livingBits_19 zf_X3_9 gX_60_3 ?_
        refine z_iload_n (pc := 22) (q := 2) dX3_livingBits_22 rfl rfl ?_
        obtain ⟨c3, h⟩ := zg_some h
        refine z_iald (pc := 23) dX3_livingBits_23 aX_61 c3 ?_
        refine z_if_le (pc := 24) (tgt := 33) dX3_livingBits_24 (by decide) (fun c4 => ?_) (fun c4 => ?_)
        · have h := ze_some c4 h
          obtain ⟨v5, ev5, h⟩ := zl_some h
          refine z_iinc (pc := 33) (q := 2) (v := v5) (lo' := [(2, .int v5), (0, .ref 60), (1, .int x1)]) dX3_livingBits_33 rfl (by rw [ev5, zci_1]) (by decide) rfl ?_
          refine z_goto (pc := 36) (tgt := 4) dX3_livingBits_36 (by decide) ?_
          exact z_sub [1, 2, 0] rfl (ih x1 v5 S h)
        · have h := zt_some c4 h
          refine z_iload_n (pc := 27) (q := 1) dX3_livingBits_27 rfl rfl ?_
          refine z_iconst (pc := 28) (v := 1) dX3_livingBits_28 zci_1 ?_
          refine z_iload_n (pc := 29) (q := 2) dX3_livingBits_29 rfl rfl ?_
          refine z_ishl (pc := 30) dX3_livingBits_30 ?_
          refine z_ior (pc := 31) dX3_livingBits_31 ?_
          obtain ⟨v5, ev5, h⟩ := zl_some h
          refine z_top ev5 ?_
          refine z_istore_n (pc := 32) (lo' := [(1, .int v5), (0, .ref 60), (2, .int x2)]) dX3_livingBits_32 rfl (by decide) rfl ?_
          obtain ⟨v6, ev6, h⟩ := zl_some h
          refine z_iinc (pc := 33) (q := 2) (v := v6) (lo' := [(2, .int v6), (1, .int v5), (0, .ref 60)]) dX3_livingBits_33 rfl (by rw [ev6, zci_1]) (by decide) rfl ?_
          refine z_goto (pc := 36) (tgt := 4) dX3_livingBits_36 (by decide) ?_
          exact z_sub [2, 1, 0] rfl (ih v5 v6 S h)
set_option maxRecDepth 100000 in
theorem w_X3_livingBits_60 (l : Launch)  {S : zS} {r : Int32} {S1 : zS} (h : f_X3_livingBits_60 S = some (r, S1)) : zMet zLX l yX3_livingBits cX3_livingBits 3 (some .int) 1 [.ref 60] S (some (.int r)) S1 := by
  unfold f_X3_livingBits_60 at h
  refine zMet.of (by decide +kernel) (Nat.le_of_ble_eq_true rfl) ?_
  show WA zLX l RX3 cX3_livingBits 3 (some .int) 1 (some (.int r)) S1 0 [(0, .ref 60)] [] S
  refine z_iconst (pc := 0) (v := 0) dX3_livingBits_0 zci_0 ?_
  refine z_istore_n (pc := 1) (lo' := [(1, .int 0), (0, .ref 60)]) dX3_livingBits_1 rfl (by decide) rfl ?_
  refine z_iconst (pc := 2) (v := 0) dX3_livingBits_2 zci_0 ?_
  refine z_istore_n (pc := 3) (lo' := [(2, .int 0), (1, .int 0), (0, .ref 60)]) dX3_livingBits_3 rfl (by decide) rfl ?_
  exact z_sub [2, 1, 0] rfl (w_X3_livingBits_60_L4 l zN 0 0 S h)
def f_X9_isBetter_56 (x1 : Int32) (x2 : Int32) (S : zS) : Option (Int32 × zS) :=
  if (S.1 56 2) < x1 then
    some (1, S)
  else
    if x1 = (S.1 56 2) then
      if x2 < (S.1 56 3) then
        some (1, S)
      else
        some (0, S)
    else
      some (0, S)
set_option maxRecDepth 100000 in
theorem w_X9_isBetter_56 (l : Launch) {x1 : Int32} {x2 : Int32} {S : zS} {r : Int32} {S1 : zS} (h : f_X9_isBetter_56 x1 x2 S = some (r, S1)) : zMet zLX l yX9_isBetter cX9_isBetter 3 (some .boolean) 1 [.ref 56, .int x1, .int x2] S (some (.int r)) S1 := by
  unfold f_X9_isBetter_56 at h
  refine zMet.of (by decide +kernel) (Nat.le_of_ble_eq_true rfl) ?_
  show WA zLX l RX9 cX9_isBetter 3 (some .boolean) 1 (some (.int r)) S1 0 [(0, .ref 56), (1, .int x1), (2, .int x2)] [] S
  refine z_iload_n (pc := 0) (q := 1) dX9_isBetter_0 rfl rfl ?_
  refine z_aload_n (pc := 1) (q := 0) dX9_isBetter_1 rfl rfl ?_
  refine z_getI (pc := 2) dX9_isBetter_2 zf_X9_35 gX_56_2 ?_
  refine z_icmp_gt (pc := 5) (tgt := 24) dX9_isBetter_5 (by decide) (fun c1 => ?_) (fun c1 => ?_)
  · have h := zt_some c1 h
    refine z_iconst (pc := 24) (v := 1) dX9_isBetter_24 zci_1 ?_
    refine z_goto (pc := 25) (tgt := 29) dX9_isBetter_25 (by decide) ?_
    obtain ⟨rfl, rfl⟩ := zr_some h
    exact z_zret dX9_isBetter_29 rfl
  · have h := ze_some c1 h
    refine z_iload_n (pc := 8) (q := 1) dX9_isBetter_8 rfl rfl ?_
    refine z_aload_n (pc := 9) (q := 0) dX9_isBetter_9 rfl rfl ?_
    refine z_getI (pc := 10) dX9_isBetter_10 zf_X9_35 gX_56_2 ?_
    refine z_icmp_ne (pc := 13) (tgt := 28) dX9_isBetter_13 (by decide) (fun c2 => ?_) (fun c2 => ?_)
    · have h := ze_some c2 h
      refine z_iconst (pc := 28) (v := 0) dX9_isBetter_28 zci_0 ?_
      obtain ⟨rfl, rfl⟩ := zr_some h
      exact z_zret dX9_isBetter_29 rfl
    · have h := zt_some c2 h
      refine z_iload_n (pc := 16) (q := 2) dX9_isBetter_16 rfl rfl ?_
      refine z_aload_n (pc := 17) (q := 0) dX9_isBetter_17 rfl rfl ?_
      refine z_getI (pc := 18) dX9_isBetter_18 zf_X9_38 gX_56_3 ?_
      refine z_icmp_ge (pc := 21) (tgt := 28) dX9_isBetter_21 (by decide) (fun c3 => ?_) (fun c3 => ?_)
      · have h := ze_some c3 h
        refine z_iconst (pc := 28) (v := 0) dX9_isBetter_28 zci_0 ?_
        obtain ⟨rfl, rfl⟩ := zr_some h
        exact z_zret dX9_isBetter_29 rfl
      · have h := zt_some c3 h
        refine z_iconst (pc := 24) (v := 1) dX9_isBetter_24 zci_1 ?_
        refine z_goto (pc := 25) (tgt := 29) dX9_isBetter_25 (by decide) ?_
        obtain ⟨rfl, rfl⟩ := zr_some h
        exact z_zret dX9_isBetter_29 rfl
def f_X9_judge_56 (x1 : Int32) (x2 : Int32) (S : zS) : Option zS :=
  zb (f_X9_isBetter_56 x1 x2 S) fun r3 T2 =>
  if r3 = 0 then
    some T2
  else
    zlet (zput T2 56 2 x1) fun T5 =>
    zlet (zput T5 56 3 x2) fun T6 =>
    if zcinB 0 0 3 3 3 then
    zlet (zcpy T6 57 58 (Int32.toNatClampNeg 0) (Int32.toNatClampNeg 0) (Int32.toNatClampNeg 3)) fun T8 =>
    some T8 else none
set_option maxRecDepth 100000 in
theorem w_X9_judge_56 (l : Launch) {x1 : Int32} {x2 : Int32} {S : zS} {S1 : zS} (h : f_X9_judge_56 x1 x2 S = some S1) : zMet zLX l yX9_judge cX9_judge 3 none 2 [.ref 56, .int x1, .int x2] S none S1 := by
  unfold f_X9_judge_56 at h
  refine zMet.of (by decide +kernel) (Nat.le_of_ble_eq_true rfl) ?_
  show WA zLX l RX9 cX9_judge 3 none 2 none S1 0 [(0, .ref 56), (1, .int x1), (2, .int x2)] [] S
  refine z_aload_n (pc := 0) (q := 0) dX9_judge_0 rfl rfl ?_
  refine z_iload_n (pc := 1) (q := 1) dX9_judge_1 rfl rfl ?_
  refine z_iload_n (pc := 2) (q := 2) dX9_judge_2 rfl rfl ?_
  obtain ⟨r3, T2, q1, h⟩ := zb_some h
  refine z_callVi (pc := 3) (st := []) [.int x1, .int x2] dX9_judge_3 zm_X9_84 zM_X9_isBetter (by decide) oX_56 rfl (w_X9_isBetter_56 l q1) rfl rfl (Nat.le_of_ble_eq_true rfl) ?_
  refine z_if_eq (pc := 6) (tgt := 33) dX9_judge_6 (by decide) (fun c4 => ?_) (fun c4 => ?_)
  · have h := zt_some c4 h
    cases h
    exact z_vret dX9_judge_33
  · have h := ze_some c4 h
    refine z_aload_n (pc := 9) (q := 0) dX9_judge_9 rfl rfl ?_
    refine z_iload_n (pc := 10) (q := 1) dX9_judge_10 rfl rfl ?_
    obtain ⟨T5, eT5, h⟩ := zl_some h
    refine z_putI (pc := 11) dX9_judge_11 zp_X9_35 gX_56_2 rfl rfl eT5 ?_
    refine z_aload_n (pc := 14) (q := 0) dX9_judge_14 rfl rfl ?_
    refine z_iload_n (pc := 15) (q := 2) dX9_judge_15 rfl rfl ?_
    obtain ⟨T6, eT6, h⟩ := zl_some h
    refine z_putI (pc := 16) dX9_judge_16 zp_X9_38 gX_56_3 rfl rfl eT6 ?_
    refine z_aload_n (pc := 19) (q := 0) dX9_judge_19 rfl rfl ?_
    refine z_getR (pc := 20) dX9_judge_20 zf_X9_9 gX_56_4 ?_
    refine z_iconst (pc := 23) (v := 0) dX9_judge_23 zci_0 ?_
    refine z_aload_n (pc := 24) (q := 0) dX9_judge_24 rfl rfl ?_
    refine z_getR (pc := 25) dX9_judge_25 zf_X9_15 gX_56_5 ?_
    refine z_iconst (pc := 28) (v := 0) dX9_judge_28 zci_0 ?_
    refine z_iconst (pc := 29) (v := 3) dX9_judge_29 zci_3 ?_
    obtain ⟨c7, h⟩ := zg_some h
    obtain ⟨T8, eT8, h⟩ := zl_some h
    refine z_copy (pc := 30) dX9_judge_30 zm_X9_96 zM_copy.1 zM_copy.2.1 zM_copy.2.2 aX_57 aX_58 c7 (by decide) (Nat.le_of_ble_eq_true rfl) eT8 ?_
    cases h
    exact z_vret dX9_judge_33
def f_X3_cut_60_13_L3 : Nat → Int32 → Int32 → Int32 → zS → Option zS
  | 0, _, _, _, _ => none
  | n + 1, x2, x3, x4, S =>
    if x4 < (S.1 60 0) then
      if x4 < 12 then
        if zin x4 12 then
        if (S.1 14 x4.toNatClampNeg) = x2 then
          if zin x4 12 then
          if zin x4 12 then
          zlet (zput S 61 x4.toNatClampNeg (zmax 0 ((S.1 61 x4.toNatClampNeg) - x3))) fun T7 =>
          zlet (x4 + 1) fun v8 =>
          (f_X3_cut_60_13_L3 n) x2 x3 v8 T7 else none else none
        else
          zlet (x4 + 1) fun v5 =>
          (f_X3_cut_60_13_L3 n) x2 x3 v5 S else none
      else
        some S
    else
      some S
def f_X3_cut_60_13 (x2 : Int32) (x3 : Int32) (S : zS) : Option zS :=
  f_X3_cut_60_13_L3 zN x2 x3 0 S
set_option maxRecDepth 100000 in
theorem w_X3_cut_60_13_L3 (l : Launch) {S1 : zS} : ∀ (n : Nat) (x2 : Int32) (x3 : Int32) (x4 : Int32) (S : zS), f_X3_cut_60_13_L3 n x2 x3 x4 S = some S1 → WA zLX l RX3 cX3_cut 5 none 1 none S1 3 [(0, .ref 60), (1, .ref 13), (2, .int x2), (3, .int x3), (4, .int x4)] [] S := by
  intro n
  induction n with
  | zero =>
    intro x2 x3 x4 S h
    exact nomatch h
  | succ n ih =>
    intro x2 x3 x4 S h
    rw [f_X3_cut_60_13_L3] at h
    refine z_iload (pc := 3) (q := 4) dX3_cut_3 rfl ?_
    refine z_aload_n (pc := 5) (q := 0) dX3_cut_5 rfl rfl ?_
    refine z_getI (pc := 6) dX3_cut_6 zf_X3_24 gX_60_0 ?_
    refine z_icmp_ge (pc := 9) (tgt := 56) dX3_cut_9 (by decide) (fun c1 => ?_) (fun c1 => ?_)
    · have h := ze_some c1 h
      cases h
      exact z_vret dX3_cut_56
    · have h := zt_some c1 h
      refine z_iload (pc := 12) (q := 4) dX3_cut_12 rfl ?_
      refine z_bipush (pc := 14) (v := 12) dX3_cut_14 zcb_12 ?_
      refine z_icmp_ge (pc := 16) (tgt := 56) dX3_cut_16 (by decide) (fun c2 => ?_) (fun c2 => ?_)
      · have h := ze_some c2 h
        cases h
        exact z_vret dX3_cut_56
      · have h := zt_some c2 h
        refine z_aload_n (pc := 19) (q := 1) dX3_cut_19 rfl rfl ?_
        refine z_getR (pc := 20) dX3_cut_20 zf_X3_46 gX_13_0 ?_
        refine z_iload (pc := 23) (q := 4) dX3_cut_23 rfl ?_
        obtain ⟨c3, h⟩ := zg_some h
        refine z_iald (pc := 25) dX3_cut_25 aX_14 c3 ?_
        refine z_iload_n (pc := 26) (q := 2) dX3_cut_26 rfl rfl ?_
        refine z_icmp_ne (pc := 27) (tgt := 50) dX3_cut_27 (by decide) (fun c4 => ?_) (fun c4 => ?_)
        · have h := ze_some c4 h
          obtain ⟨v5, ev5, h⟩ := zl_some h
          refine z_iinc (pc := 50) (q := 4) (v := v5) (lo' := [(4, .int v5), (0, .ref 60), (1, .ref 13), (2, .int x2), (3, .int x3)]) dX3_cut_50 rfl (by rw [ev5, zci_1]) (by decide) rfl ?_
          refine z_goto (pc := 53) (tgt := 3) dX3_cut_53 (by decide) ?_
          exact z_sub [1, 2, 3, 4, 0] rfl (ih x2 x3 v5 S h)
        · have h := zt_some c4 h
          refine z_aload_n (pc := 30) (q := 0) dX3_cut_30 rfl rfl ?_
          refine z_getR (pc := 31) dX3_cut_31 zf_X3_9 gX_60_3 ?_
          refine z_iload (pc := 34) (q := 4) dX3_cut_34 rfl ?_
          refine z_iconst (pc := 36) (v := 0) dX3_cut_36 zci_0 ?_
          refine z_aload_n (pc := 37) (q := 0) dX3_cut_37 rfl rfl ?_
          refine z_getR (pc := 38) dX3_cut_38 zf_X3_9 gX_60_3 ?_
          refine z_iload (pc := 41) (q := 4) dX3_cut_41 rfl ?_
          obtain ⟨c5, h⟩ := zg_some h
          refine z_iald (pc := 43) dX3_cut_43 aX_61 c5 ?_
          refine z_iload_n (pc := 44) (q := 3) dX3_cut_44 rfl rfl ?_
          refine z_isub (pc := 45) dX3_cut_45 ?_
          refine z_max (pc := 46) dX3_cut_46 zm_X3_51 zM_max.1 zM_max.2.1 zM_max.2.2 (by decide) (Nat.le_of_ble_eq_true rfl) ?_
          obtain ⟨c6, h⟩ := zg_some h
          obtain ⟨T7, eT7, h⟩ := zl_some h
          refine z_iast (pc := 49) dX3_cut_49 aX_61 c6 eT7 ?_
          obtain ⟨v8, ev8, h⟩ := zl_some h
          refine z_iinc (pc := 50) (q := 4) (v := v8) (lo' := [(4, .int v8), (0, .ref 60), (1, .ref 13), (2, .int x2), (3, .int x3)]) dX3_cut_50 rfl (by rw [ev8, zci_1]) (by decide) rfl ?_
          refine z_goto (pc := 53) (tgt := 3) dX3_cut_53 (by decide) ?_
          exact z_sub [1, 2, 3, 4, 0] rfl (ih x2 x3 v8 T7 h)
set_option maxRecDepth 100000 in
theorem w_X3_cut_60_13 (l : Launch) {x2 : Int32} {x3 : Int32} {S : zS} {S1 : zS} (h : f_X3_cut_60_13 x2 x3 S = some S1) : zMet zLX l yX3_cut cX3_cut 5 none 1 [.ref 60, .ref 13, .int x2, .int x3] S none S1 := by
  unfold f_X3_cut_60_13 at h
  refine zMet.of (by decide +kernel) (Nat.le_of_ble_eq_true rfl) ?_
  show WA zLX l RX3 cX3_cut 5 none 1 none S1 0 [(0, .ref 60), (1, .ref 13), (2, .int x2), (3, .int x3)] [] S
  refine z_iconst (pc := 0) (v := 0) dX3_cut_0 zci_0 ?_
  refine z_istore (pc := 1) (lo' := [(4, .int 0), (0, .ref 60), (1, .ref 13), (2, .int x2), (3, .int x3)]) dX3_cut_1 (by decide) rfl ?_
  exact z_sub [1, 2, 3, 4, 0] rfl (w_X3_cut_60_13_L3 l zN x2 x3 0 S h)
def f_X3_growAll_60_5_L13 : Nat → Int32 → Int32 → zS → Option zS
  | 0, _, _, _ => none
  | n + 1, x3, x4, S =>
    if x4 < (S.1 60 0) then
      if x4 < 12 then
        if zin x4 12 then
        if (0 : Int32) < (S.1 61 x4.toNatClampNeg) then
          zb (f_X1_othersNear_13 x4 x3 S) fun r7 T6 =>
          if zin x4 12 then
          if zin x4 12 then
          if zin x4 12 then
          zb (f_X2_result_9 (T6.1 61 x4.toNatClampNeg) (T6.1 62 x4.toNatClampNeg) (T6.1 14 x4.toNatClampNeg) r7 (T6.1 60 1) T6) fun r13 T12 =>
          if zin x4 12 then
          if zin x4 12 then
          zlet (zput T12 61 x4.toNatClampNeg (zmax 0 (zmin 99 ((T12.1 61 x4.toNatClampNeg) + r13)))) fun T16 =>
          if zin x4 12 then
          if zin x4 12 then
          zlet (zput T16 62 x4.toNatClampNeg ((T16.1 62 x4.toNatClampNeg) + 1)) fun T19 =>
          if zin x4 12 then
          if (T19.1 61 x4.toNatClampNeg) = 0 then
            zlet (x3 &&& ((1 <<< (x4 &&& 31)) ^^^ (-1))) fun v22 =>
            zlet (x4 + 1) fun v23 =>
            (f_X3_growAll_60_5_L13 n) v22 v23 T19
          else
            zlet (x4 + 1) fun v22 =>
            (f_X3_growAll_60_5_L13 n) x3 v22 T19 else none else none else none else none else none else none else none else none
        else
          zlet (x4 + 1) fun v5 =>
          (f_X3_growAll_60_5_L13 n) x3 v5 S else none
      else
        some S
    else
      some S
def f_X3_growAll_60_5  (S : zS) : Option zS :=
  zb (f_X3_livingBits_60 S) fun r3 T2 =>
  f_X3_growAll_60_5_L13 zN r3 0 T2
set_option maxRecDepth 100000 in
theorem w_X3_growAll_60_5_L13 (l : Launch) {S1 : zS} : ∀ (n : Nat) (x3 : Int32) (x4 : Int32) (S : zS), f_X3_growAll_60_5_L13 n x3 x4 S = some S1 → WA zLX l RX3 cX3_growAll 7 none 3 none S1 13 [(0, .ref 60), (1, .ref 5), (2, .ref 13), (3, .int x3), (4, .int x4)] [] S := by
  intro n
  induction n with
  | zero =>
    intro x3 x4 S h
    exact nomatch h
  | succ n ih =>
    intro x3 x4 S h
    rw [f_X3_growAll_60_5_L13] at h
    refine z_iload (pc := 13) (q := 4) dX3_growAll_13 rfl ?_
    refine z_aload_n (pc := 15) (q := 0) dX3_growAll_15 rfl rfl ?_
    refine z_getI (pc := 16) dX3_growAll_16 zf_X3_24 gX_60_0 ?_
    refine z_icmp_ge (pc := 19) (tgt := 146) dX3_growAll_19 (by decide) (fun c1 => ?_) (fun c1 => ?_)
    · have h := ze_some c1 h
      cases h
      exact z_vret dX3_growAll_146
    · have h := zt_some c1 h
      refine z_iload (pc := 22) (q := 4) dX3_growAll_22 rfl ?_
      refine z_bipush (pc := 24) (v := 12) dX3_growAll_24 zcb_12 ?_
      refine z_icmp_ge (pc := 26) (tgt := 146) dX3_growAll_26 (by decide) (fun c2 => ?_) (fun c2 => ?_)
      · have h := ze_some c2 h
        cases h
        exact z_vret dX3_growAll_146
      · have h := zt_some c2 h
        refine z_aload_n (pc := 29) (q := 0) dX3_growAll_29 rfl rfl ?_
        refine z_getR (pc := 30) dX3_growAll_30 zf_X3_9 gX_60_3 ?_
        refine z_iload (pc := 33) (q := 4) dX3_growAll_33 rfl ?_
        obtain ⟨c3, h⟩ := zg_some h
        refine z_iald (pc := 35) dX3_growAll_35 aX_61 c3 ?_
        refine z_if_le (pc := 36) (tgt := 140) dX3_growAll_36 (by decide) (fun c4 => ?_) (fun c4 => ?_)
        · have h := ze_some c4 h
          obtain ⟨v5, ev5, h⟩ := zl_some h
          refine z_iinc (pc := 140) (q := 4) (v := v5) (lo' := [(4, .int v5), (0, .ref 60), (1, .ref 5), (2, .ref 13), (3, .int x3)]) dX3_growAll_140 rfl (by rw [ev5, zci_1]) (by decide) rfl ?_
          refine z_goto (pc := 143) (tgt := 13) dX3_growAll_143 (by decide) ?_
          exact z_sub [1, 2, 3, 4, 0] rfl (ih x3 v5 S h)
        · have h := zt_some c4 h
          refine z_aload_n (pc := 39) (q := 2) dX3_growAll_39 rfl rfl ?_
          refine z_iload (pc := 40) (q := 4) dX3_growAll_40 rfl ?_
          refine z_iload_n (pc := 42) (q := 3) dX3_growAll_42 rfl rfl ?_
          obtain ⟨r7, T6, q5, h⟩ := zb_some h
          refine z_callVi (pc := 43) (st := []) [.int x4, .int x3] dX3_growAll_43 zm_X3_75 zM_X1_othersNear (by decide) oX_13 rfl (w_X1_othersNear_13 l q5) rfl rfl (Nat.le_of_ble_eq_true rfl) ?_
          refine z_istore (pc := 46) (lo' := [(5, .int r7), (0, .ref 60), (1, .ref 5), (2, .ref 13), (3, .int x3), (4, .int x4)]) dX3_growAll_46 (by decide) rfl ?_
          refine z_aload_n (pc := 48) (q := 2) dX3_growAll_48 rfl rfl ?_
          refine z_getR (pc := 49) dX3_growAll_49 zf_X3_78 gX_5_12 ?_
          refine z_aload_n (pc := 52) (q := 1) dX3_growAll_52 rfl rfl ?_
          refine z_getR (pc := 53) dX3_growAll_53 zf_X3_9 gX_60_3 ?_
          refine z_iload (pc := 56) (q := 5) dX3_growAll_56 rfl ?_
          obtain ⟨c8, h⟩ := zg_some h
          refine z_iald (pc := 58) dX3_growAll_58 aX_61 c8 ?_
          refine z_aload_n (pc := 59) (q := 1) dX3_growAll_59 rfl rfl ?_
          refine z_getR (pc := 60) dX3_growAll_60 zf_X3_15 gX_60_4 ?_
          refine z_iload (pc := 63) (q := 5) dX3_growAll_63 rfl ?_
          obtain ⟨c9, h⟩ := zg_some h
          refine z_iald (pc := 65) dX3_growAll_65 aX_62 c9 ?_
          refine z_aload_n (pc := 66) (q := 3) dX3_growAll_66 rfl rfl ?_
          refine z_getR (pc := 67) dX3_growAll_67 zf_X3_46 gX_13_0 ?_
          refine z_iload (pc := 70) (q := 5) dX3_growAll_70 rfl ?_
          obtain ⟨c10, h⟩ := zg_some h
          refine z_iald (pc := 72) dX3_growAll_72 aX_14 c10 ?_
          refine z_iload (pc := 73) (q := 0) dX3_growAll_73 rfl ?_
          refine z_aload_n (pc := 75) (q := 1) dX3_growAll_75 rfl rfl ?_
          refine z_getI (pc := 76) dX3_growAll_76 zf_X3_27 gX_60_1 ?_
          obtain ⟨r13, T12, q11, h⟩ := zb_some h
          refine z_callVi (pc := 79) (st := []) [.int (T6.1 61 x4.toNatClampNeg), .int (T6.1 62 x4.toNatClampNeg), .int (T6.1 14 x4.toNatClampNeg), .int r7, .int (T6.1 60 1)] dX3_growAll_79 zm_X3_82 zM_X2_result (by decide) oX_9 rfl (w_X2_result_9 l q11) rfl rfl (Nat.le_of_ble_eq_true rfl) ?_
          refine z_istore (pc := 82) (lo' := [(6, .int r13), (5, .int r7), (0, .ref 60), (1, .ref 5), (2, .ref 13), (3, .int x3), (4, .int x4)]) dX3_growAll_82 (by decide) rfl ?_
          refine z_aload_n (pc := 84) (q := 2) dX3_growAll_84 rfl rfl ?_
          refine z_getR (pc := 85) dX3_growAll_85 zf_X3_9 gX_60_3 ?_
          refine z_iload (pc := 88) (q := 6) dX3_growAll_88 rfl ?_
          refine z_iconst (pc := 90) (v := 0) dX3_growAll_90 zci_0 ?_
          refine z_bipush (pc := 91) (v := 99) dX3_growAll_91 zcb_99 ?_
          refine z_aload_n (pc := 93) (q := 2) dX3_growAll_93 rfl rfl ?_
          refine z_getR (pc := 94) dX3_growAll_94 zf_X3_9 gX_60_3 ?_
          refine z_iload (pc := 97) (q := 6) dX3_growAll_97 rfl ?_
          obtain ⟨c14, h⟩ := zg_some h
          refine z_iald (pc := 99) dX3_growAll_99 aX_61 c14 ?_
          refine z_iload (pc := 100) (q := 0) dX3_growAll_100 rfl ?_
          refine z_iadd (pc := 102) dX3_growAll_102 ?_
          refine z_min (pc := 103) dX3_growAll_103 zm_X3_88 zM_min.1 zM_min.2.1 zM_min.2.2 (by decide) (Nat.le_of_ble_eq_true rfl) ?_
          refine z_max (pc := 106) dX3_growAll_106 zm_X3_51 zM_max.1 zM_max.2.1 zM_max.2.2 (by decide) (Nat.le_of_ble_eq_true rfl) ?_
          obtain ⟨c15, h⟩ := zg_some h
          obtain ⟨T16, eT16, h⟩ := zl_some h
          refine z_iast (pc := 109) dX3_growAll_109 aX_61 c15 eT16 ?_
          refine z_aload_n (pc := 110) (q := 2) dX3_growAll_110 rfl rfl ?_
          refine z_getR (pc := 111) dX3_growAll_111 zf_X3_15 gX_60_4 ?_
          refine z_iload (pc := 114) (q := 6) dX3_growAll_114 rfl ?_
          refine z_dup2 (pc := 116) dX3_growAll_116 rfl rfl ?_
          obtain ⟨c17, h⟩ := zg_some h
          refine z_iald (pc := 117) dX3_growAll_117 aX_62 c17 ?_
          refine z_iconst (pc := 118) (v := 1) dX3_growAll_118 zci_1 ?_
          refine z_iadd (pc := 119) dX3_growAll_119 ?_
          obtain ⟨c18, h⟩ := zg_some h
          obtain ⟨T19, eT19, h⟩ := zl_some h
          refine z_iast (pc := 120) dX3_growAll_120 aX_62 c18 eT19 ?_
          refine z_aload_n (pc := 121) (q := 2) dX3_growAll_121 rfl rfl ?_
          refine z_getR (pc := 122) dX3_growAll_122 zf_X3_9 gX_60_3 ?_
          refine z_iload (pc := 125) (q := 6) dX3_growAll_125 rfl ?_
          obtain ⟨c20, h⟩ := zg_some h
          refine z_iald (pc := 127) dX3_growAll_127 aX_61 c20 ?_
          refine z_if_ne (pc := 128) (tgt := 140) dX3_growAll_128 (by decide) (fun c21 => ?_) (fun c21 => ?_)
          · have h := ze_some c21 h
            obtain ⟨v22, ev22, h⟩ := zl_some h
            refine z_iinc (pc := 140) (q := 6) (v := v22) (lo' := [(4, .int v22), (6, .int r13), (5, .int r7), (0, .ref 60), (1, .ref 5), (2, .ref 13), (3, .int x3)]) dX3_growAll_140 rfl (by rw [ev22, zci_1]) (by decide) rfl ?_
            refine z_goto (pc := 143) (tgt := 13) dX3_growAll_143 (by decide) ?_
            exact z_sub [3, 4, 5, 6, 0] rfl (ih x3 v22 T19 h)
          · have h := zt_some c21 h
            refine z_iload_n (pc := 131) (q := 5) dX3_growAll_131 rfl rfl ?_
            refine z_iconst (pc := 132) (v := 1) dX3_growAll_132 zci_1 ?_
            refine z_iload (pc := 133) (q := 6) dX3_growAll_133 rfl ?_
            refine z_ishl (pc := 135) dX3_growAll_135 ?_
            refine z_iconst (pc := 136) (v := (-1)) dX3_growAll_136 zci_m1 ?_
            refine z_ixor (pc := 137) dX3_growAll_137 ?_
            refine z_iand (pc := 138) dX3_growAll_138 ?_
            obtain ⟨v22, ev22, h⟩ := zl_some h
            refine z_top ev22 ?_
            refine z_istore_n (pc := 139) (lo' := [(3, .int v22), (6, .int r13), (5, .int r7), (0, .ref 60), (1, .ref 5), (2, .ref 13), (4, .int x4)]) dX3_growAll_139 rfl (by decide) rfl ?_
            obtain ⟨v23, ev23, h⟩ := zl_some h
            refine z_iinc (pc := 140) (q := 6) (v := v23) (lo' := [(4, .int v23), (3, .int v22), (6, .int r13), (5, .int r7), (0, .ref 60), (1, .ref 5), (2, .ref 13)]) dX3_growAll_140 rfl (by rw [ev23, zci_1]) (by decide) rfl ?_
            refine z_goto (pc := 143) (tgt := 13) dX3_growAll_143 (by decide) ?_
            exact z_sub [4, 5, 6, 1, 0] rfl (ih v22 v23 T19 h)
set_option maxRecDepth 100000 in
theorem w_X3_growAll_60_5 (l : Launch)  {S : zS} {S1 : zS} (h : f_X3_growAll_60_5 S = some S1) : zMet zLX l yX3_growAll cX3_growAll 7 none 3 [.ref 60, .ref 5] S none S1 := by
  unfold f_X3_growAll_60_5 at h
  refine zMet.of (by decide +kernel) (Nat.le_of_ble_eq_true rfl) ?_
  show WA zLX l RX3 cX3_growAll 7 none 3 none S1 0 [(0, .ref 60), (1, .ref 5)] [] S
  refine z_aload_n (pc := 0) (q := 1) dX3_growAll_0 rfl rfl ?_
  refine z_getR (pc := 1) dX3_growAll_1 zf_X3_67 gX_5_13 ?_
  refine z_astore_n (pc := 4) (lo' := [(2, .ref 13), (0, .ref 60), (1, .ref 5)]) dX3_growAll_4 rfl (by decide) rfl ?_
  refine z_aload_n (pc := 5) (q := 1) dX3_growAll_5 rfl rfl ?_
  obtain ⟨r3, T2, q1, h⟩ := zb_some h
  refine z_callVi (pc := 6) (st := []) [] dX3_growAll_6 zm_X3_71 zM_X3_livingBits (by decide) oX_60 rfl (w_X3_livingBits_60 l q1) rfl rfl (Nat.le_of_ble_eq_true rfl) ?_
  refine z_istore_n (pc := 9) (lo' := [(3, .int r3), (2, .ref 13), (0, .ref 60), (1, .ref 5)]) dX3_growAll_9 rfl (by decide) rfl ?_
  refine z_iconst (pc := 10) (v := 0) dX3_growAll_10 zci_0 ?_
  refine z_istore (pc := 11) (lo' := [(4, .int 0), (3, .int r3), (2, .ref 13), (0, .ref 60), (1, .ref 5)]) dX3_growAll_11 (by decide) rfl ?_
  exact z_sub [3, 4, 2, 1, 0] rfl (w_X3_growAll_60_5_L13 l zN r3 0 T2 h)
def f_X3_freeze_60_5_L2 : Nat → Int32 → zS → Option zS
  | 0, _, _ => none
  | n + 1, x2, S =>
    if x2 < (S.1 60 0) then
      if x2 < 12 then
        if zin x2 12 then
        if (((S.1 5 6) >>> ((S.1 15 x2.toNatClampNeg) &&& 31)) &&& 1) = 0 then
          if zin x2 12 then
          if zin x2 12 then
          zlet (zput S 61 x2.toNatClampNeg (zmax 0 ((S.1 61 x2.toNatClampNeg) - (S.1 5 10)))) fun T7 =>
          zlet (x2 + 1) fun v8 =>
          (f_X3_freeze_60_5_L2 n) v8 T7 else none else none
        else
          zlet (x2 + 1) fun v5 =>
          (f_X3_freeze_60_5_L2 n) v5 S else none
      else
        some S
    else
      some S
def f_X3_freeze_60_5  (S : zS) : Option zS :=
  f_X3_freeze_60_5_L2 zN 0 S
set_option maxRecDepth 100000 in
theorem w_X3_freeze_60_5_L2 (l : Launch) {S1 : zS} : ∀ (n : Nat) (x2 : Int32) (S : zS), f_X3_freeze_60_5_L2 n x2 S = some S1 → WA zLX l RX3 cX3_freeze 3 none 1 none S1 2 [(0, .ref 60), (1, .ref 5), (2, .int x2)] [] S := by
  intro n
  induction n with
  | zero =>
    intro x2 S h
    exact nomatch h
  | succ n ih =>
    intro x2 S h
    rw [f_X3_freeze_60_5_L2] at h
    refine z_iload_n (pc := 2) (q := 2) dX3_freeze_2 rfl rfl ?_
    refine z_aload_n (pc := 3) (q := 0) dX3_freeze_3 rfl rfl ?_
    refine z_getI (pc := 4) dX3_freeze_4 zf_X3_24 gX_60_0 ?_
    refine z_icmp_ge (pc := 7) (tgt := 62) dX3_freeze_7 (by decide) (fun c1 => ?_) (fun c1 => ?_)
    · have h := ze_some c1 h
      cases h
      exact z_vret dX3_freeze_62
    · have h := zt_some c1 h
      refine z_iload_n (pc := 10) (q := 2) dX3_freeze_10 rfl rfl ?_
      refine z_bipush (pc := 11) (v := 12) dX3_freeze_11 zcb_12 ?_
      refine z_icmp_ge (pc := 13) (tgt := 62) dX3_freeze_13 (by decide) (fun c2 => ?_) (fun c2 => ?_)
      · have h := ze_some c2 h
        cases h
        exact z_vret dX3_freeze_62
      · have h := zt_some c2 h
        refine z_aload_n (pc := 16) (q := 1) dX3_freeze_16 rfl rfl ?_
        refine z_getI (pc := 17) dX3_freeze_17 zf_X3_91 gX_5_6 ?_
        refine z_aload_n (pc := 20) (q := 1) dX3_freeze_20 rfl rfl ?_
        refine z_getR (pc := 21) dX3_freeze_21 zf_X3_67 gX_5_13 ?_
        refine z_getR (pc := 24) dX3_freeze_24 zf_X3_94 gX_13_1 ?_
        refine z_iload_n (pc := 27) (q := 2) dX3_freeze_27 rfl rfl ?_
        obtain ⟨c3, h⟩ := zg_some h
        refine z_iald (pc := 28) dX3_freeze_28 aX_15 c3 ?_
        refine z_ishr (pc := 29) dX3_freeze_29 ?_
        refine z_iconst (pc := 30) (v := 1) dX3_freeze_30 zci_1 ?_
        refine z_iand (pc := 31) dX3_freeze_31 ?_
        refine z_if_ne (pc := 32) (tgt := 56) dX3_freeze_32 (by decide) (fun c4 => ?_) (fun c4 => ?_)
        · have h := ze_some c4 h
          obtain ⟨v5, ev5, h⟩ := zl_some h
          refine z_iinc (pc := 56) (q := 2) (v := v5) (lo' := [(2, .int v5), (0, .ref 60), (1, .ref 5)]) dX3_freeze_56 rfl (by rw [ev5, zci_1]) (by decide) rfl ?_
          refine z_goto (pc := 59) (tgt := 2) dX3_freeze_59 (by decide) ?_
          exact z_sub [1, 2, 0] rfl (ih v5 S h)
        · have h := zt_some c4 h
          refine z_aload_n (pc := 35) (q := 0) dX3_freeze_35 rfl rfl ?_
          refine z_getR (pc := 36) dX3_freeze_36 zf_X3_9 gX_60_3 ?_
          refine z_iload_n (pc := 39) (q := 2) dX3_freeze_39 rfl rfl ?_
          refine z_iconst (pc := 40) (v := 0) dX3_freeze_40 zci_0 ?_
          refine z_aload_n (pc := 41) (q := 0) dX3_freeze_41 rfl rfl ?_
          refine z_getR (pc := 42) dX3_freeze_42 zf_X3_9 gX_60_3 ?_
          refine z_iload_n (pc := 45) (q := 2) dX3_freeze_45 rfl rfl ?_
          obtain ⟨c5, h⟩ := zg_some h
          refine z_iald (pc := 46) dX3_freeze_46 aX_61 c5 ?_
          refine z_aload_n (pc := 47) (q := 1) dX3_freeze_47 rfl rfl ?_
          refine z_getI (pc := 48) dX3_freeze_48 zf_X3_97 gX_5_10 ?_
          refine z_isub (pc := 51) dX3_freeze_51 ?_
          refine z_max (pc := 52) dX3_freeze_52 zm_X3_51 zM_max.1 zM_max.2.1 zM_max.2.2 (by decide) (Nat.le_of_ble_eq_true rfl) ?_
          obtain ⟨c6, h⟩ := zg_some h
          obtain ⟨T7, eT7, h⟩ := zl_some h
          refine z_iast (pc := 55) dX3_freeze_55 aX_61 c6 eT7 ?_
          obtain ⟨v8, ev8, h⟩ := zl_some h
          refine z_iinc (pc := 56) (q := 2) (v := v8) (lo' := [(2, .int v8), (0, .ref 60), (1, .ref 5)]) dX3_freeze_56 rfl (by rw [ev8, zci_1]) (by decide) rfl ?_
          refine z_goto (pc := 59) (tgt := 2) dX3_freeze_59 (by decide) ?_
          exact z_sub [1, 2, 0] rfl (ih v8 T7 h)
set_option maxRecDepth 100000 in
theorem w_X3_freeze_60_5 (l : Launch)  {S : zS} {S1 : zS} (h : f_X3_freeze_60_5 S = some S1) : zMet zLX l yX3_freeze cX3_freeze 3 none 1 [.ref 60, .ref 5] S none S1 := by
  unfold f_X3_freeze_60_5 at h
  refine zMet.of (by decide +kernel) (Nat.le_of_ble_eq_true rfl) ?_
  show WA zLX l RX3 cX3_freeze 3 none 1 none S1 0 [(0, .ref 60), (1, .ref 5)] [] S
  refine z_iconst (pc := 0) (v := 0) dX3_freeze_0 zci_0 ?_
  refine z_istore_n (pc := 1) (lo' := [(2, .int 0), (0, .ref 60), (1, .ref 5)]) dX3_freeze_1 rfl (by decide) rfl ?_
  exact z_sub [1, 2, 0] rfl (w_X3_freeze_60_5_L2 l zN 0 S h)
def f_X3_passYear_60_5_B43  (S : zS) : Option zS :=
  zlet (zput S 60 1 ((S.1 60 1) + 1)) fun T1 =>
  some T1
def f_X3_passYear_60_5  (S : zS) : Option zS :=
  zu (f_X3_growAll_60_5 S) fun T2 =>
  zlet (zput T2 60 2 (zrem (((T2.1 60 2) * 137) + 71) 1000)) fun T3 =>
  if (zrem (T3.1 60 2) 100) < (T3.1 5 9) then
    zu (f_X3_freeze_60_5 T3) fun T6 =>
    f_X3_passYear_60_5_B43 T6
  else
    f_X3_passYear_60_5_B43 T3
set_option maxRecDepth 100000 in
theorem w_X3_passYear_60_5_B43 (l : Launch) {S1 : zS}  (S : zS) (h : f_X3_passYear_60_5_B43 S = some S1) : WA zLX l RX3 cX3_passYear 2 none 4 none S1 43 [(0, .ref 60)] [] S := by
  unfold f_X3_passYear_60_5_B43 at h
  refine z_aload_n (pc := 43) (q := 0) dX3_passYear_43 rfl rfl ?_
  refine z_dup (pc := 44) dX3_passYear_44 rfl ?_
  refine z_getI (pc := 45) dX3_passYear_45 zf_X3_27 gX_60_1 ?_
  refine z_iconst (pc := 48) (v := 1) dX3_passYear_48 zci_1 ?_
  refine z_iadd (pc := 49) dX3_passYear_49 ?_
  obtain ⟨T1, eT1, h⟩ := zl_some h
  refine z_putI (pc := 50) dX3_passYear_50 zp_X3_27 gX_60_1 rfl rfl eT1 ?_
  cases h
  exact z_vret dX3_passYear_53
set_option maxRecDepth 100000 in
theorem w_X3_passYear_60_5 (l : Launch)  {S : zS} {S1 : zS} (h : f_X3_passYear_60_5 S = some S1) : zMet zLX l yX3_passYear cX3_passYear 2 none 4 [.ref 60, .ref 5] S none S1 := by
  unfold f_X3_passYear_60_5 at h
  refine zMet.of (by decide +kernel) (Nat.le_of_ble_eq_true rfl) ?_
  show WA zLX l RX3 cX3_passYear 2 none 4 none S1 0 [(0, .ref 60), (1, .ref 5)] [] S
  refine z_aload_n (pc := 0) (q := 0) dX3_passYear_0 rfl rfl ?_
  refine z_aload_n (pc := 1) (q := 1) dX3_passYear_1 rfl rfl ?_
  obtain ⟨T2, q1, h⟩ := zu_some h
  refine z_callVv (pc := 2) (st := []) [.ref 5] dX3_passYear_2 zm_X3_57 zM_X3_growAll (by decide) oX_60 rfl (w_X3_growAll_60_5 l q1) rfl rfl (Nat.le_of_ble_eq_true rfl) ?_
  refine z_aload_n (pc := 5) (q := 0) dX3_passYear_5 rfl rfl ?_
  refine z_aload_n (pc := 6) (q := 0) dX3_passYear_6 rfl rfl ?_
  refine z_getI (pc := 7) dX3_passYear_7 zf_X3_33 gX_60_2 ?_
  refine z_sipush (pc := 10) (v := 137) dX3_passYear_10 zcs_137 ?_
  refine z_imul (pc := 13) dX3_passYear_13 ?_
  refine z_bipush (pc := 14) (v := 71) dX3_passYear_14 zcb_71 ?_
  refine z_iadd (pc := 16) dX3_passYear_16 ?_
  refine z_sipush (pc := 17) (v := 1000) dX3_passYear_17 zcs_1000 ?_
  refine z_irem (pc := 20) dX3_passYear_20 (by decide) ?_
  refine zrem_fold ?_
  obtain ⟨T3, eT3, h⟩ := zl_some h
  refine z_putI (pc := 21) dX3_passYear_21 zp_X3_33 gX_60_2 rfl rfl eT3 ?_
  refine z_aload_n (pc := 24) (q := 0) dX3_passYear_24 rfl rfl ?_
  refine z_getI (pc := 25) dX3_passYear_25 zf_X3_33 gX_60_2 ?_
  refine z_bipush (pc := 28) (v := 100) dX3_passYear_28 zcb_100 ?_
  refine z_irem (pc := 30) dX3_passYear_30 (by decide) ?_
  refine zrem_fold ?_
  refine z_aload_n (pc := 31) (q := 1) dX3_passYear_31 rfl rfl ?_
  refine z_getI (pc := 32) dX3_passYear_32 zf_X3_61 gX_5_9 ?_
  refine z_icmp_ge (pc := 35) (tgt := 43) dX3_passYear_35 (by decide) (fun c4 => ?_) (fun c4 => ?_)
  · have h := ze_some c4 h
    exact z_sub [0] rfl (w_X3_passYear_60_5_B43 l T3 h)
  · have h := zt_some c4 h
    refine z_aload_n (pc := 38) (q := 0) dX3_passYear_38 rfl rfl ?_
    refine z_aload_n (pc := 39) (q := 1) dX3_passYear_39 rfl rfl ?_
    obtain ⟨T6, q5, h⟩ := zu_some h
    refine z_callVv (pc := 40) (st := []) [.ref 5] dX3_passYear_40 zm_X3_64 zM_X3_freeze (by decide) oX_60 rfl (w_X3_freeze_60_5 l q5) rfl rfl (Nat.le_of_ble_eq_true rfl) ?_
    exact z_sub [0] rfl (w_X3_passYear_60_5_B43 l T6 h)
def f_X3_store_60_59 (x2 : Int32) (S : zS) : Option zS :=
  if x2 < 0 then
    some S
  else
    if (108 : Int32) < (x2 + 27) then
      some S
    else
      if zin x2 108 then
      zlet (zput S 59 x2.toNatClampNeg (S.1 60 0)) fun T4 =>
      if zin (x2 + 1) 108 then
      zlet (zput T4 59 (x2 + 1).toNatClampNeg (T4.1 60 1)) fun T6 =>
      if zin (x2 + 2) 108 then
      zlet (zput T6 59 (x2 + 2).toNatClampNeg (T6.1 60 2)) fun T8 =>
      if zcinB 0 (x2 + 3) 12 12 108 then
      zlet (zcpy T8 61 59 (Int32.toNatClampNeg 0) (x2 + 3).toNatClampNeg (Int32.toNatClampNeg 12)) fun T10 =>
      if zcinB 0 ((x2 + 3) + 12) 12 12 108 then
      zlet (zcpy T10 62 59 (Int32.toNatClampNeg 0) ((x2 + 3) + 12).toNatClampNeg (Int32.toNatClampNeg 12)) fun T12 =>
      some T12 else none else none else none else none else none
set_option maxRecDepth 100000 in
theorem w_X3_store_60_59 (l : Launch) {x2 : Int32} {S : zS} {S1 : zS} (h : f_X3_store_60_59 x2 S = some S1) : zMet zLX l yX3_store cX3_store 3 none 1 [.ref 60, .ref 59, .int x2] S none S1 := by
  unfold f_X3_store_60_59 at h
  refine zMet.of (by decide +kernel) (Nat.le_of_ble_eq_true rfl) ?_
  show WA zLX l RX3 cX3_store 3 none 1 none S1 0 [(0, .ref 60), (1, .ref 59), (2, .int x2)] [] S
  refine z_iload_n (pc := 0) (q := 2) dX3_store_0 rfl rfl ?_
  refine z_if_lt (pc := 1) (tgt := 69) dX3_store_1 (by decide) (fun c1 => ?_) (fun c1 => ?_)
  · have h := zt_some c1 h
    cases h
    exact z_vret dX3_store_69
  · have h := ze_some c1 h
    refine z_iload_n (pc := 4) (q := 2) dX3_store_4 rfl rfl ?_
    refine z_bipush (pc := 5) (v := 27) dX3_store_5 zcb_27 ?_
    refine z_iadd (pc := 7) dX3_store_7 ?_
    refine z_aload_n (pc := 8) (q := 1) dX3_store_8 rfl rfl ?_
    refine z_alen (pc := 9) (v := 108) dX3_store_9 aX_59 (by decide) (by decide) ?_
    refine z_icmp_gt (pc := 10) (tgt := 69) dX3_store_10 (by decide) (fun c2 => ?_) (fun c2 => ?_)
    · have h := zt_some c2 h
      cases h
      exact z_vret dX3_store_69
    · have h := ze_some c2 h
      refine z_aload_n (pc := 13) (q := 1) dX3_store_13 rfl rfl ?_
      refine z_iload_n (pc := 14) (q := 2) dX3_store_14 rfl rfl ?_
      refine z_aload_n (pc := 15) (q := 0) dX3_store_15 rfl rfl ?_
      refine z_getI (pc := 16) dX3_store_16 zf_X3_24 gX_60_0 ?_
      obtain ⟨c3, h⟩ := zg_some h
      obtain ⟨T4, eT4, h⟩ := zl_some h
      refine z_iast (pc := 19) dX3_store_19 aX_59 c3 eT4 ?_
      refine z_aload_n (pc := 20) (q := 1) dX3_store_20 rfl rfl ?_
      refine z_iload_n (pc := 21) (q := 2) dX3_store_21 rfl rfl ?_
      refine z_iconst (pc := 22) (v := 1) dX3_store_22 zci_1 ?_
      refine z_iadd (pc := 23) dX3_store_23 ?_
      refine z_aload_n (pc := 24) (q := 0) dX3_store_24 rfl rfl ?_
      refine z_getI (pc := 25) dX3_store_25 zf_X3_27 gX_60_1 ?_
      obtain ⟨c5, h⟩ := zg_some h
      obtain ⟨T6, eT6, h⟩ := zl_some h
      refine z_iast (pc := 28) dX3_store_28 aX_59 c5 eT6 ?_
      refine z_aload_n (pc := 29) (q := 1) dX3_store_29 rfl rfl ?_
      refine z_iload_n (pc := 30) (q := 2) dX3_store_30 rfl rfl ?_
      refine z_iconst (pc := 31) (v := 2) dX3_store_31 zci_2 ?_
      refine z_iadd (pc := 32) dX3_store_32 ?_
      refine z_aload_n (pc := 33) (q := 0) dX3_store_33 rfl rfl ?_
      refine z_getI (pc := 34) dX3_store_34 zf_X3_33 gX_60_2 ?_
      obtain ⟨c7, h⟩ := zg_some h
      obtain ⟨T8, eT8, h⟩ := zl_some h
      refine z_iast (pc := 37) dX3_store_37 aX_59 c7 eT8 ?_
      refine z_aload_n (pc := 38) (q := 0) dX3_store_38 rfl rfl ?_
      refine z_getR (pc := 39) dX3_store_39 zf_X3_9 gX_60_3 ?_
      refine z_iconst (pc := 42) (v := 0) dX3_store_42 zci_0 ?_
      refine z_aload_n (pc := 43) (q := 1) dX3_store_43 rfl rfl ?_
      refine z_iload_n (pc := 44) (q := 2) dX3_store_44 rfl rfl ?_
      refine z_iconst (pc := 45) (v := 3) dX3_store_45 zci_3 ?_
      refine z_iadd (pc := 46) dX3_store_46 ?_
      refine z_bipush (pc := 47) (v := 12) dX3_store_47 zcb_12 ?_
      obtain ⟨c9, h⟩ := zg_some h
      obtain ⟨T10, eT10, h⟩ := zl_some h
      refine z_copy (pc := 49) dX3_store_49 zm_X3_40 zM_copy.1 zM_copy.2.1 zM_copy.2.2 aX_61 aX_59 c9 (by decide) (Nat.le_of_ble_eq_true rfl) eT10 ?_
      refine z_aload_n (pc := 52) (q := 0) dX3_store_52 rfl rfl ?_
      refine z_getR (pc := 53) dX3_store_53 zf_X3_15 gX_60_4 ?_
      refine z_iconst (pc := 56) (v := 0) dX3_store_56 zci_0 ?_
      refine z_aload_n (pc := 57) (q := 1) dX3_store_57 rfl rfl ?_
      refine z_iload_n (pc := 58) (q := 2) dX3_store_58 rfl rfl ?_
      refine z_iconst (pc := 59) (v := 3) dX3_store_59 zci_3 ?_
      refine z_iadd (pc := 60) dX3_store_60 ?_
      refine z_bipush (pc := 61) (v := 12) dX3_store_61 zcb_12 ?_
      refine z_iadd (pc := 63) dX3_store_63 ?_
      refine z_bipush (pc := 64) (v := 12) dX3_store_64 zcb_12 ?_
      obtain ⟨c11, h⟩ := zg_some h
      obtain ⟨T12, eT12, h⟩ := zl_some h
      refine z_copy (pc := 66) dX3_store_66 zm_X3_40 zM_copy.1 zM_copy.2.1 zM_copy.2.2 aX_62 aX_59 c11 (by decide) (Nat.le_of_ble_eq_true rfl) eT12 ?_
      cases h
      exact z_vret dX3_store_69
def f_X9_search_56_5_B41 (F : Int32 → Int32 → zS → Option zS) (x3 : Int32) (x4 : Int32) (S : zS) : Option zS :=
  zb (f_X1_standing_13 x4 S) fun r3 T2 =>
  zb (f_J6_bitCount_0f7a4 r3 T2) fun r6 T5 =>
  zu (f_X9_judge_56 r6 x3 T5) fun T8 =>
  some T8
def f_X9_search_56_5_B111 (F : Int32 → Int32 → zS → Option zS) (K62 : Int32 → Int32 → Int32 → Int32 → zS → Option zS) (x2 : Int32) (x3 : Int32) (x4 : Int32) (x5 : Int32) (x6 : Int32) (s0 : Int32) (S : zS) : Option zS :=
  if s0 = 0 then
    zb (f_J6_bitCount_0f7a4 x4 S) fun r4 T3 =>
    zb (f_X9_isBetter_56 r4 x6 T3) fun r7 T6 =>
    if r7 = 0 then
      zlet (x5 + 1) fun v9 =>
      K62 x2 x3 x4 v9 T6
    else
      zu (f_X3_load_60_59 (x2 * 27) T6) fun T10 =>
      zu (f_X3_cut_60_13 x5 (T10.1 56 1) T10) fun T12 =>
      zu (f_X3_passYear_60_5 T12) fun T14 =>
      zu (f_X3_store_60_59 ((x2 + 1) * 27) T14) fun T16 =>
      if zin x2 3 then
      zlet (zput T16 57 x2.toNatClampNeg x5) fun T18 =>
      zu (F (x2 + 1) x6 T18) fun T20 =>
      zlet (x5 + 1) fun v21 =>
      K62 x2 x3 x4 v21 T20 else none
  else
    zlet (x5 + 1) fun v2 =>
    K62 x2 x3 x4 v2 S
def f_X9_search_56_5_B84 (F : Int32 → Int32 → zS → Option zS) (K62 : Int32 → Int32 → Int32 → Int32 → zS → Option zS) (x2 : Int32) (x3 : Int32) (x4 : Int32) (x5 : Int32) (s0 : Int32) (S : zS) : Option zS :=
  if x5 = (-1) then
    f_X9_search_56_5_B111 F K62 x2 x3 x4 x5 s0 0 S
  else
    zb (f_X1_onStake_13 x5 x4 S) fun r4 T3 =>
    if r4 = 0 then
      f_X9_search_56_5_B111 F K62 x2 x3 x4 x5 s0 1 T3
    else
      f_X9_search_56_5_B111 F K62 x2 x3 x4 x5 s0 0 T3
def f_X9_search_56_5_L62 (F : Int32 → Int32 → zS → Option zS) : Nat → Int32 → Int32 → Int32 → Int32 → zS → Option zS
  | 0, _, _, _, _, _ => none
  | n + 1, x2, x3, x4, x5, S =>
    if x5 < (S.1 5 0) then
      if x5 = (-1) then
        f_X9_search_56_5_B84 F (f_X9_search_56_5_L62 F n) x2 x3 x4 x5 x3 S
      else
        f_X9_search_56_5_B84 F (f_X9_search_56_5_L62 F n) x2 x3 x4 x5 (x3 + 1) S
    else
      some S
def fb_X9_search_56_5 (F : Int32 → Int32 → zS → Option zS) (x2 : Int32) (x3 : Int32) (S : zS) : Option zS :=
  zu (f_X3_load_60_59 (x2 * 27) S) fun T2 =>
  zb (f_X3_livingBits_60 T2) fun r5 T4 =>
  if x2 < 0 then
    f_X9_search_56_5_B41 F x3 r5 T4
  else
    if x2 < (T4.1 56 0) then
      if x2 < 3 then
        f_X9_search_56_5_L62 F zN x2 x3 r5 (-1) T4
      else
        f_X9_search_56_5_B41 F x3 r5 T4
    else
      f_X9_search_56_5_B41 F x3 r5 T4
set_option maxRecDepth 100000 in
theorem w_X9_search_56_5_B41 (l : Launch) {kF : Nat} (hkF : 5 ≤ kF) {F : Int32 → Int32 → zS → Option zS} (hF : ∀ (x2 : Int32) (x3 : Int32) (S : zS) (S1 : zS), F x2 x3 S = some S1 → zMet zLX l yX9_search cX9_search 8 none kF [.ref 56, .ref 5, .int x2, .int x3] S none S1) {S1 : zS} (x3 : Int32) (x4 : Int32) (S : zS) (h : f_X9_search_56_5_B41 F x3 x4 S = some S1) : WA zLX l RX9 cX9_search 8 none (kF + 1) none S1 41 [(0, .ref 56), (1, .ref 5), (3, .int x3), (4, .int x4)] [] S := by
  unfold f_X9_search_56_5_B41 at h
  refine z_aload_n (pc := 41) (q := 0) dX9_search_41 rfl rfl ?_
  refine z_aload_n (pc := 42) (q := 1) dX9_search_42 rfl rfl ?_
  refine z_getR (pc := 43) dX9_search_43 zf_X9_56 gX_5_13 ?_
  refine z_iload (pc := 46) (q := 3) dX9_search_46 rfl ?_
  obtain ⟨r3, T2, q1, h⟩ := zb_some h
  refine z_callVi (pc := 48) (st := [.ref 56]) [.int x4] dX9_search_48 zm_X9_62 zM_X1_standing (by omega) oX_13 rfl (w_X1_standing_13 l q1) rfl rfl (Nat.le_of_ble_eq_true rfl) ?_
  obtain ⟨r6, T5, q4, h⟩ := zb_some h
  refine z_callSi (pc := 51) (st := [.ref 56]) [.int r3] dX9_search_51 zm_X9_68 zM_J6_bitCount_0f7a4 (by omega) (w_J6_bitCount_0f7a4 l q4) rfl rfl (Nat.le_of_ble_eq_true rfl) ?_
  refine z_iload_n (pc := 54) (q := 2) dX9_search_54 rfl rfl ?_
  obtain ⟨T8, q7, h⟩ := zu_some h
  refine z_callVv (pc := 55) (st := []) [.int r6, .int x3] dX9_search_55 zm_X9_73 zM_X9_judge (by omega) oX_56 rfl (w_X9_judge_56 l q7) rfl rfl (Nat.le_of_ble_eq_true rfl) ?_
  cases h
  exact z_vret dX9_search_58
set_option maxRecDepth 100000 in
theorem w_X9_search_56_5_B111 (l : Launch) {kF : Nat} (hkF : 5 ≤ kF) {F : Int32 → Int32 → zS → Option zS} (hF : ∀ (x2 : Int32) (x3 : Int32) (S : zS) (S1 : zS), F x2 x3 S = some S1 → zMet zLX l yX9_search cX9_search 8 none kF [.ref 56, .ref 5, .int x2, .int x3] S none S1) {S1 : zS} (K62 : Int32 → Int32 → Int32 → Int32 → zS → Option zS) (hK62 : ∀ (x2 : Int32) (x3 : Int32) (x4 : Int32) (x5 : Int32) (S : zS), K62 x2 x3 x4 x5 S = some S1 → WA zLX l RX9 cX9_search 8 none (kF + 1) none S1 62 [(0, .ref 56), (1, .ref 5), (2, .int x2), (3, .int x3), (4, .int x4), (5, .int x5)] [] S) (x2 : Int32) (x3 : Int32) (x4 : Int32) (x5 : Int32) (x6 : Int32) (s0 : Int32) (S : zS) (h : f_X9_search_56_5_B111 F K62 x2 x3 x4 x5 x6 s0 S = some S1) : WA zLX l RX9 cX9_search 8 none (kF + 1) none S1 111 [(0, .ref 56), (1, .ref 5), (2, .int x2), (3, .int x3), (4, .int x4), (5, .int x5), (6, .int x6)] [.int s0] S := by
  unfold f_X9_search_56_5_B111 at h
  refine z_istore (pc := 111) (lo' := [(7, .int s0), (0, .ref 56), (1, .ref 5), (2, .int x2), (3, .int x3), (4, .int x4), (5, .int x5), (6, .int x6)]) dX9_search_111 (by decide) rfl ?_
  refine z_iload (pc := 113) (q := 0) dX9_search_113 rfl ?_
  refine z_if_ne (pc := 115) (tgt := 207) dX9_search_115 (by decide) (fun c1 => ?_) (fun c1 => ?_)
  · have h := ze_some c1 h
    obtain ⟨v2, ev2, h⟩ := zl_some h
    refine z_iinc (pc := 207) (q := 6) (v := v2) (lo' := [(5, .int v2), (7, .int s0), (0, .ref 56), (1, .ref 5), (2, .int x2), (3, .int x3), (4, .int x4), (6, .int x6)]) dX9_search_207 rfl (by rw [ev2, zci_1]) (by decide) rfl ?_
    refine z_goto (pc := 210) (tgt := 62) dX9_search_210 (by decide) ?_
    exact z_sub [2, 3, 4, 5, 6, 0] rfl (hK62 x2 x3 x4 v2 S h)
  · have h := zt_some c1 h
    refine z_aload_n (pc := 118) (q := 1) dX9_search_118 rfl rfl ?_
    refine z_iload (pc := 119) (q := 5) dX9_search_119 rfl ?_
    obtain ⟨r4, T3, q2, h⟩ := zb_some h
    refine z_callSi (pc := 121) (st := [.ref 56]) [.int x4] dX9_search_121 zm_X9_68 zM_J6_bitCount_0f7a4 (by omega) (w_J6_bitCount_0f7a4 l q2) rfl rfl (Nat.le_of_ble_eq_true rfl) ?_
    refine z_iload (pc := 124) (q := 7) dX9_search_124 rfl ?_
    obtain ⟨r7, T6, q5, h⟩ := zb_some h
    refine z_callVi (pc := 126) (st := []) [.int r4, .int x6] dX9_search_126 zm_X9_84 zM_X9_isBetter (by omega) oX_56 rfl (w_X9_isBetter_56 l q5) rfl rfl (Nat.le_of_ble_eq_true rfl) ?_
    refine z_if_eq (pc := 129) (tgt := 207) dX9_search_129 (by decide) (fun c8 => ?_) (fun c8 => ?_)
    · have h := zt_some c8 h
      obtain ⟨v9, ev9, h⟩ := zl_some h
      refine z_iinc (pc := 207) (q := 6) (v := v9) (lo' := [(5, .int v9), (7, .int s0), (0, .ref 56), (1, .ref 5), (2, .int x2), (3, .int x3), (4, .int x4), (6, .int x6)]) dX9_search_207 rfl (by rw [ev9, zci_1]) (by decide) rfl ?_
      refine z_goto (pc := 210) (tgt := 62) dX9_search_210 (by decide) ?_
      exact z_sub [2, 3, 4, 5, 6, 0] rfl (hK62 x2 x3 x4 v9 T6 h)
    · have h := ze_some c8 h
      refine z_aload_n (pc := 132) (q := 1) dX9_search_132 rfl rfl ?_
      refine z_getR (pc := 133) dX9_search_133 zf_X9_24 gX_56_7 ?_
      refine z_aload_n (pc := 136) (q := 1) dX9_search_136 rfl rfl ?_
      refine z_getR (pc := 137) dX9_search_137 zf_X9_20 gX_56_6 ?_
      refine z_iload_n (pc := 140) (q := 3) dX9_search_140 rfl rfl ?_
      refine z_bipush (pc := 141) (v := 27) dX9_search_141 zcb_27 ?_
      refine z_imul (pc := 143) dX9_search_143 ?_
      obtain ⟨T10, q9, h⟩ := zu_some h
      refine z_callVv (pc := 144) (st := []) [.ref 59, .int (x2 * 27)] dX9_search_144 zm_X9_49 zM_X3_load (by omega) oX_60 rfl (w_X3_load_60_59 l q9) rfl rfl (Nat.le_of_ble_eq_true rfl) ?_
      refine z_aload_n (pc := 147) (q := 1) dX9_search_147 rfl rfl ?_
      refine z_getR (pc := 148) dX9_search_148 zf_X9_24 gX_56_7 ?_
      refine z_aload_n (pc := 151) (q := 2) dX9_search_151 rfl rfl ?_
      refine z_getR (pc := 152) dX9_search_152 zf_X9_56 gX_5_13 ?_
      refine z_iload (pc := 155) (q := 6) dX9_search_155 rfl ?_
      refine z_aload_n (pc := 157) (q := 1) dX9_search_157 rfl rfl ?_
      refine z_getI (pc := 158) dX9_search_158 zf_X9_32 gX_56_1 ?_
      obtain ⟨T12, q11, h⟩ := zu_some h
      refine z_callVv (pc := 161) (st := []) [.ref 13, .int x5, .int (T10.1 56 1)] dX9_search_161 zm_X9_88 zM_X3_cut (by omega) oX_60 rfl (w_X3_cut_60_13 l q11) rfl rfl (Nat.le_of_ble_eq_true rfl) ?_
      refine z_aload_n (pc := 164) (q := 1) dX9_search_164 rfl rfl ?_
      refine z_getR (pc := 165) dX9_search_165 zf_X9_24 gX_56_7 ?_
      refine z_aload_n (pc := 168) (q := 2) dX9_search_168 rfl rfl ?_
      obtain ⟨T14, q13, h⟩ := zu_some h
      refine z_callVv (pc := 169) (st := []) [.ref 5] dX9_search_169 zm_X9_92 zM_X3_passYear (by omega) oX_60 rfl (w_X3_passYear_60_5 l q13) rfl rfl (Nat.le_of_ble_eq_true rfl) ?_
      refine z_aload_n (pc := 172) (q := 1) dX9_search_172 rfl rfl ?_
      refine z_getR (pc := 173) dX9_search_173 zf_X9_24 gX_56_7 ?_
      refine z_aload_n (pc := 176) (q := 1) dX9_search_176 rfl rfl ?_
      refine z_getR (pc := 177) dX9_search_177 zf_X9_20 gX_56_6 ?_
      refine z_iload_n (pc := 180) (q := 3) dX9_search_180 rfl rfl ?_
      refine z_iconst (pc := 181) (v := 1) dX9_search_181 zci_1 ?_
      refine z_iadd (pc := 182) dX9_search_182 ?_
      refine z_bipush (pc := 183) (v := 27) dX9_search_183 zcb_27 ?_
      refine z_imul (pc := 185) dX9_search_185 ?_
      obtain ⟨T16, q15, h⟩ := zu_some h
      refine z_callVv (pc := 186) (st := []) [.ref 59, .int ((x2 + 1) * 27)] dX9_search_186 zm_X9_41 zM_X3_store (by omega) oX_60 rfl (w_X3_store_60_59 l q15) rfl rfl (Nat.le_of_ble_eq_true rfl) ?_
      refine z_aload_n (pc := 189) (q := 1) dX9_search_189 rfl rfl ?_
      refine z_getR (pc := 190) dX9_search_190 zf_X9_9 gX_56_4 ?_
      refine z_iload_n (pc := 193) (q := 3) dX9_search_193 rfl rfl ?_
      refine z_iload (pc := 194) (q := 6) dX9_search_194 rfl ?_
      obtain ⟨c17, h⟩ := zg_some h
      obtain ⟨T18, eT18, h⟩ := zl_some h
      refine z_iast (pc := 196) dX9_search_196 aX_57 c17 eT18 ?_
      refine z_aload_n (pc := 197) (q := 1) dX9_search_197 rfl rfl ?_
      refine z_aload_n (pc := 198) (q := 2) dX9_search_198 rfl rfl ?_
      refine z_iload_n (pc := 199) (q := 3) dX9_search_199 rfl rfl ?_
      refine z_iconst (pc := 200) (v := 1) dX9_search_200 zci_1 ?_
      refine z_iadd (pc := 201) dX9_search_201 ?_
      refine z_iload (pc := 202) (q := 7) dX9_search_202 rfl ?_
      obtain ⟨T20, q19, h⟩ := zu_some h
      refine z_callVv (pc := 204) (st := []) [.ref 5, .int (x2 + 1), .int x6] dX9_search_204 zm_X9_45 zM_X9_search (by omega) oX_56 rfl (hF (x2 + 1) x6 _ _ q19) rfl rfl (Nat.le_of_ble_eq_true rfl) ?_
      obtain ⟨v21, ev21, h⟩ := zl_some h
      refine z_iinc (pc := 207) (q := 6) (v := v21) (lo' := [(5, .int v21), (7, .int s0), (0, .ref 56), (1, .ref 5), (2, .int x2), (3, .int x3), (4, .int x4), (6, .int x6)]) dX9_search_207 rfl (by rw [ev21, zci_1]) (by decide) rfl ?_
      refine z_goto (pc := 210) (tgt := 62) dX9_search_210 (by decide) ?_
      exact z_sub [2, 3, 4, 5, 6, 0] rfl (hK62 x2 x3 x4 v21 T20 h)
set_option maxRecDepth 100000 in
theorem w_X9_search_56_5_B84 (l : Launch) {kF : Nat} (hkF : 5 ≤ kF) {F : Int32 → Int32 → zS → Option zS} (hF : ∀ (x2 : Int32) (x3 : Int32) (S : zS) (S1 : zS), F x2 x3 S = some S1 → zMet zLX l yX9_search cX9_search 8 none kF [.ref 56, .ref 5, .int x2, .int x3] S none S1) {S1 : zS} (K62 : Int32 → Int32 → Int32 → Int32 → zS → Option zS) (hK62 : ∀ (x2 : Int32) (x3 : Int32) (x4 : Int32) (x5 : Int32) (S : zS), K62 x2 x3 x4 x5 S = some S1 → WA zLX l RX9 cX9_search 8 none (kF + 1) none S1 62 [(0, .ref 56), (1, .ref 5), (2, .int x2), (3, .int x3), (4, .int x4), (5, .int x5)] [] S) (x2 : Int32) (x3 : Int32) (x4 : Int32) (x5 : Int32) (s0 : Int32) (S : zS) (h : f_X9_search_56_5_B84 F K62 x2 x3 x4 x5 s0 S = some S1) : WA zLX l RX9 cX9_search 8 none (kF + 1) none S1 84 [(0, .ref 56), (1, .ref 5), (2, .int x2), (3, .int x3), (4, .int x4), (5, .int x5)] [.int s0] S := by
  unfold f_X9_search_56_5_B84 at h
  refine z_istore (pc := 84) (lo' := [(6, .int s0), (0, .ref 56), (1, .ref 5), (2, .int x2), (3, .int x3), (4, .int x4), (5, .int x5)]) dX9_search_84 (by decide) rfl ?_
  refine z_iload (pc := 86) (q := 6) dX9_search_86 rfl ?_
  refine z_iconst (pc := 88) (v := (-1)) dX9_search_88 zci_m1 ?_
  refine z_icmp_eq (pc := 89) (tgt := 110) dX9_search_89 (by decide) (fun c1 => ?_) (fun c1 => ?_)
  · have h := zt_some c1 h
    refine z_iconst (pc := 110) (v := 0) dX9_search_110 zci_0 ?_
    exact z_sub [1, 2, 3, 4, 5, 6, 0] rfl (w_X9_search_56_5_B111 l hkF hF K62 hK62 x2 x3 x4 x5 s0 0 S h)
  · have h := ze_some c1 h
    refine z_aload_n (pc := 92) (q := 2) dX9_search_92 rfl rfl ?_
    refine z_getR (pc := 93) dX9_search_93 zf_X9_56 gX_5_13 ?_
    refine z_iload (pc := 96) (q := 6) dX9_search_96 rfl ?_
    refine z_iload (pc := 98) (q := 5) dX9_search_98 rfl ?_
    obtain ⟨r4, T3, q2, h⟩ := zb_some h
    refine z_callVi (pc := 100) (st := []) [.int x5, .int x4] dX9_search_100 zm_X9_80 zM_X1_onStake (by omega) oX_13 rfl (w_X1_onStake_13 l q2) rfl rfl (Nat.le_of_ble_eq_true rfl) ?_
    refine z_if_ne (pc := 103) (tgt := 110) dX9_search_103 (by decide) (fun c5 => ?_) (fun c5 => ?_)
    · have h := ze_some c5 h
      refine z_iconst (pc := 110) (v := 0) dX9_search_110 zci_0 ?_
      exact z_sub [1, 2, 3, 4, 5, 6, 0] rfl (w_X9_search_56_5_B111 l hkF hF K62 hK62 x2 x3 x4 x5 s0 0 T3 h)
    · have h := zt_some c5 h
      refine z_iconst (pc := 106) (v := 1) dX9_search_106 zci_1 ?_
      refine z_goto (pc := 107) (tgt := 111) dX9_search_107 (by decide) ?_
      exact z_sub [1, 2, 3, 4, 5, 6, 0] rfl (w_X9_search_56_5_B111 l hkF hF K62 hK62 x2 x3 x4 x5 s0 1 T3 h)
set_option maxRecDepth 100000 in
theorem w_X9_search_56_5_L62 (l : Launch) {kF : Nat} (hkF : 5 ≤ kF) {F : Int32 → Int32 → zS → Option zS} (hF : ∀ (x2 : Int32) (x3 : Int32) (S : zS) (S1 : zS), F x2 x3 S = some S1 → zMet zLX l yX9_search cX9_search 8 none kF [.ref 56, .ref 5, .int x2, .int x3] S none S1) {S1 : zS} : ∀ (n : Nat) (x2 : Int32) (x3 : Int32) (x4 : Int32) (x5 : Int32) (S : zS), f_X9_search_56_5_L62 F n x2 x3 x4 x5 S = some S1 → WA zLX l RX9 cX9_search 8 none (kF + 1) none S1 62 [(0, .ref 56), (1, .ref 5), (2, .int x2), (3, .int x3), (4, .int x4), (5, .int x5)] [] S := by
  intro n
  induction n with
  | zero =>
    intro x2 x3 x4 x5 S h
    exact nomatch h
  | succ n ih =>
    intro x2 x3 x4 x5 S h
    rw [f_X9_search_56_5_L62] at h
    refine z_iload (pc := 62) (q := 5) dX9_search_62 rfl ?_
    refine z_aload_n (pc := 64) (q := 1) dX9_search_64 rfl rfl ?_
    refine z_getI (pc := 65) dX9_search_65 zf_X9_77 gX_5_0 ?_
    refine z_icmp_ge (pc := 68) (tgt := 213) dX9_search_68 (by decide) (fun c1 => ?_) (fun c1 => ?_)
    · have h := ze_some c1 h
      cases h
      exact z_vret dX9_search_213
    · have h := zt_some c1 h
      refine z_iload (pc := 71) (q := 5) dX9_search_71 rfl ?_
      refine z_iconst (pc := 73) (v := (-1)) dX9_search_73 zci_m1 ?_
      refine z_icmp_ne (pc := 74) (tgt := 81) dX9_search_74 (by decide) (fun c2 => ?_) (fun c2 => ?_)
      · have h := ze_some c2 h
        refine z_iload_n (pc := 81) (q := 3) dX9_search_81 rfl rfl ?_
        refine z_iconst (pc := 82) (v := 1) dX9_search_82 zci_1 ?_
        refine z_iadd (pc := 83) dX9_search_83 ?_
        exact w_X9_search_56_5_B84 l hkF hF (f_X9_search_56_5_L62 F n) ih x2 x3 x4 x5 (x3 + 1) S h
      · have h := zt_some c2 h
        refine z_iload_n (pc := 77) (q := 3) dX9_search_77 rfl rfl ?_
        refine z_goto (pc := 78) (tgt := 84) dX9_search_78 (by decide) ?_
        exact w_X9_search_56_5_B84 l hkF hF (f_X9_search_56_5_L62 F n) ih x2 x3 x4 x5 x3 S h
set_option maxRecDepth 100000 in
theorem wb_X9_search_56_5 (l : Launch) {kF : Nat} (hkF : 5 ≤ kF) {F : Int32 → Int32 → zS → Option zS} (hF : ∀ (x2 : Int32) (x3 : Int32) (S : zS) (S1 : zS), F x2 x3 S = some S1 → zMet zLX l yX9_search cX9_search 8 none kF [.ref 56, .ref 5, .int x2, .int x3] S none S1) {x2 : Int32} {x3 : Int32} {S : zS} {S1 : zS} (h : fb_X9_search_56_5 F x2 x3 S = some S1) : zMet zLX l yX9_search cX9_search 8 none (kF + 1) [.ref 56, .ref 5, .int x2, .int x3] S none S1 := by
  unfold fb_X9_search_56_5 at h
  refine zMet.of (by decide +kernel) (Nat.le_of_ble_eq_true rfl) ?_
  show WA zLX l RX9 cX9_search 8 none (kF + 1) none S1 0 [(0, .ref 56), (1, .ref 5), (2, .int x2), (3, .int x3)] [] S
  refine z_aload_n (pc := 0) (q := 0) dX9_search_0 rfl rfl ?_
  refine z_getR (pc := 1) dX9_search_1 zf_X9_24 gX_56_7 ?_
  refine z_aload_n (pc := 4) (q := 0) dX9_search_4 rfl rfl ?_
  refine z_getR (pc := 5) dX9_search_5 zf_X9_20 gX_56_6 ?_
  refine z_iload_n (pc := 8) (q := 2) dX9_search_8 rfl rfl ?_
  refine z_bipush (pc := 9) (v := 27) dX9_search_9 zcb_27 ?_
  refine z_imul (pc := 11) dX9_search_11 ?_
  obtain ⟨T2, q1, h⟩ := zu_some h
  refine z_callVv (pc := 12) (st := []) [.ref 59, .int (x2 * 27)] dX9_search_12 zm_X9_49 zM_X3_load (by omega) oX_60 rfl (w_X3_load_60_59 l q1) rfl rfl (Nat.le_of_ble_eq_true rfl) ?_
  refine z_aload_n (pc := 15) (q := 0) dX9_search_15 rfl rfl ?_
  refine z_getR (pc := 16) dX9_search_16 zf_X9_24 gX_56_7 ?_
  obtain ⟨r5, T4, q3, h⟩ := zb_some h
  refine z_callVi (pc := 19) (st := []) [] dX9_search_19 zm_X9_52 zM_X3_livingBits (by omega) oX_60 rfl (w_X3_livingBits_60 l q3) rfl rfl (Nat.le_of_ble_eq_true rfl) ?_
  refine z_istore (pc := 22) (lo' := [(4, .int r5), (0, .ref 56), (1, .ref 5), (2, .int x2), (3, .int x3)]) dX9_search_22 (by decide) rfl ?_
  refine z_iload_n (pc := 24) (q := 3) dX9_search_24 rfl rfl ?_
  refine z_if_lt (pc := 25) (tgt := 41) dX9_search_25 (by decide) (fun c6 => ?_) (fun c6 => ?_)
  · have h := zt_some c6 h
    exact z_sub [1, 2, 4, 0] rfl (w_X9_search_56_5_B41 l hkF hF x3 r5 T4 h)
  · have h := ze_some c6 h
    refine z_iload_n (pc := 28) (q := 3) dX9_search_28 rfl rfl ?_
    refine z_aload_n (pc := 29) (q := 1) dX9_search_29 rfl rfl ?_
    refine z_getI (pc := 30) dX9_search_30 zf_X9_28 gX_56_0 ?_
    refine z_icmp_ge (pc := 33) (tgt := 41) dX9_search_33 (by decide) (fun c7 => ?_) (fun c7 => ?_)
    · have h := ze_some c7 h
      exact z_sub [1, 2, 4, 0] rfl (w_X9_search_56_5_B41 l hkF hF x3 r5 T4 h)
    · have h := zt_some c7 h
      refine z_iload_n (pc := 36) (q := 3) dX9_search_36 rfl rfl ?_
      refine z_iconst (pc := 37) (v := 3) dX9_search_37 zci_3 ?_
      refine z_icmp_lt (pc := 38) (tgt := 59) dX9_search_38 (by decide) (fun c8 => ?_) (fun c8 => ?_)
      · have h := zt_some c8 h
        refine z_iconst (pc := 59) (v := (-1)) dX9_search_59 zci_m1 ?_
        refine z_istore (pc := 60) (lo' := [(5, .int (-1)), (4, .int r5), (0, .ref 56), (1, .ref 5), (2, .int x2), (3, .int x3)]) dX9_search_60 (by decide) rfl ?_
        exact z_sub [2, 3, 4, 5, 1, 0] rfl (w_X9_search_56_5_L62 l hkF hF zN x2 x3 r5 (-1) T4 h)
      · have h := ze_some c8 h
        exact z_sub [1, 2, 4, 0] rfl (w_X9_search_56_5_B41 l hkF hF x3 r5 T4 h)
def f_X9_search_56_5 : Nat → Int32 → Int32 → zS → Option zS
  | 0, _, _, _ => none
  | d + 1, x2, x3, S => fb_X9_search_56_5 (f_X9_search_56_5 d) x2 x3 S
theorem wd_X9_search_56_5 (l : Launch) : ∀ (d : Nat) (x2 : Int32) (x3 : Int32) (S : zS) (S1 : zS), f_X9_search_56_5 d x2 x3 S = some S1 → zMet zLX l yX9_search cX9_search 8 none (5 + 1 * d) [.ref 56, .ref 5, .int x2, .int x3] S none S1 := by
  intro d
  induction d with
  | zero =>
    intro x2 x3 S S1 h
    exact nomatch h
  | succ d ih =>
    intro x2 x3 S S1 h
    rw [f_X9_search_56_5] at h
    exact wb_X9_search_56_5 l (kF := 5 + 1 * d) (by omega) ih h
theorem w_X9_search_56_5 (l : Launch) (d : Nat) {x2 : Int32} {x3 : Int32} {S : zS} {S1 : zS} (h : f_X9_search_56_5 d x2 x3 S = some S1) : zMet zLX l yX9_search cX9_search 8 none (5 + 1 * d) [.ref 56, .ref 5, .int x2, .int x3] S none S1 := wd_X9_search_56_5 l d x2 x3 S S1 h
def f_X9_best_56_5_37 (x3 : Int32) (x4 : Int32) (S : zS) : Option (Int32 × zS) :=
  zlet (zput S 56 0 x3) fun T1 =>
  zlet (zput T1 56 1 x4) fun T2 =>
  zlet (zput T2 56 2 (-1)) fun T3 =>
  zlet (zput T3 56 3 0) fun T4 =>
  zu (f_X3_store_37_59 0 T4) fun T6 =>
  zu (f_X9_search_56_5 5 0 0 T6) fun T8 =>
  some (T8.1 56 2, T8)
set_option maxRecDepth 100000 in
theorem w_X9_best_56_5_37 (l : Launch) {x3 : Int32} {x4 : Int32} {S : zS} {r : Int32} {S1 : zS} (h : f_X9_best_56_5_37 x3 x4 S = some (r, S1)) : zMet zLX l yX9_best cX9_best 5 (some .int) 11 [.ref 56, .ref 5, .ref 37, .int x3, .int x4] S (some (.int r)) S1 := by
  unfold f_X9_best_56_5_37 at h
  refine zMet.of (by decide +kernel) (Nat.le_of_ble_eq_true rfl) ?_
  show WA zLX l RX9 cX9_best 5 (some .int) 11 (some (.int r)) S1 0 [(0, .ref 56), (1, .ref 5), (2, .ref 37), (3, .int x3), (4, .int x4)] [] S
  refine z_aload_n (pc := 0) (q := 0) dX9_best_0 rfl rfl ?_
  refine z_iload_n (pc := 1) (q := 3) dX9_best_1 rfl rfl ?_
  obtain ⟨T1, eT1, h⟩ := zl_some h
  refine z_putI (pc := 2) dX9_best_2 zp_X9_28 gX_56_0 rfl rfl eT1 ?_
  refine z_aload_n (pc := 5) (q := 0) dX9_best_5 rfl rfl ?_
  refine z_iload (pc := 6) (q := 4) dX9_best_6 rfl ?_
  obtain ⟨T2, eT2, h⟩ := zl_some h
  refine z_putI (pc := 8) dX9_best_8 zp_X9_32 gX_56_1 rfl rfl eT2 ?_
  refine z_aload_n (pc := 11) (q := 0) dX9_best_11 rfl rfl ?_
  refine z_iconst (pc := 12) (v := (-1)) dX9_best_12 zci_m1 ?_
  obtain ⟨T3, eT3, h⟩ := zl_some h
  refine z_putI (pc := 13) dX9_best_13 zp_X9_35 gX_56_2 rfl rfl eT3 ?_
  refine z_aload_n (pc := 16) (q := 0) dX9_best_16 rfl rfl ?_
  refine z_iconst (pc := 17) (v := 0) dX9_best_17 zci_0 ?_
  obtain ⟨T4, eT4, h⟩ := zl_some h
  refine z_putI (pc := 18) dX9_best_18 zp_X9_38 gX_56_3 rfl rfl eT4 ?_
  refine z_aload_n (pc := 21) (q := 2) dX9_best_21 rfl rfl ?_
  refine z_aload_n (pc := 22) (q := 0) dX9_best_22 rfl rfl ?_
  refine z_getR (pc := 23) dX9_best_23 zf_X9_20 gX_56_6 ?_
  refine z_iconst (pc := 26) (v := 0) dX9_best_26 zci_0 ?_
  obtain ⟨T6, q5, h⟩ := zu_some h
  refine z_callVv (pc := 27) (st := []) [.ref 59, .int 0] dX9_best_27 zm_X9_41 zM_X3_store (by decide) oX_37 rfl (w_X3_store_37_59 l q5) rfl rfl (Nat.le_of_ble_eq_true rfl) ?_
  refine z_aload_n (pc := 30) (q := 0) dX9_best_30 rfl rfl ?_
  refine z_aload_n (pc := 31) (q := 1) dX9_best_31 rfl rfl ?_
  refine z_iconst (pc := 32) (v := 0) dX9_best_32 zci_0 ?_
  refine z_iconst (pc := 33) (v := 0) dX9_best_33 zci_0 ?_
  obtain ⟨T8, q7, h⟩ := zu_some h
  refine z_callVv (pc := 34) (st := []) [.ref 5, .int 0, .int 0] dX9_best_34 zm_X9_45 zM_X9_search (by decide) oX_56 rfl (w_X9_search_56_5 l 5 q7) rfl rfl (Nat.le_of_ble_eq_true rfl) ?_
  refine z_aload_n (pc := 37) (q := 0) dX9_best_37 rfl rfl ?_
  refine z_getI (pc := 38) dX9_best_38 zf_X9_35 gX_56_2 ?_
  obtain ⟨rfl, rfl⟩ := zr_some h
  exact z_iret dX9_best_41
def f_X9_stakeOf_56 (x1 : Int32) (S : zS) : Option (Int32 × zS) :=
  if x1 < 0 then
    some ((-1), S)
  else
    if x1 < 3 then
      if zin x1 3 then
      some (S.1 58 x1.toNatClampNeg, S) else none
    else
      some ((-1), S)
set_option maxRecDepth 100000 in
theorem w_X9_stakeOf_56 (l : Launch) {x1 : Int32} {S : zS} {r : Int32} {S1 : zS} (h : f_X9_stakeOf_56 x1 S = some (r, S1)) : zMet zLX l yX9_stakeOf cX9_stakeOf 2 (some .int) 1 [.ref 56, .int x1] S (some (.int r)) S1 := by
  unfold f_X9_stakeOf_56 at h
  refine zMet.of (by decide +kernel) (Nat.le_of_ble_eq_true rfl) ?_
  show WA zLX l RX9 cX9_stakeOf 2 (some .int) 1 (some (.int r)) S1 0 [(0, .ref 56), (1, .int x1)] [] S
  refine z_iload_n (pc := 0) (q := 1) dX9_stakeOf_0 rfl rfl ?_
  refine z_if_lt (pc := 1) (tgt := 22) dX9_stakeOf_1 (by decide) (fun c1 => ?_) (fun c1 => ?_)
  · have h := zt_some c1 h
    refine z_iconst (pc := 22) (v := (-1)) dX9_stakeOf_22 zci_m1 ?_
    obtain ⟨rfl, rfl⟩ := zr_some h
    exact z_iret dX9_stakeOf_23
  · have h := ze_some c1 h
    refine z_iload_n (pc := 4) (q := 1) dX9_stakeOf_4 rfl rfl ?_
    refine z_aload_n (pc := 5) (q := 0) dX9_stakeOf_5 rfl rfl ?_
    refine z_getR (pc := 6) dX9_stakeOf_6 zf_X9_15 gX_56_5 ?_
    refine z_alen (pc := 9) (v := 3) dX9_stakeOf_9 aX_58 (by decide) (by decide) ?_
    refine z_icmp_ge (pc := 10) (tgt := 22) dX9_stakeOf_10 (by decide) (fun c2 => ?_) (fun c2 => ?_)
    · have h := ze_some c2 h
      refine z_iconst (pc := 22) (v := (-1)) dX9_stakeOf_22 zci_m1 ?_
      obtain ⟨rfl, rfl⟩ := zr_some h
      exact z_iret dX9_stakeOf_23
    · have h := zt_some c2 h
      refine z_aload_n (pc := 13) (q := 0) dX9_stakeOf_13 rfl rfl ?_
      refine z_getR (pc := 14) dX9_stakeOf_14 zf_X9_15 gX_56_5 ?_
      refine z_iload_n (pc := 17) (q := 1) dX9_stakeOf_17 rfl rfl ?_
      obtain ⟨c3, h⟩ := zg_some h
      refine z_iald (pc := 18) dX9_stakeOf_18 aX_58 c3 ?_
      refine z_goto (pc := 19) (tgt := 23) dX9_stakeOf_19 (by decide) ?_
      obtain ⟨rfl, rfl⟩ := zr_some h
      exact z_iret dX9_stakeOf_23
def f_X11_layDown (x1 : Int32) (S : zS) : Option zS :=
  if (S.1 0 15) < 3 then
    if zin (S.1 0 15) 3 then
    zlet (zput S 66 (S.1 0 15).toNatClampNeg x1) fun T3 =>
    zlet (zput T3 0 15 ((T3.1 0 15) + 1)) fun T4 =>
    some T4 else none
  else
    some S
set_option maxRecDepth 100000 in
theorem w_X11_layDown (l : Launch) {x1 : Int32} {S : zS} {S1 : zS} (h : f_X11_layDown x1 S = some S1) : zMet zLX l yX11_layDown cX11_layDown 2 none 1 [.ref 0, .int x1] S none S1 := by
  unfold f_X11_layDown at h
  refine zMet.of (by decide +kernel) (Nat.le_of_ble_eq_true rfl) ?_
  show WA zLX l RX11 cX11_layDown 2 none 1 none S1 0 [(0, .ref 0), (1, .int x1)] [] S
  refine z_aload_n (pc := 0) (q := 0) dX11_layDown_0 rfl rfl ?_
  refine z_getI (pc := 1) dX11_layDown_1 zf_X11_115 gX_0_15 ?_
  refine z_aload_n (pc := 4) (q := 0) dX11_layDown_4 rfl rfl ?_
  refine z_getR (pc := 5) dX11_layDown_5 zf_X11_88 gX_0_14 ?_
  refine z_alen (pc := 8) (v := 3) dX11_layDown_8 aX_66 (by decide) (by decide) ?_
  refine z_icmp_ge (pc := 9) (tgt := 32) dX11_layDown_9 (by decide) (fun c1 => ?_) (fun c1 => ?_)
  · have h := ze_some c1 h
    cases h
    exact z_vret dX11_layDown_32
  · have h := zt_some c1 h
    refine z_aload_n (pc := 12) (q := 0) dX11_layDown_12 rfl rfl ?_
    refine z_getR (pc := 13) dX11_layDown_13 zf_X11_88 gX_0_14 ?_
    refine z_aload_n (pc := 16) (q := 0) dX11_layDown_16 rfl rfl ?_
    refine z_getI (pc := 17) dX11_layDown_17 zf_X11_115 gX_0_15 ?_
    refine z_iload_n (pc := 20) (q := 1) dX11_layDown_20 rfl rfl ?_
    obtain ⟨c2, h⟩ := zg_some h
    obtain ⟨T3, eT3, h⟩ := zl_some h
    refine z_iast (pc := 21) dX11_layDown_21 aX_66 c2 eT3 ?_
    refine z_aload_n (pc := 22) (q := 0) dX11_layDown_22 rfl rfl ?_
    refine z_dup (pc := 23) dX11_layDown_23 rfl ?_
    refine z_getI (pc := 24) dX11_layDown_24 zf_X11_115 gX_0_15 ?_
    refine z_iconst (pc := 27) (v := 1) dX11_layDown_27 zci_1 ?_
    refine z_iadd (pc := 28) dX11_layDown_28 ?_
    obtain ⟨T4, eT4, h⟩ := zl_some h
    refine z_putI (pc := 29) dX11_layDown_29 zp_X11_115 gX_0_15 rfl rfl eT4 ?_
    cases h
    exact z_vret dX11_layDown_32
def f_X11_plan_L49 : Nat → Int32 → Int32 → Int32 → zS → Option (Int32 × zS)
  | 0, _, _, _, _ => none
  | n + 1, x1, x3, x4, S =>
    if x4 < x1 then
      zb (f_X9_stakeOf_56 x4 S) fun r4 T3 =>
      zu (f_X11_layDown r4 T3) fun T6 =>
      zlet (x4 + 1) fun v7 =>
      (f_X11_plan_L49 n) x1 x3 v7 T6
    else
      some (x3, S)
def f_X11_plan (x1 : Int32) (x2 : Int32) (S : zS) : Option (Int32 × zS) :=
  zlet (zput S 0 15 0) fun T1 =>
  if x1 < 1 then
    some ((-1), T1)
  else
    if (3 : Int32) < x1 then
      some ((-1), T1)
    else
      if x2 < 1 then
        some ((-1), T1)
      else
        if (99 : Int32) < x2 then
          some ((-1), T1)
        else
          zb (f_X9_best_56_5_37 x1 x2 T1) fun r8 T7 =>
          f_X11_plan_L49 zN x1 r8 0 T7
set_option maxRecDepth 100000 in
theorem w_X11_plan_L49 (l : Launch) {r : Int32} {S1 : zS} : ∀ (n : Nat) (x1 : Int32) (x3 : Int32) (x4 : Int32) (S : zS), f_X11_plan_L49 n x1 x3 x4 S = some (r, S1) → WA zLX l RX11 cX11_plan 5 (some .int) 12 (some (.int r)) S1 49 [(0, .ref 0), (1, .int x1), (3, .int x3), (4, .int x4)] [] S := by
  intro n
  induction n with
  | zero =>
    intro x1 x3 x4 S h
    exact nomatch h
  | succ n ih =>
    intro x1 x3 x4 S h
    rw [f_X11_plan_L49] at h
    refine z_iload (pc := 49) (q := 3) dX11_plan_49 rfl ?_
    refine z_iload_n (pc := 51) (q := 1) dX11_plan_51 rfl rfl ?_
    refine z_icmp_ge (pc := 52) (tgt := 74) dX11_plan_52 (by decide) (fun c1 => ?_) (fun c1 => ?_)
    · have h := ze_some c1 h
      refine z_iload_n (pc := 74) (q := 2) dX11_plan_74 rfl rfl ?_
      obtain ⟨rfl, rfl⟩ := zr_some h
      exact z_iret dX11_plan_75
    · have h := zt_some c1 h
      refine z_aload_n (pc := 55) (q := 0) dX11_plan_55 rfl rfl ?_
      refine z_aload_n (pc := 56) (q := 0) dX11_plan_56 rfl rfl ?_
      refine z_getR (pc := 57) dX11_plan_57 zf_X11_73 gX_0_11 ?_
      refine z_iload (pc := 60) (q := 3) dX11_plan_60 rfl ?_
      obtain ⟨r4, T3, q2, h⟩ := zb_some h
      refine z_callVi (pc := 62) (st := [.ref 0]) [.int x4] dX11_plan_62 zm_X11_276 zM_X9_stakeOf (by decide) oX_56 rfl (w_X9_stakeOf_56 l q2) rfl rfl (Nat.le_of_ble_eq_true rfl) ?_
      obtain ⟨T6, q5, h⟩ := zu_some h
      refine z_callVv (pc := 65) (st := []) [.int r4] dX11_plan_65 zm_X11_279 zM_X11_layDown (by decide) oX_0 rfl (w_X11_layDown l q5) rfl rfl (Nat.le_of_ble_eq_true rfl) ?_
      obtain ⟨v7, ev7, h⟩ := zl_some h
      refine z_iinc (pc := 68) (q := 3) (v := v7) (lo' := [(4, .int v7), (0, .ref 0), (1, .int x1), (3, .int x3)]) dX11_plan_68 rfl (by rw [ev7, zci_1]) (by decide) rfl ?_
      refine z_goto (pc := 71) (tgt := 49) dX11_plan_71 (by decide) ?_
      exact z_sub [1, 2, 3, 0] rfl (ih x1 x3 v7 T6 h)
set_option maxRecDepth 100000 in
theorem w_X11_plan (l : Launch) {x1 : Int32} {x2 : Int32} {S : zS} {r : Int32} {S1 : zS} (h : f_X11_plan x1 x2 S = some (r, S1)) : zMet zLX l yX11_plan cX11_plan 5 (some .int) 12 [.ref 0, .int x1, .int x2] S (some (.int r)) S1 := by
  unfold f_X11_plan at h
  refine zMet.of (by decide +kernel) (Nat.le_of_ble_eq_true rfl) ?_
  show WA zLX l RX11 cX11_plan 5 (some .int) 12 (some (.int r)) S1 0 [(0, .ref 0), (1, .int x1), (2, .int x2)] [] S
  refine z_aload_n (pc := 0) (q := 0) dX11_plan_0 rfl rfl ?_
  refine z_iconst (pc := 1) (v := 0) dX11_plan_1 zci_0 ?_
  obtain ⟨T1, eT1, h⟩ := zl_some h
  refine z_putI (pc := 2) dX11_plan_2 zp_X11_115 gX_0_15 rfl rfl eT1 ?_
  refine z_iload_n (pc := 5) (q := 1) dX11_plan_5 rfl rfl ?_
  refine z_iconst (pc := 6) (v := 1) dX11_plan_6 zci_1 ?_
  refine z_icmp_lt (pc := 7) (tgt := 26) dX11_plan_7 (by decide) (fun c2 => ?_) (fun c2 => ?_)
  · have h := zt_some c2 h
    refine z_iconst (pc := 26) (v := (-1)) dX11_plan_26 zci_m1 ?_
    obtain ⟨rfl, rfl⟩ := zr_some h
    exact z_iret dX11_plan_27
  · have h := ze_some c2 h
    refine z_iload_n (pc := 10) (q := 1) dX11_plan_10 rfl rfl ?_
    refine z_iconst (pc := 11) (v := 3) dX11_plan_11 zci_3 ?_
    refine z_icmp_gt (pc := 12) (tgt := 26) dX11_plan_12 (by decide) (fun c3 => ?_) (fun c3 => ?_)
    · have h := zt_some c3 h
      refine z_iconst (pc := 26) (v := (-1)) dX11_plan_26 zci_m1 ?_
      obtain ⟨rfl, rfl⟩ := zr_some h
      exact z_iret dX11_plan_27
    · have h := ze_some c3 h
      refine z_iload_n (pc := 15) (q := 2) dX11_plan_15 rfl rfl ?_
      refine z_iconst (pc := 16) (v := 1) dX11_plan_16 zci_1 ?_
      refine z_icmp_lt (pc := 17) (tgt := 26) dX11_plan_17 (by decide) (fun c4 => ?_) (fun c4 => ?_)
      · have h := zt_some c4 h
        refine z_iconst (pc := 26) (v := (-1)) dX11_plan_26 zci_m1 ?_
        obtain ⟨rfl, rfl⟩ := zr_some h
        exact z_iret dX11_plan_27
      · have h := ze_some c4 h
        refine z_iload_n (pc := 20) (q := 2) dX11_plan_20 rfl rfl ?_
        refine z_bipush (pc := 21) (v := 99) dX11_plan_21 zcb_99 ?_
        refine z_icmp_le (pc := 23) (tgt := 28) dX11_plan_23 (by decide) (fun c5 => ?_) (fun c5 => ?_)
        · have h := ze_some c5 h
          refine z_aload_n (pc := 28) (q := 0) dX11_plan_28 rfl rfl ?_
          refine z_getR (pc := 29) dX11_plan_29 zf_X11_73 gX_0_11 ?_
          refine z_aload_n (pc := 32) (q := 0) dX11_plan_32 rfl rfl ?_
          refine z_getR (pc := 33) dX11_plan_33 zf_X11_25 gX_0_3 ?_
          refine z_aload_n (pc := 36) (q := 0) dX11_plan_36 rfl rfl ?_
          refine z_getR (pc := 37) dX11_plan_37 zf_X11_35 gX_0_5 ?_
          refine z_iload_n (pc := 40) (q := 1) dX11_plan_40 rfl rfl ?_
          refine z_iload_n (pc := 41) (q := 2) dX11_plan_41 rfl rfl ?_
          obtain ⟨r8, T7, q6, h⟩ := zb_some h
          refine z_callVi (pc := 42) (st := []) [.ref 5, .ref 37, .int x1, .int x2] dX11_plan_42 zm_X11_272 zM_X9_best (by decide) oX_56 rfl (w_X9_best_56_5_37 l q6) rfl rfl (Nat.le_of_ble_eq_true rfl) ?_
          refine z_istore_n (pc := 45) (lo' := [(3, .int r8), (0, .ref 0), (1, .int x1), (2, .int x2)]) dX11_plan_45 rfl (by decide) rfl ?_
          refine z_iconst (pc := 46) (v := 0) dX11_plan_46 zci_0 ?_
          refine z_istore (pc := 47) (lo' := [(4, .int 0), (3, .int r8), (0, .ref 0), (1, .int x1), (2, .int x2)]) dX11_plan_47 (by decide) rfl ?_
          exact z_sub [2, 3, 1, 0] rfl (w_X11_plan_L49 l zN x1 r8 0 T7 h)
        · have h := zt_some c5 h
          refine z_iconst (pc := 26) (v := (-1)) dX11_plan_26 zci_m1 ?_
          obtain ⟨rfl, rfl⟩ := zr_some h
          exact z_iret dX11_plan_27
def f_X11_isParty (x1 : Int32) (S : zS) : Option (Int32 × zS) :=
  if x1 < 0 then
    some (0, S)
  else
    if x1 < (S.1 5 3) then
      if x1 < 3 then
        some (1, S)
      else
        some (0, S)
    else
      some (0, S)
set_option maxRecDepth 100000 in
theorem w_X11_isParty (l : Launch) {x1 : Int32} {S : zS} {r : Int32} {S1 : zS} (h : f_X11_isParty x1 S = some (r, S1)) : zMet zLX l yX11_isParty cX11_isParty 2 (some .boolean) 1 [.ref 0, .int x1] S (some (.int r)) S1 := by
  unfold f_X11_isParty at h
  refine zMet.of (by decide +kernel) (Nat.le_of_ble_eq_true rfl) ?_
  show WA zLX l RX11 cX11_isParty 2 (some .boolean) 1 (some (.int r)) S1 0 [(0, .ref 0), (1, .int x1)] [] S
  refine z_iload_n (pc := 0) (q := 1) dX11_isParty_0 rfl rfl ?_
  refine z_if_lt (pc := 1) (tgt := 24) dX11_isParty_1 (by decide) (fun c1 => ?_) (fun c1 => ?_)
  · have h := zt_some c1 h
    refine z_iconst (pc := 24) (v := 0) dX11_isParty_24 zci_0 ?_
    obtain ⟨rfl, rfl⟩ := zr_some h
    exact z_zret dX11_isParty_25 rfl
  · have h := ze_some c1 h
    refine z_iload_n (pc := 4) (q := 1) dX11_isParty_4 rfl rfl ?_
    refine z_aload_n (pc := 5) (q := 0) dX11_isParty_5 rfl rfl ?_
    refine z_getR (pc := 6) dX11_isParty_6 zf_X11_25 gX_0_3 ?_
    refine z_getI (pc := 9) dX11_isParty_9 zf_X11_288 gX_5_3 ?_
    refine z_icmp_ge (pc := 12) (tgt := 24) dX11_isParty_12 (by decide) (fun c2 => ?_) (fun c2 => ?_)
    · have h := ze_some c2 h
      refine z_iconst (pc := 24) (v := 0) dX11_isParty_24 zci_0 ?_
      obtain ⟨rfl, rfl⟩ := zr_some h
      exact z_zret dX11_isParty_25 rfl
    · have h := zt_some c2 h
      refine z_iload_n (pc := 15) (q := 1) dX11_isParty_15 rfl rfl ?_
      refine z_iconst (pc := 16) (v := 3) dX11_isParty_16 zci_3 ?_
      refine z_icmp_ge (pc := 17) (tgt := 24) dX11_isParty_17 (by decide) (fun c3 => ?_) (fun c3 => ?_)
      · have h := ze_some c3 h
        refine z_iconst (pc := 24) (v := 0) dX11_isParty_24 zci_0 ?_
        obtain ⟨rfl, rfl⟩ := zr_some h
        exact z_zret dX11_isParty_25 rfl
      · have h := zt_some c3 h
        refine z_iconst (pc := 20) (v := 1) dX11_isParty_20 zci_1 ?_
        refine z_goto (pc := 21) (tgt := 25) dX11_isParty_21 (by decide) ?_
        obtain ⟨rfl, rfl⟩ := zr_some h
        exact z_zret dX11_isParty_25 rfl
def f_X1_readInto_13_65_B114 (K20 : Int32 → Int32 → zS → Option zS) (x2 : Int32) (x3 : Int32) (s0 : Int32) (s1 : Int32) (S : zS) : Option zS :=
  if zin s1 4 then
  zlet (zput S 65 s1.toNatClampNeg s0) fun T2 =>
  zlet (x3 + 1) fun v3 =>
  K20 x2 v3 T2 else none
def f_X1_readInto_13_65_L20 : Nat → Int32 → Int32 → zS → Option zS
  | 0, _, _, _ => none
  | n + 1, x2, x3, S =>
    if x3 < 12 then
      if zin x3 12 then
      zlet (S.1 20 x3.toNatClampNeg) fun v3 =>
      if v3 < 0 then
        zlet (x3 + 1) fun v5 =>
        (f_X1_readInto_13_65_L20 n) x2 v5 S
      else
        if v3 < 12 then
          if ((x2 >>> (v3 &&& 31)) &&& 1) = 0 then
            zlet (x3 + 1) fun v7 =>
            (f_X1_readInto_13_65_L20 n) x2 v7 S
          else
            if zin v3 12 then
            zlet (S.1 16 v3.toNatClampNeg) fun v8 =>
            if v8 < 0 then
              zlet (x3 + 1) fun v10 =>
              (f_X1_readInto_13_65_L20 n) x2 v10 S
            else
              if v8 < 4 then
                if zin v3 12 then
                if (S.1 18 v3.toNatClampNeg) < 0 then
                  if zin v3 12 then
                  f_X1_readInto_13_65_B114 (f_X1_readInto_13_65_L20 n) x2 x3 (S.1 17 v3.toNatClampNeg) v8 S else none
                else
                  if zin v8 4 then
                  if zin v3 12 then
                  f_X1_readInto_13_65_B114 (f_X1_readInto_13_65_L20 n) x2 x3 ((S.1 65 v8.toNatClampNeg) + (S.1 17 v3.toNatClampNeg)) v8 S else none else none else none
              else
                zlet (x3 + 1) fun v11 =>
                (f_X1_readInto_13_65_L20 n) x2 v11 S else none
        else
          zlet (x3 + 1) fun v6 =>
          (f_X1_readInto_13_65_L20 n) x2 v6 S else none
    else
      some S
def f_X1_readInto_13_65_L2 : Nat → Int32 → Int32 → zS → Option zS
  | 0, _, _, _ => none
  | n + 1, x2, x3, S =>
    if x3 < 4 then
      if zin x3 4 then
      zlet (zput S 65 x3.toNatClampNeg 0) fun T3 =>
      zlet (x3 + 1) fun v4 =>
      (f_X1_readInto_13_65_L2 n) x2 v4 T3 else none
    else
      f_X1_readInto_13_65_L20 zN x2 0 S
def f_X1_readInto_13_65 (x2 : Int32) (S : zS) : Option zS :=
  f_X1_readInto_13_65_L2 zN x2 0 S
set_option maxRecDepth 100000 in
theorem w_X1_readInto_13_65_B114 (l : Launch) {S1 : zS} (K20 : Int32 → Int32 → zS → Option zS) (hK20 : ∀ (x2 : Int32) (x3 : Int32) (S : zS), K20 x2 x3 S = some S1 → WA zLX l RX1 cX1_readInto 6 none 1 none S1 20 [(0, .ref 13), (1, .ref 65), (2, .int x2), (3, .int x3)] [] S) (x2 : Int32) (x3 : Int32) (s0 : Int32) (s1 : Int32) (S : zS) (h : f_X1_readInto_13_65_B114 K20 x2 x3 s0 s1 S = some S1) : WA zLX l RX1 cX1_readInto 6 none 1 none S1 114 [(0, .ref 13), (1, .ref 65), (2, .int x2), (3, .int x3)] [.int s0, .int s1, .ref 65] S := by
  unfold f_X1_readInto_13_65_B114 at h
  obtain ⟨c1, h⟩ := zg_some h
  obtain ⟨T2, eT2, h⟩ := zl_some h
  refine z_iast (pc := 114) dX1_readInto_114 aX_65 c1 eT2 ?_
  obtain ⟨v3, ev3, h⟩ := zl_some h
  refine z_iinc (pc := 115) (q := 3) (v := v3) (lo' := [(3, .int v3), (0, .ref 13), (1, .ref 65), (2, .int x2)]) dX1_readInto_115 rfl (by rw [ev3, zci_1]) (by decide) rfl ?_
  refine z_goto (pc := 118) (tgt := 20) dX1_readInto_118 (by decide) ?_
  exact z_sub [1, 2, 3, 0] rfl (hK20 x2 v3 T2 h)
set_option maxRecDepth 100000 in
theorem w_X1_readInto_13_65_L20 (l : Launch) {S1 : zS} : ∀ (n : Nat) (x2 : Int32) (x3 : Int32) (S : zS), f_X1_readInto_13_65_L20 n x2 x3 S = some S1 → WA zLX l RX1 cX1_readInto 6 none 1 none S1 20 [(0, .ref 13), (1, .ref 65), (2, .int x2), (3, .int x3)] [] S := by
  intro n
  induction n with
  | zero =>
    intro x2 x3 S h
    exact nomatch h
  | succ n ih =>
    intro x2 x3 S h
    rw [f_X1_readInto_13_65_L20] at h
    refine z_iload_n (pc := 20) (q := 3) dX1_readInto_20 rfl rfl ?_
    refine z_aload_n (pc := 21) (q := 0) dX1_readInto_21 rfl rfl ?_
    refine z_getR (pc := 22) dX1_readInto_22 zf_X1_30 gX_13_6 ?_
    refine z_alen (pc := 25) (v := 12) dX1_readInto_25 aX_20 (by decide) (by decide) ?_
    refine z_icmp_ge (pc := 26) (tgt := 121) dX1_readInto_26 (by decide) (fun c1 => ?_) (fun c1 => ?_)
    · have h := ze_some c1 h
      cases h
      exact z_vret dX1_readInto_121
    · have h := zt_some c1 h
      refine z_aload_n (pc := 29) (q := 0) dX1_readInto_29 rfl rfl ?_
      refine z_getR (pc := 30) dX1_readInto_30 zf_X1_30 gX_13_6 ?_
      refine z_iload_n (pc := 33) (q := 3) dX1_readInto_33 rfl rfl ?_
      obtain ⟨c2, h⟩ := zg_some h
      refine z_iald (pc := 34) dX1_readInto_34 aX_20 c2 ?_
      obtain ⟨v3, ev3, h⟩ := zl_some h
      refine z_top ev3 ?_
      refine z_istore (pc := 35) (lo' := [(4, .int v3), (0, .ref 13), (1, .ref 65), (2, .int x2), (3, .int x3)]) dX1_readInto_35 (by decide) rfl ?_
      refine z_iload (pc := 37) (q := 0) dX1_readInto_37 rfl ?_
      refine z_if_lt (pc := 39) (tgt := 115) dX1_readInto_39 (by decide) (fun c4 => ?_) (fun c4 => ?_)
      · have h := zt_some c4 h
        obtain ⟨v5, ev5, h⟩ := zl_some h
        refine z_iinc (pc := 115) (q := 4) (v := v5) (lo' := [(3, .int v5), (4, .int v3), (0, .ref 13), (1, .ref 65), (2, .int x2)]) dX1_readInto_115 rfl (by rw [ev5, zci_1]) (by decide) rfl ?_
        refine z_goto (pc := 118) (tgt := 20) dX1_readInto_118 (by decide) ?_
        exact z_sub [2, 3, 4, 0] rfl (ih x2 v5 S h)
      · have h := ze_some c4 h
        refine z_iload (pc := 42) (q := 0) dX1_readInto_42 rfl ?_
        refine z_bipush (pc := 44) (v := 12) dX1_readInto_44 zcb_12 ?_
        refine z_icmp_ge (pc := 46) (tgt := 115) dX1_readInto_46 (by decide) (fun c5 => ?_) (fun c5 => ?_)
        · have h := ze_some c5 h
          obtain ⟨v6, ev6, h⟩ := zl_some h
          refine z_iinc (pc := 115) (q := 4) (v := v6) (lo' := [(3, .int v6), (4, .int v3), (0, .ref 13), (1, .ref 65), (2, .int x2)]) dX1_readInto_115 rfl (by rw [ev6, zci_1]) (by decide) rfl ?_
          refine z_goto (pc := 118) (tgt := 20) dX1_readInto_118 (by decide) ?_
          exact z_sub [2, 3, 4, 0] rfl (ih x2 v6 S h)
        · have h := zt_some c5 h
          refine z_iload_n (pc := 49) (q := 3) dX1_readInto_49 rfl rfl ?_
          refine z_iload (pc := 50) (q := 0) dX1_readInto_50 rfl ?_
          refine z_ishr (pc := 52) dX1_readInto_52 ?_
          refine z_iconst (pc := 53) (v := 1) dX1_readInto_53 zci_1 ?_
          refine z_iand (pc := 54) dX1_readInto_54 ?_
          refine z_if_eq (pc := 55) (tgt := 115) dX1_readInto_55 (by decide) (fun c6 => ?_) (fun c6 => ?_)
          · have h := zt_some c6 h
            obtain ⟨v7, ev7, h⟩ := zl_some h
            refine z_iinc (pc := 115) (q := 4) (v := v7) (lo' := [(3, .int v7), (4, .int v3), (0, .ref 13), (1, .ref 65), (2, .int x2)]) dX1_readInto_115 rfl (by rw [ev7, zci_1]) (by decide) rfl ?_
            refine z_goto (pc := 118) (tgt := 20) dX1_readInto_118 (by decide) ?_
            exact z_sub [2, 3, 4, 0] rfl (ih x2 v7 S h)
          · have h := ze_some c6 h
            refine z_aload_n (pc := 58) (q := 1) dX1_readInto_58 rfl rfl ?_
            refine z_getR (pc := 59) dX1_readInto_59 zf_X1_18 gX_13_2 ?_
            refine z_iload (pc := 62) (q := 0) dX1_readInto_62 rfl ?_
            obtain ⟨c7, h⟩ := zg_some h
            refine z_iald (pc := 64) dX1_readInto_64 aX_16 c7 ?_
            obtain ⟨v8, ev8, h⟩ := zl_some h
            refine z_top ev8 ?_
            refine z_istore (pc := 65) (lo' := [(5, .int v8), (4, .int v3), (0, .ref 13), (1, .ref 65), (2, .int x2), (3, .int x3)]) dX1_readInto_65 (by decide) rfl ?_
            refine z_iload (pc := 67) (q := 0) dX1_readInto_67 rfl ?_
            refine z_if_lt (pc := 69) (tgt := 115) dX1_readInto_69 (by decide) (fun c9 => ?_) (fun c9 => ?_)
            · have h := zt_some c9 h
              obtain ⟨v10, ev10, h⟩ := zl_some h
              refine z_iinc (pc := 115) (q := 5) (v := v10) (lo' := [(3, .int v10), (5, .int v8), (4, .int v3), (0, .ref 13), (1, .ref 65), (2, .int x2)]) dX1_readInto_115 rfl (by rw [ev10, zci_1]) (by decide) rfl ?_
              refine z_goto (pc := 118) (tgt := 20) dX1_readInto_118 (by decide) ?_
              exact z_sub [3, 4, 5, 0] rfl (ih x2 v10 S h)
            · have h := ze_some c9 h
              refine z_iload (pc := 72) (q := 0) dX1_readInto_72 rfl ?_
              refine z_aload_n (pc := 74) (q := 3) dX1_readInto_74 rfl rfl ?_
              refine z_alen (pc := 75) (v := 4) dX1_readInto_75 aX_65 (by decide) (by decide) ?_
              refine z_icmp_ge (pc := 76) (tgt := 115) dX1_readInto_76 (by decide) (fun c10 => ?_) (fun c10 => ?_)
              · have h := ze_some c10 h
                obtain ⟨v11, ev11, h⟩ := zl_some h
                refine z_iinc (pc := 115) (q := 5) (v := v11) (lo' := [(3, .int v11), (5, .int v8), (4, .int v3), (0, .ref 13), (1, .ref 65), (2, .int x2)]) dX1_readInto_115 rfl (by rw [ev11, zci_1]) (by decide) rfl ?_
                refine z_goto (pc := 118) (tgt := 20) dX1_readInto_118 (by decide) ?_
                exact z_sub [3, 4, 5, 0] rfl (ih x2 v11 S h)
              · have h := zt_some c10 h
                refine z_aload_n (pc := 79) (q := 3) dX1_readInto_79 rfl rfl ?_
                refine z_iload (pc := 80) (q := 0) dX1_readInto_80 rfl ?_
                refine z_aload_n (pc := 82) (q := 2) dX1_readInto_82 rfl rfl ?_
                refine z_getR (pc := 83) dX1_readInto_83 zf_X1_24 gX_13_4 ?_
                refine z_iload (pc := 86) (q := 1) dX1_readInto_86 rfl ?_
                obtain ⟨c11, h⟩ := zg_some h
                refine z_iald (pc := 88) dX1_readInto_88 aX_18 c11 ?_
                refine z_if_ge (pc := 89) (tgt := 102) dX1_readInto_89 (by decide) (fun c12 => ?_) (fun c12 => ?_)
                · have h := ze_some c12 h
                  refine z_aload_n (pc := 102) (q := 3) dX1_readInto_102 rfl rfl ?_
                  refine z_iload (pc := 103) (q := 0) dX1_readInto_103 rfl ?_
                  obtain ⟨c13, h⟩ := zg_some h
                  refine z_iald (pc := 105) dX1_readInto_105 aX_65 c13 ?_
                  refine z_aload_n (pc := 106) (q := 2) dX1_readInto_106 rfl rfl ?_
                  refine z_getR (pc := 107) dX1_readInto_107 zf_X1_21 gX_13_3 ?_
                  refine z_iload (pc := 110) (q := 1) dX1_readInto_110 rfl ?_
                  obtain ⟨c14, h⟩ := zg_some h
                  refine z_iald (pc := 112) dX1_readInto_112 aX_17 c14 ?_
                  refine z_iadd (pc := 113) dX1_readInto_113 ?_
                  exact z_sub [2, 3, 4, 5] rfl (w_X1_readInto_13_65_B114 l (f_X1_readInto_13_65_L20 n) ih x2 x3 ((S.1 65 v8.toNatClampNeg) + (S.1 17 v3.toNatClampNeg)) v8 S h)
                · have h := zt_some c12 h
                  refine z_aload_n (pc := 92) (q := 2) dX1_readInto_92 rfl rfl ?_
                  refine z_getR (pc := 93) dX1_readInto_93 zf_X1_21 gX_13_3 ?_
                  refine z_iload (pc := 96) (q := 1) dX1_readInto_96 rfl ?_
                  obtain ⟨c13, h⟩ := zg_some h
                  refine z_iald (pc := 98) dX1_readInto_98 aX_17 c13 ?_
                  refine z_goto (pc := 99) (tgt := 114) dX1_readInto_99 (by decide) ?_
                  exact z_sub [2, 3, 4, 5] rfl (w_X1_readInto_13_65_B114 l (f_X1_readInto_13_65_L20 n) ih x2 x3 (S.1 17 v3.toNatClampNeg) v8 S h)
set_option maxRecDepth 100000 in
theorem w_X1_readInto_13_65_L2 (l : Launch) {S1 : zS} : ∀ (n : Nat) (x2 : Int32) (x3 : Int32) (S : zS), f_X1_readInto_13_65_L2 n x2 x3 S = some S1 → WA zLX l RX1 cX1_readInto 6 none 1 none S1 2 [(0, .ref 13), (1, .ref 65), (2, .int x2), (3, .int x3)] [] S := by
  intro n
  induction n with
  | zero =>
    intro x2 x3 S h
    exact nomatch h
  | succ n ih =>
    intro x2 x3 S h
    rw [f_X1_readInto_13_65_L2] at h
    refine z_iload_n (pc := 2) (q := 3) dX1_readInto_2 rfl rfl ?_
    refine z_aload_n (pc := 3) (q := 1) dX1_readInto_3 rfl rfl ?_
    refine z_alen (pc := 4) (v := 4) dX1_readInto_4 aX_65 (by decide) (by decide) ?_
    refine z_icmp_ge (pc := 5) (tgt := 18) dX1_readInto_5 (by decide) (fun c1 => ?_) (fun c1 => ?_)
    · have h := ze_some c1 h
      refine z_iconst (pc := 18) (v := 0) dX1_readInto_18 zci_0 ?_
      refine z_istore_n (pc := 19) (lo' := [(3, .int 0), (0, .ref 13), (1, .ref 65), (2, .int x2)]) dX1_readInto_19 rfl (by decide) rfl ?_
      exact z_sub [1, 2, 3, 0] rfl (w_X1_readInto_13_65_L20 l zN x2 0 S h)
    · have h := zt_some c1 h
      refine z_aload_n (pc := 8) (q := 1) dX1_readInto_8 rfl rfl ?_
      refine z_iload_n (pc := 9) (q := 3) dX1_readInto_9 rfl rfl ?_
      refine z_iconst (pc := 10) (v := 0) dX1_readInto_10 zci_0 ?_
      obtain ⟨c2, h⟩ := zg_some h
      obtain ⟨T3, eT3, h⟩ := zl_some h
      refine z_iast (pc := 11) dX1_readInto_11 aX_65 c2 eT3 ?_
      obtain ⟨v4, ev4, h⟩ := zl_some h
      refine z_iinc (pc := 12) (q := 3) (v := v4) (lo' := [(3, .int v4), (0, .ref 13), (1, .ref 65), (2, .int x2)]) dX1_readInto_12 rfl (by rw [ev4, zci_1]) (by decide) rfl ?_
      refine z_goto (pc := 15) (tgt := 2) dX1_readInto_15 (by decide) ?_
      exact z_sub [1, 2, 3, 0] rfl (ih x2 v4 T3 h)
set_option maxRecDepth 100000 in
theorem w_X1_readInto_13_65 (l : Launch) {x2 : Int32} {S : zS} {S1 : zS} (h : f_X1_readInto_13_65 x2 S = some S1) : zMet zLX l yX1_readInto cX1_readInto 6 none 1 [.ref 13, .ref 65, .int x2] S none S1 := by
  unfold f_X1_readInto_13_65 at h
  refine zMet.of (by decide +kernel) (Nat.le_of_ble_eq_true rfl) ?_
  show WA zLX l RX1 cX1_readInto 6 none 1 none S1 0 [(0, .ref 13), (1, .ref 65), (2, .int x2)] [] S
  refine z_iconst (pc := 0) (v := 0) dX1_readInto_0 zci_0 ?_
  refine z_istore_n (pc := 1) (lo' := [(3, .int 0), (0, .ref 13), (1, .ref 65), (2, .int x2)]) dX1_readInto_1 rfl (by decide) rfl ?_
  exact z_sub [1, 2, 3, 0] rfl (w_X1_readInto_13_65_L2 l zN x2 0 S h)
def f_X4_joyOf_5_65_L5 : Nat → Int32 → Int32 → Int32 → zS → Option (Int32 × zS)
  | 0, _, _, _, _ => none
  | n + 1, x1, x3, x4, S =>
    if x4 < (S.1 5 2) then
      if x4 < 4 then
        zlet ((x1 * 4) + x4) fun v3 =>
        if v3 < 0 then
          zlet (x4 + 1) fun v5 =>
          (f_X4_joyOf_5_65_L5 n) x1 x3 v5 S
        else
          if v3 < 12 then
            if v3 < 12 then
              if zin v3 12 then
              if zin x4 4 then
              if zin v3 12 then
              zlet (x3 - ((S.1 8 v3.toNatClampNeg) * (zabs ((S.1 65 x4.toNatClampNeg) - (S.1 7 v3.toNatClampNeg))))) fun v10 =>
              zlet (x4 + 1) fun v11 =>
              (f_X4_joyOf_5_65_L5 n) x1 v10 v11 S else none else none else none
            else
              zlet (x4 + 1) fun v7 =>
              (f_X4_joyOf_5_65_L5 n) x1 x3 v7 S
          else
            zlet (x4 + 1) fun v6 =>
            (f_X4_joyOf_5_65_L5 n) x1 x3 v6 S
      else
        some (x3, S)
    else
      some (x3, S)
def f_X4_joyOf_5_65 (x1 : Int32) (S : zS) : Option (Int32 × zS) :=
  f_X4_joyOf_5_65_L5 zN x1 0 0 S
set_option maxRecDepth 100000 in
theorem w_X4_joyOf_5_65_L5 (l : Launch) {r : Int32} {S1 : zS} : ∀ (n : Nat) (x1 : Int32) (x3 : Int32) (x4 : Int32) (S : zS), f_X4_joyOf_5_65_L5 n x1 x3 x4 S = some (r, S1) → WA zLX l RX4 cX4_joyOf 6 (some .int) 1 (some (.int r)) S1 5 [(0, .ref 5), (1, .int x1), (2, .ref 65), (3, .int x3), (4, .int x4)] [] S := by
  intro n
  induction n with
  | zero =>
    intro x1 x3 x4 S h
    exact nomatch h
  | succ n ih =>
    intro x1 x3 x4 S h
    rw [f_X4_joyOf_5_65_L5] at h
    refine z_iload (pc := 5) (q := 4) dX4_joyOf_5 rfl ?_
    refine z_aload_n (pc := 7) (q := 0) dX4_joyOf_7 rfl rfl ?_
    refine z_getI (pc := 8) dX4_joyOf_8 zf_X4_45 gX_5_2 ?_
    refine z_icmp_ge (pc := 11) (tgt := 86) dX4_joyOf_11 (by decide) (fun c1 => ?_) (fun c1 => ?_)
    · have h := ze_some c1 h
      refine z_iload_n (pc := 86) (q := 3) dX4_joyOf_86 rfl rfl ?_
      obtain ⟨rfl, rfl⟩ := zr_some h
      exact z_iret dX4_joyOf_87
    · have h := zt_some c1 h
      refine z_iload (pc := 14) (q := 4) dX4_joyOf_14 rfl ?_
      refine z_aload_n (pc := 16) (q := 2) dX4_joyOf_16 rfl rfl ?_
      refine z_alen (pc := 17) (v := 4) dX4_joyOf_17 aX_65 (by decide) (by decide) ?_
      refine z_icmp_ge (pc := 18) (tgt := 86) dX4_joyOf_18 (by decide) (fun c2 => ?_) (fun c2 => ?_)
      · have h := ze_some c2 h
        refine z_iload_n (pc := 86) (q := 3) dX4_joyOf_86 rfl rfl ?_
        obtain ⟨rfl, rfl⟩ := zr_some h
        exact z_iret dX4_joyOf_87
      · have h := zt_some c2 h
        refine z_iload_n (pc := 21) (q := 1) dX4_joyOf_21 rfl rfl ?_
        refine z_iconst (pc := 22) (v := 4) dX4_joyOf_22 zci_4 ?_
        refine z_imul (pc := 23) dX4_joyOf_23 ?_
        refine z_iload (pc := 24) (q := 4) dX4_joyOf_24 rfl ?_
        refine z_iadd (pc := 26) dX4_joyOf_26 ?_
        obtain ⟨v3, ev3, h⟩ := zl_some h
        refine z_top ev3 ?_
        refine z_istore (pc := 27) (lo' := [(5, .int v3), (0, .ref 5), (1, .int x1), (2, .ref 65), (3, .int x3), (4, .int x4)]) dX4_joyOf_27 (by decide) rfl ?_
        refine z_iload (pc := 29) (q := 0) dX4_joyOf_29 rfl ?_
        refine z_if_lt (pc := 31) (tgt := 80) dX4_joyOf_31 (by decide) (fun c4 => ?_) (fun c4 => ?_)
        · have h := zt_some c4 h
          obtain ⟨v5, ev5, h⟩ := zl_some h
          refine z_iinc (pc := 80) (q := 5) (v := v5) (lo' := [(4, .int v5), (5, .int v3), (0, .ref 5), (1, .int x1), (2, .ref 65), (3, .int x3)]) dX4_joyOf_80 rfl (by rw [ev5, zci_1]) (by decide) rfl ?_
          refine z_goto (pc := 83) (tgt := 5) dX4_joyOf_83 (by decide) ?_
          exact z_sub [2, 3, 4, 5, 0] rfl (ih x1 x3 v5 S h)
        · have h := ze_some c4 h
          refine z_iload (pc := 34) (q := 0) dX4_joyOf_34 rfl ?_
          refine z_aload_n (pc := 36) (q := 1) dX4_joyOf_36 rfl rfl ?_
          refine z_getR (pc := 37) dX4_joyOf_37 zf_X4_18 gX_5_8 ?_
          refine z_alen (pc := 40) (v := 12) dX4_joyOf_40 aX_8 (by decide) (by decide) ?_
          refine z_icmp_ge (pc := 41) (tgt := 80) dX4_joyOf_41 (by decide) (fun c5 => ?_) (fun c5 => ?_)
          · have h := ze_some c5 h
            obtain ⟨v6, ev6, h⟩ := zl_some h
            refine z_iinc (pc := 80) (q := 5) (v := v6) (lo' := [(4, .int v6), (5, .int v3), (0, .ref 5), (1, .int x1), (2, .ref 65), (3, .int x3)]) dX4_joyOf_80 rfl (by rw [ev6, zci_1]) (by decide) rfl ?_
            refine z_goto (pc := 83) (tgt := 5) dX4_joyOf_83 (by decide) ?_
            exact z_sub [2, 3, 4, 5, 0] rfl (ih x1 x3 v6 S h)
          · have h := zt_some c5 h
            refine z_iload (pc := 44) (q := 0) dX4_joyOf_44 rfl ?_
            refine z_aload_n (pc := 46) (q := 1) dX4_joyOf_46 rfl rfl ?_
            refine z_getR (pc := 47) dX4_joyOf_47 zf_X4_15 gX_5_7 ?_
            refine z_alen (pc := 50) (v := 12) dX4_joyOf_50 aX_7 (by decide) (by decide) ?_
            refine z_icmp_ge (pc := 51) (tgt := 80) dX4_joyOf_51 (by decide) (fun c6 => ?_) (fun c6 => ?_)
            · have h := ze_some c6 h
              obtain ⟨v7, ev7, h⟩ := zl_some h
              refine z_iinc (pc := 80) (q := 5) (v := v7) (lo' := [(4, .int v7), (5, .int v3), (0, .ref 5), (1, .int x1), (2, .ref 65), (3, .int x3)]) dX4_joyOf_80 rfl (by rw [ev7, zci_1]) (by decide) rfl ?_
              refine z_goto (pc := 83) (tgt := 5) dX4_joyOf_83 (by decide) ?_
              exact z_sub [2, 3, 4, 5, 0] rfl (ih x1 x3 v7 S h)
            · have h := zt_some c6 h
              refine z_iload_n (pc := 54) (q := 4) dX4_joyOf_54 rfl rfl ?_
              refine z_aload_n (pc := 55) (q := 1) dX4_joyOf_55 rfl rfl ?_
              refine z_getR (pc := 56) dX4_joyOf_56 zf_X4_18 gX_5_8 ?_
              refine z_iload (pc := 59) (q := 0) dX4_joyOf_59 rfl ?_
              obtain ⟨c7, h⟩ := zg_some h
              refine z_iald (pc := 61) dX4_joyOf_61 aX_8 c7 ?_
              refine z_aload_n (pc := 62) (q := 3) dX4_joyOf_62 rfl rfl ?_
              refine z_iload (pc := 63) (q := 5) dX4_joyOf_63 rfl ?_
              obtain ⟨c8, h⟩ := zg_some h
              refine z_iald (pc := 65) dX4_joyOf_65 aX_65 c8 ?_
              refine z_aload_n (pc := 66) (q := 1) dX4_joyOf_66 rfl rfl ?_
              refine z_getR (pc := 67) dX4_joyOf_67 zf_X4_15 gX_5_7 ?_
              refine z_iload (pc := 70) (q := 0) dX4_joyOf_70 rfl ?_
              obtain ⟨c9, h⟩ := zg_some h
              refine z_iald (pc := 72) dX4_joyOf_72 aX_7 c9 ?_
              refine z_isub (pc := 73) dX4_joyOf_73 ?_
              refine z_abs (pc := 74) dX4_joyOf_74 zm_X4_70 zM_abs.1 zM_abs.2.1 zM_abs.2.2 (by decide) (Nat.le_of_ble_eq_true rfl) ?_
              refine z_imul (pc := 77) dX4_joyOf_77 ?_
              refine z_isub (pc := 78) dX4_joyOf_78 ?_
              obtain ⟨v10, ev10, h⟩ := zl_some h
              refine z_top ev10 ?_
              refine z_istore_n (pc := 79) (lo' := [(3, .int v10), (5, .int v3), (0, .ref 5), (1, .int x1), (2, .ref 65), (4, .int x4)]) dX4_joyOf_79 rfl (by decide) rfl ?_
              obtain ⟨v11, ev11, h⟩ := zl_some h
              refine z_iinc (pc := 80) (q := 5) (v := v11) (lo' := [(4, .int v11), (3, .int v10), (5, .int v3), (0, .ref 5), (1, .int x1), (2, .ref 65)]) dX4_joyOf_80 rfl (by rw [ev11, zci_1]) (by decide) rfl ?_
              refine z_goto (pc := 83) (tgt := 5) dX4_joyOf_83 (by decide) ?_
              exact z_sub [3, 4, 5, 1, 0] rfl (ih x1 v10 v11 S h)
set_option maxRecDepth 100000 in
theorem w_X4_joyOf_5_65 (l : Launch) {x1 : Int32} {S : zS} {r : Int32} {S1 : zS} (h : f_X4_joyOf_5_65 x1 S = some (r, S1)) : zMet zLX l yX4_joyOf cX4_joyOf 6 (some .int) 1 [.ref 5, .int x1, .ref 65] S (some (.int r)) S1 := by
  unfold f_X4_joyOf_5_65 at h
  refine zMet.of (by decide +kernel) (Nat.le_of_ble_eq_true rfl) ?_
  show WA zLX l RX4 cX4_joyOf 6 (some .int) 1 (some (.int r)) S1 0 [(0, .ref 5), (1, .int x1), (2, .ref 65)] [] S
  refine z_iconst (pc := 0) (v := 0) dX4_joyOf_0 zci_0 ?_
  refine z_istore_n (pc := 1) (lo' := [(3, .int 0), (0, .ref 5), (1, .int x1), (2, .ref 65)]) dX4_joyOf_1 rfl (by decide) rfl ?_
  refine z_iconst (pc := 2) (v := 0) dX4_joyOf_2 zci_0 ?_
  refine z_istore (pc := 3) (lo' := [(4, .int 0), (3, .int 0), (0, .ref 5), (1, .int x1), (2, .ref 65)]) dX4_joyOf_3 (by decide) rfl ?_
  exact z_sub [2, 3, 4, 1, 0] rfl (w_X4_joyOf_5_65_L5 l zN x1 0 0 S h)
def f_X11_joyNow (x1 : Int32) (S : zS) : Option (Int32 × zS) :=
  zb (f_X11_standingNow S) fun r3 T2 =>
  zu (f_X1_readInto_13_65 r3 T2) fun T5 =>
  zb (f_X4_joyOf_5_65 x1 T5) fun r8 T7 =>
  some (r8, T7)
set_option maxRecDepth 100000 in
theorem w_X11_joyNow (l : Launch) {x1 : Int32} {S : zS} {r : Int32} {S1 : zS} (h : f_X11_joyNow x1 S = some (r, S1)) : zMet zLX l yX11_joyNow cX11_joyNow 2 (some .int) 4 [.ref 0, .int x1] S (some (.int r)) S1 := by
  unfold f_X11_joyNow at h
  refine zMet.of (by decide +kernel) (Nat.le_of_ble_eq_true rfl) ?_
  show WA zLX l RX11 cX11_joyNow 2 (some .int) 4 (some (.int r)) S1 0 [(0, .ref 0), (1, .int x1)] [] S
  refine z_aload_n (pc := 0) (q := 0) dX11_joyNow_0 rfl rfl ?_
  refine z_getR (pc := 1) dX11_joyNow_1 zf_X11_25 gX_0_3 ?_
  refine z_getR (pc := 4) dX11_joyNow_4 zf_X11_131 gX_5_13 ?_
  refine z_aload_n (pc := 7) (q := 0) dX11_joyNow_7 rfl rfl ?_
  refine z_getR (pc := 8) dX11_joyNow_8 zf_X11_84 gX_0_13 ?_
  refine z_aload_n (pc := 11) (q := 0) dX11_joyNow_11 rfl rfl ?_
  obtain ⟨r3, T2, q1, h⟩ := zb_some h
  refine z_callVi (pc := 12) (st := [.ref 65, .ref 13]) [] dX11_joyNow_12 zm_X11_161 zM_X11_standingNow (by decide) oX_0 rfl (w_X11_standingNow l q1) rfl rfl (Nat.le_of_ble_eq_true rfl) ?_
  obtain ⟨T5, q4, h⟩ := zu_some h
  refine z_callVv (pc := 15) (st := []) [.ref 65, .int r3] dX11_joyNow_15 zm_X11_291 zM_X1_readInto (by decide) oX_13 rfl (w_X1_readInto_13_65 l q4) rfl rfl (Nat.le_of_ble_eq_true rfl) ?_
  refine z_aload_n (pc := 18) (q := 0) dX11_joyNow_18 rfl rfl ?_
  refine z_getR (pc := 19) dX11_joyNow_19 zf_X11_25 gX_0_3 ?_
  refine z_iload_n (pc := 22) (q := 1) dX11_joyNow_22 rfl rfl ?_
  refine z_aload_n (pc := 23) (q := 0) dX11_joyNow_23 rfl rfl ?_
  refine z_getR (pc := 24) dX11_joyNow_24 zf_X11_84 gX_0_13 ?_
  obtain ⟨r8, T7, q6, h⟩ := zb_some h
  refine z_callVi (pc := 27) (st := []) [.int x1, .ref 65] dX11_joyNow_27 zm_X11_295 zM_X4_joyOf (by decide) oX_5 rfl (w_X4_joyOf_5_65 l q6) rfl rfl (Nat.le_of_ble_eq_true rfl) ?_
  obtain ⟨rfl, rfl⟩ := zr_some h
  exact z_iret dX11_joyNow_30
def f_X11_joy (x1 : Int32) (S : zS) : Option (Int32 × zS) :=
  zb (f_X11_isParty x1 S) fun r3 T2 =>
  if r3 = 0 then
    some (1, T2)
  else
    zb (f_X11_joyNow x1 T2) fun r7 T6 =>
    some (r7, T6)
set_option maxRecDepth 100000 in
theorem w_X11_joy (l : Launch) {x1 : Int32} {S : zS} {r : Int32} {S1 : zS} (h : f_X11_joy x1 S = some (r, S1)) : zMet zLX l yX11_joy cX11_joy 2 (some .int) 5 [.ref 0, .int x1] S (some (.int r)) S1 := by
  unfold f_X11_joy at h
  refine zMet.of (by decide +kernel) (Nat.le_of_ble_eq_true rfl) ?_
  show WA zLX l RX11 cX11_joy 2 (some .int) 5 (some (.int r)) S1 0 [(0, .ref 0), (1, .int x1)] [] S
  refine z_aload_n (pc := 0) (q := 0) dX11_joy_0 rfl rfl ?_
  refine z_iload_n (pc := 1) (q := 1) dX11_joy_1 rfl rfl ?_
  obtain ⟨r3, T2, q1, h⟩ := zb_some h
  refine z_callVi (pc := 2) (st := []) [.int x1] dX11_joy_2 zm_X11_282 zM_X11_isParty (by decide) oX_0 rfl (w_X11_isParty l q1) rfl rfl (Nat.le_of_ble_eq_true rfl) ?_
  refine z_if_eq (pc := 5) (tgt := 16) dX11_joy_5 (by decide) (fun c4 => ?_) (fun c4 => ?_)
  · have h := zt_some c4 h
    refine z_iconst (pc := 16) (v := 1) dX11_joy_16 zci_1 ?_
    obtain ⟨rfl, rfl⟩ := zr_some h
    exact z_iret dX11_joy_17
  · have h := ze_some c4 h
    refine z_aload_n (pc := 8) (q := 0) dX11_joy_8 rfl rfl ?_
    refine z_iload_n (pc := 9) (q := 1) dX11_joy_9 rfl rfl ?_
    obtain ⟨r7, T6, q5, h⟩ := zb_some h
    refine z_callVi (pc := 10) (st := []) [.int x1] dX11_joy_10 zm_X11_285 zM_X11_joyNow (by decide) oX_0 rfl (w_X11_joyNow l q5) rfl rfl (Nat.le_of_ble_eq_true rfl) ?_
    refine z_goto (pc := 13) (tgt := 17) dX11_joy_13 (by decide) ?_
    obtain ⟨rfl, rfl⟩ := zr_some h
    exact z_iret dX11_joy_17
def f_X11_saddest_L6 : Nat → Int32 → Int32 → Int32 → zS → Option (Int32 × zS)
  | 0, _, _, _, _ => none
  | n + 1, x1, x2, x3, S =>
    if x3 < (S.1 5 3) then
      zb (f_X11_joyNow x3 S) fun r4 T3 =>
      if x1 = (-1) then
        zlet (x3 + 1) fun v6 =>
        (f_X11_saddest_L6 n) x3 r4 v6 T3
      else
        if r4 < x2 then
          zlet (x3 + 1) fun v7 =>
          (f_X11_saddest_L6 n) x3 r4 v7 T3
        else
          zlet (x3 + 1) fun v7 =>
          (f_X11_saddest_L6 n) x1 x2 v7 T3
    else
      some (x1, S)
def f_X11_saddest  (S : zS) : Option (Int32 × zS) :=
  f_X11_saddest_L6 zN (-1) 0 0 S
set_option maxRecDepth 100000 in
theorem w_X11_saddest_L6 (l : Launch) {r : Int32} {S1 : zS} : ∀ (n : Nat) (x1 : Int32) (x2 : Int32) (x3 : Int32) (S : zS), f_X11_saddest_L6 n x1 x2 x3 S = some (r, S1) → WA zLX l RX11 cX11_saddest 5 (some .int) 5 (some (.int r)) S1 6 [(0, .ref 0), (1, .int x1), (2, .int x2), (3, .int x3)] [] S := by
  intro n
  induction n with
  | zero =>
    intro x1 x2 x3 S h
    exact nomatch h
  | succ n ih =>
    intro x1 x2 x3 S h
    rw [f_X11_saddest_L6] at h
    refine z_iload_n (pc := 6) (q := 3) dX11_saddest_6 rfl rfl ?_
    refine z_aload_n (pc := 7) (q := 0) dX11_saddest_7 rfl rfl ?_
    refine z_getR (pc := 8) dX11_saddest_8 zf_X11_25 gX_0_3 ?_
    refine z_getI (pc := 11) dX11_saddest_11 zf_X11_288 gX_5_3 ?_
    refine z_icmp_ge (pc := 14) (tgt := 46) dX11_saddest_14 (by decide) (fun c1 => ?_) (fun c1 => ?_)
    · have h := ze_some c1 h
      refine z_iload_n (pc := 46) (q := 1) dX11_saddest_46 rfl rfl ?_
      obtain ⟨rfl, rfl⟩ := zr_some h
      exact z_iret dX11_saddest_47
    · have h := zt_some c1 h
      refine z_aload_n (pc := 17) (q := 0) dX11_saddest_17 rfl rfl ?_
      refine z_iload_n (pc := 18) (q := 3) dX11_saddest_18 rfl rfl ?_
      obtain ⟨r4, T3, q2, h⟩ := zb_some h
      refine z_callVi (pc := 19) (st := []) [.int x3] dX11_saddest_19 zm_X11_285 zM_X11_joyNow (by decide) oX_0 rfl (w_X11_joyNow l q2) rfl rfl (Nat.le_of_ble_eq_true rfl) ?_
      refine z_istore (pc := 22) (lo' := [(4, .int r4), (0, .ref 0), (1, .int x1), (2, .int x2), (3, .int x3)]) dX11_saddest_22 (by decide) rfl ?_
      refine z_iload_n (pc := 24) (q := 2) dX11_saddest_24 rfl rfl ?_
      refine z_iconst (pc := 25) (v := (-1)) dX11_saddest_25 zci_m1 ?_
      refine z_icmp_eq (pc := 26) (tgt := 35) dX11_saddest_26 (by decide) (fun c5 => ?_) (fun c5 => ?_)
      · have h := zt_some c5 h
        refine z_iload_n (pc := 35) (q := 4) dX11_saddest_35 rfl rfl ?_
        refine z_istore_n (pc := 36) (lo' := [(1, .int x3), (4, .int r4), (0, .ref 0), (2, .int x2), (3, .int x3)]) dX11_saddest_36 rfl (by decide) rfl ?_
        refine z_iload (pc := 37) (q := 1) dX11_saddest_37 rfl ?_
        refine z_istore_n (pc := 39) (lo' := [(2, .int r4), (1, .int x3), (4, .int r4), (0, .ref 0), (3, .int x3)]) dX11_saddest_39 rfl (by decide) rfl ?_
        obtain ⟨v6, ev6, h⟩ := zl_some h
        refine z_iinc (pc := 40) (q := 4) (v := v6) (lo' := [(3, .int v6), (2, .int r4), (1, .int x3), (4, .int r4), (0, .ref 0)]) dX11_saddest_40 rfl (by rw [ev6, zci_1]) (by decide) rfl ?_
        refine z_goto (pc := 43) (tgt := 6) dX11_saddest_43 (by decide) ?_
        exact z_sub [4, 2, 1, 0] rfl (ih x3 r4 v6 T3 h)
      · have h := ze_some c5 h
        refine z_iload (pc := 29) (q := 0) dX11_saddest_29 rfl ?_
        refine z_iload_n (pc := 31) (q := 3) dX11_saddest_31 rfl rfl ?_
        refine z_icmp_ge (pc := 32) (tgt := 40) dX11_saddest_32 (by decide) (fun c6 => ?_) (fun c6 => ?_)
        · have h := ze_some c6 h
          obtain ⟨v7, ev7, h⟩ := zl_some h
          refine z_iinc (pc := 40) (q := 4) (v := v7) (lo' := [(3, .int v7), (4, .int r4), (0, .ref 0), (1, .int x1), (2, .int x2)]) dX11_saddest_40 rfl (by rw [ev7, zci_1]) (by decide) rfl ?_
          refine z_goto (pc := 43) (tgt := 6) dX11_saddest_43 (by decide) ?_
          exact z_sub [2, 3, 4, 0] rfl (ih x1 x2 v7 T3 h)
        · have h := zt_some c6 h
          refine z_iload_n (pc := 35) (q := 4) dX11_saddest_35 rfl rfl ?_
          refine z_istore_n (pc := 36) (lo' := [(1, .int x3), (4, .int r4), (0, .ref 0), (2, .int x2), (3, .int x3)]) dX11_saddest_36 rfl (by decide) rfl ?_
          refine z_iload (pc := 37) (q := 1) dX11_saddest_37 rfl ?_
          refine z_istore_n (pc := 39) (lo' := [(2, .int r4), (1, .int x3), (4, .int r4), (0, .ref 0), (3, .int x3)]) dX11_saddest_39 rfl (by decide) rfl ?_
          obtain ⟨v7, ev7, h⟩ := zl_some h
          refine z_iinc (pc := 40) (q := 4) (v := v7) (lo' := [(3, .int v7), (2, .int r4), (1, .int x3), (4, .int r4), (0, .ref 0)]) dX11_saddest_40 rfl (by rw [ev7, zci_1]) (by decide) rfl ?_
          refine z_goto (pc := 43) (tgt := 6) dX11_saddest_43 (by decide) ?_
          exact z_sub [4, 2, 1, 0] rfl (ih x3 r4 v7 T3 h)
set_option maxRecDepth 100000 in
theorem w_X11_saddest (l : Launch)  {S : zS} {r : Int32} {S1 : zS} (h : f_X11_saddest S = some (r, S1)) : zMet zLX l yX11_saddest cX11_saddest 5 (some .int) 5 [.ref 0] S (some (.int r)) S1 := by
  unfold f_X11_saddest at h
  refine zMet.of (by decide +kernel) (Nat.le_of_ble_eq_true rfl) ?_
  show WA zLX l RX11 cX11_saddest 5 (some .int) 5 (some (.int r)) S1 0 [(0, .ref 0)] [] S
  refine z_iconst (pc := 0) (v := (-1)) dX11_saddest_0 zci_m1 ?_
  refine z_istore_n (pc := 1) (lo' := [(1, .int (-1)), (0, .ref 0)]) dX11_saddest_1 rfl (by decide) rfl ?_
  refine z_iconst (pc := 2) (v := 0) dX11_saddest_2 zci_0 ?_
  refine z_istore_n (pc := 3) (lo' := [(2, .int 0), (1, .int (-1)), (0, .ref 0)]) dX11_saddest_3 rfl (by decide) rfl ?_
  refine z_iconst (pc := 4) (v := 0) dX11_saddest_4 zci_0 ?_
  refine z_istore_n (pc := 5) (lo' := [(3, .int 0), (2, .int 0), (1, .int (-1)), (0, .ref 0)]) dX11_saddest_5 rfl (by decide) rfl ?_
  exact z_sub [3, 2, 1, 0] rfl (w_X11_saddest_L6 l zN (-1) 0 0 S h)
def f_X1_readInto_13_64_B114 (K20 : Int32 → Int32 → zS → Option zS) (x2 : Int32) (x3 : Int32) (s0 : Int32) (s1 : Int32) (S : zS) : Option zS :=
  if zin s1 4 then
  zlet (zput S 64 s1.toNatClampNeg s0) fun T2 =>
  zlet (x3 + 1) fun v3 =>
  K20 x2 v3 T2 else none
def f_X1_readInto_13_64_L20 : Nat → Int32 → Int32 → zS → Option zS
  | 0, _, _, _ => none
  | n + 1, x2, x3, S =>
    if x3 < 12 then
      if zin x3 12 then
      zlet (S.1 20 x3.toNatClampNeg) fun v3 =>
      if v3 < 0 then
        zlet (x3 + 1) fun v5 =>
        (f_X1_readInto_13_64_L20 n) x2 v5 S
      else
        if v3 < 12 then
          if ((x2 >>> (v3 &&& 31)) &&& 1) = 0 then
            zlet (x3 + 1) fun v7 =>
            (f_X1_readInto_13_64_L20 n) x2 v7 S
          else
            if zin v3 12 then
            zlet (S.1 16 v3.toNatClampNeg) fun v8 =>
            if v8 < 0 then
              zlet (x3 + 1) fun v10 =>
              (f_X1_readInto_13_64_L20 n) x2 v10 S
            else
              if v8 < 4 then
                if zin v3 12 then
                if (S.1 18 v3.toNatClampNeg) < 0 then
                  if zin v3 12 then
                  f_X1_readInto_13_64_B114 (f_X1_readInto_13_64_L20 n) x2 x3 (S.1 17 v3.toNatClampNeg) v8 S else none
                else
                  if zin v8 4 then
                  if zin v3 12 then
                  f_X1_readInto_13_64_B114 (f_X1_readInto_13_64_L20 n) x2 x3 ((S.1 64 v8.toNatClampNeg) + (S.1 17 v3.toNatClampNeg)) v8 S else none else none else none
              else
                zlet (x3 + 1) fun v11 =>
                (f_X1_readInto_13_64_L20 n) x2 v11 S else none
        else
          zlet (x3 + 1) fun v6 =>
          (f_X1_readInto_13_64_L20 n) x2 v6 S else none
    else
      some S
def f_X1_readInto_13_64_L2 : Nat → Int32 → Int32 → zS → Option zS
  | 0, _, _, _ => none
  | n + 1, x2, x3, S =>
    if x3 < 4 then
      if zin x3 4 then
      zlet (zput S 64 x3.toNatClampNeg 0) fun T3 =>
      zlet (x3 + 1) fun v4 =>
      (f_X1_readInto_13_64_L2 n) x2 v4 T3 else none
    else
      f_X1_readInto_13_64_L20 zN x2 0 S
def f_X1_readInto_13_64 (x2 : Int32) (S : zS) : Option zS :=
  f_X1_readInto_13_64_L2 zN x2 0 S
set_option maxRecDepth 100000 in
theorem w_X1_readInto_13_64_B114 (l : Launch) {S1 : zS} (K20 : Int32 → Int32 → zS → Option zS) (hK20 : ∀ (x2 : Int32) (x3 : Int32) (S : zS), K20 x2 x3 S = some S1 → WA zLX l RX1 cX1_readInto 6 none 1 none S1 20 [(0, .ref 13), (1, .ref 64), (2, .int x2), (3, .int x3)] [] S) (x2 : Int32) (x3 : Int32) (s0 : Int32) (s1 : Int32) (S : zS) (h : f_X1_readInto_13_64_B114 K20 x2 x3 s0 s1 S = some S1) : WA zLX l RX1 cX1_readInto 6 none 1 none S1 114 [(0, .ref 13), (1, .ref 64), (2, .int x2), (3, .int x3)] [.int s0, .int s1, .ref 64] S := by
  unfold f_X1_readInto_13_64_B114 at h
  obtain ⟨c1, h⟩ := zg_some h
  obtain ⟨T2, eT2, h⟩ := zl_some h
  refine z_iast (pc := 114) dX1_readInto_114 aX_64 c1 eT2 ?_
  obtain ⟨v3, ev3, h⟩ := zl_some h
  refine z_iinc (pc := 115) (q := 3) (v := v3) (lo' := [(3, .int v3), (0, .ref 13), (1, .ref 64), (2, .int x2)]) dX1_readInto_115 rfl (by rw [ev3, zci_1]) (by decide) rfl ?_
  refine z_goto (pc := 118) (tgt := 20) dX1_readInto_118 (by decide) ?_
  exact z_sub [1, 2, 3, 0] rfl (hK20 x2 v3 T2 h)
set_option maxRecDepth 100000 in
theorem w_X1_readInto_13_64_L20 (l : Launch) {S1 : zS} : ∀ (n : Nat) (x2 : Int32) (x3 : Int32) (S : zS), f_X1_readInto_13_64_L20 n x2 x3 S = some S1 → WA zLX l RX1 cX1_readInto 6 none 1 none S1 20 [(0, .ref 13), (1, .ref 64), (2, .int x2), (3, .int x3)] [] S := by
  intro n
  induction n with
  | zero =>
    intro x2 x3 S h
    exact nomatch h
  | succ n ih =>
    intro x2 x3 S h
    rw [f_X1_readInto_13_64_L20] at h
    refine z_iload_n (pc := 20) (q := 3) dX1_readInto_20 rfl rfl ?_
    refine z_aload_n (pc := 21) (q := 0) dX1_readInto_21 rfl rfl ?_
    refine z_getR (pc := 22) dX1_readInto_22 zf_X1_30 gX_13_6 ?_
    refine z_alen (pc := 25) (v := 12) dX1_readInto_25 aX_20 (by decide) (by decide) ?_
    refine z_icmp_ge (pc := 26) (tgt := 121) dX1_readInto_26 (by decide) (fun c1 => ?_) (fun c1 => ?_)
    · have h := ze_some c1 h
      cases h
      exact z_vret dX1_readInto_121
    · have h := zt_some c1 h
      refine z_aload_n (pc := 29) (q := 0) dX1_readInto_29 rfl rfl ?_
      refine z_getR (pc := 30) dX1_readInto_30 zf_X1_30 gX_13_6 ?_
      refine z_iload_n (pc := 33) (q := 3) dX1_readInto_33 rfl rfl ?_
      obtain ⟨c2, h⟩ := zg_some h
      refine z_iald (pc := 34) dX1_readInto_34 aX_20 c2 ?_
      obtain ⟨v3, ev3, h⟩ := zl_some h
      refine z_top ev3 ?_
      refine z_istore (pc := 35) (lo' := [(4, .int v3), (0, .ref 13), (1, .ref 64), (2, .int x2), (3, .int x3)]) dX1_readInto_35 (by decide) rfl ?_
      refine z_iload (pc := 37) (q := 0) dX1_readInto_37 rfl ?_
      refine z_if_lt (pc := 39) (tgt := 115) dX1_readInto_39 (by decide) (fun c4 => ?_) (fun c4 => ?_)
      · have h := zt_some c4 h
        obtain ⟨v5, ev5, h⟩ := zl_some h
        refine z_iinc (pc := 115) (q := 4) (v := v5) (lo' := [(3, .int v5), (4, .int v3), (0, .ref 13), (1, .ref 64), (2, .int x2)]) dX1_readInto_115 rfl (by rw [ev5, zci_1]) (by decide) rfl ?_
        refine z_goto (pc := 118) (tgt := 20) dX1_readInto_118 (by decide) ?_
        exact z_sub [2, 3, 4, 0] rfl (ih x2 v5 S h)
      · have h := ze_some c4 h
        refine z_iload (pc := 42) (q := 0) dX1_readInto_42 rfl ?_
        refine z_bipush (pc := 44) (v := 12) dX1_readInto_44 zcb_12 ?_
        refine z_icmp_ge (pc := 46) (tgt := 115) dX1_readInto_46 (by decide) (fun c5 => ?_) (fun c5 => ?_)
        · have h := ze_some c5 h
          obtain ⟨v6, ev6, h⟩ := zl_some h
          refine z_iinc (pc := 115) (q := 4) (v := v6) (lo' := [(3, .int v6), (4, .int v3), (0, .ref 13), (1, .ref 64), (2, .int x2)]) dX1_readInto_115 rfl (by rw [ev6, zci_1]) (by decide) rfl ?_
          refine z_goto (pc := 118) (tgt := 20) dX1_readInto_118 (by decide) ?_
          exact z_sub [2, 3, 4, 0] rfl (ih x2 v6 S h)
        · have h := zt_some c5 h
          refine z_iload_n (pc := 49) (q := 3) dX1_readInto_49 rfl rfl ?_
          refine z_iload (pc := 50) (q := 0) dX1_readInto_50 rfl ?_
          refine z_ishr (pc := 52) dX1_readInto_52 ?_
          refine z_iconst (pc := 53) (v := 1) dX1_readInto_53 zci_1 ?_
          refine z_iand (pc := 54) dX1_readInto_54 ?_
          refine z_if_eq (pc := 55) (tgt := 115) dX1_readInto_55 (by decide) (fun c6 => ?_) (fun c6 => ?_)
          · have h := zt_some c6 h
            obtain ⟨v7, ev7, h⟩ := zl_some h
            refine z_iinc (pc := 115) (q := 4) (v := v7) (lo' := [(3, .int v7), (4, .int v3), (0, .ref 13), (1, .ref 64), (2, .int x2)]) dX1_readInto_115 rfl (by rw [ev7, zci_1]) (by decide) rfl ?_
            refine z_goto (pc := 118) (tgt := 20) dX1_readInto_118 (by decide) ?_
            exact z_sub [2, 3, 4, 0] rfl (ih x2 v7 S h)
          · have h := ze_some c6 h
            refine z_aload_n (pc := 58) (q := 1) dX1_readInto_58 rfl rfl ?_
            refine z_getR (pc := 59) dX1_readInto_59 zf_X1_18 gX_13_2 ?_
            refine z_iload (pc := 62) (q := 0) dX1_readInto_62 rfl ?_
            obtain ⟨c7, h⟩ := zg_some h
            refine z_iald (pc := 64) dX1_readInto_64 aX_16 c7 ?_
            obtain ⟨v8, ev8, h⟩ := zl_some h
            refine z_top ev8 ?_
            refine z_istore (pc := 65) (lo' := [(5, .int v8), (4, .int v3), (0, .ref 13), (1, .ref 64), (2, .int x2), (3, .int x3)]) dX1_readInto_65 (by decide) rfl ?_
            refine z_iload (pc := 67) (q := 0) dX1_readInto_67 rfl ?_
            refine z_if_lt (pc := 69) (tgt := 115) dX1_readInto_69 (by decide) (fun c9 => ?_) (fun c9 => ?_)
            · have h := zt_some c9 h
              obtain ⟨v10, ev10, h⟩ := zl_some h
              refine z_iinc (pc := 115) (q := 5) (v := v10) (lo' := [(3, .int v10), (5, .int v8), (4, .int v3), (0, .ref 13), (1, .ref 64), (2, .int x2)]) dX1_readInto_115 rfl (by rw [ev10, zci_1]) (by decide) rfl ?_
              refine z_goto (pc := 118) (tgt := 20) dX1_readInto_118 (by decide) ?_
              exact z_sub [3, 4, 5, 0] rfl (ih x2 v10 S h)
            · have h := ze_some c9 h
              refine z_iload (pc := 72) (q := 0) dX1_readInto_72 rfl ?_
              refine z_aload_n (pc := 74) (q := 3) dX1_readInto_74 rfl rfl ?_
              refine z_alen (pc := 75) (v := 4) dX1_readInto_75 aX_64 (by decide) (by decide) ?_
              refine z_icmp_ge (pc := 76) (tgt := 115) dX1_readInto_76 (by decide) (fun c10 => ?_) (fun c10 => ?_)
              · have h := ze_some c10 h
                obtain ⟨v11, ev11, h⟩ := zl_some h
                refine z_iinc (pc := 115) (q := 5) (v := v11) (lo' := [(3, .int v11), (5, .int v8), (4, .int v3), (0, .ref 13), (1, .ref 64), (2, .int x2)]) dX1_readInto_115 rfl (by rw [ev11, zci_1]) (by decide) rfl ?_
                refine z_goto (pc := 118) (tgt := 20) dX1_readInto_118 (by decide) ?_
                exact z_sub [3, 4, 5, 0] rfl (ih x2 v11 S h)
              · have h := zt_some c10 h
                refine z_aload_n (pc := 79) (q := 3) dX1_readInto_79 rfl rfl ?_
                refine z_iload (pc := 80) (q := 0) dX1_readInto_80 rfl ?_
                refine z_aload_n (pc := 82) (q := 2) dX1_readInto_82 rfl rfl ?_
                refine z_getR (pc := 83) dX1_readInto_83 zf_X1_24 gX_13_4 ?_
                refine z_iload (pc := 86) (q := 1) dX1_readInto_86 rfl ?_
                obtain ⟨c11, h⟩ := zg_some h
                refine z_iald (pc := 88) dX1_readInto_88 aX_18 c11 ?_
                refine z_if_ge (pc := 89) (tgt := 102) dX1_readInto_89 (by decide) (fun c12 => ?_) (fun c12 => ?_)
                · have h := ze_some c12 h
                  refine z_aload_n (pc := 102) (q := 3) dX1_readInto_102 rfl rfl ?_
                  refine z_iload (pc := 103) (q := 0) dX1_readInto_103 rfl ?_
                  obtain ⟨c13, h⟩ := zg_some h
                  refine z_iald (pc := 105) dX1_readInto_105 aX_64 c13 ?_
                  refine z_aload_n (pc := 106) (q := 2) dX1_readInto_106 rfl rfl ?_
                  refine z_getR (pc := 107) dX1_readInto_107 zf_X1_21 gX_13_3 ?_
                  refine z_iload (pc := 110) (q := 1) dX1_readInto_110 rfl ?_
                  obtain ⟨c14, h⟩ := zg_some h
                  refine z_iald (pc := 112) dX1_readInto_112 aX_17 c14 ?_
                  refine z_iadd (pc := 113) dX1_readInto_113 ?_
                  exact z_sub [2, 3, 4, 5] rfl (w_X1_readInto_13_64_B114 l (f_X1_readInto_13_64_L20 n) ih x2 x3 ((S.1 64 v8.toNatClampNeg) + (S.1 17 v3.toNatClampNeg)) v8 S h)
                · have h := zt_some c12 h
                  refine z_aload_n (pc := 92) (q := 2) dX1_readInto_92 rfl rfl ?_
                  refine z_getR (pc := 93) dX1_readInto_93 zf_X1_21 gX_13_3 ?_
                  refine z_iload (pc := 96) (q := 1) dX1_readInto_96 rfl ?_
                  obtain ⟨c13, h⟩ := zg_some h
                  refine z_iald (pc := 98) dX1_readInto_98 aX_17 c13 ?_
                  refine z_goto (pc := 99) (tgt := 114) dX1_readInto_99 (by decide) ?_
                  exact z_sub [2, 3, 4, 5] rfl (w_X1_readInto_13_64_B114 l (f_X1_readInto_13_64_L20 n) ih x2 x3 (S.1 17 v3.toNatClampNeg) v8 S h)
set_option maxRecDepth 100000 in
theorem w_X1_readInto_13_64_L2 (l : Launch) {S1 : zS} : ∀ (n : Nat) (x2 : Int32) (x3 : Int32) (S : zS), f_X1_readInto_13_64_L2 n x2 x3 S = some S1 → WA zLX l RX1 cX1_readInto 6 none 1 none S1 2 [(0, .ref 13), (1, .ref 64), (2, .int x2), (3, .int x3)] [] S := by
  intro n
  induction n with
  | zero =>
    intro x2 x3 S h
    exact nomatch h
  | succ n ih =>
    intro x2 x3 S h
    rw [f_X1_readInto_13_64_L2] at h
    refine z_iload_n (pc := 2) (q := 3) dX1_readInto_2 rfl rfl ?_
    refine z_aload_n (pc := 3) (q := 1) dX1_readInto_3 rfl rfl ?_
    refine z_alen (pc := 4) (v := 4) dX1_readInto_4 aX_64 (by decide) (by decide) ?_
    refine z_icmp_ge (pc := 5) (tgt := 18) dX1_readInto_5 (by decide) (fun c1 => ?_) (fun c1 => ?_)
    · have h := ze_some c1 h
      refine z_iconst (pc := 18) (v := 0) dX1_readInto_18 zci_0 ?_
      refine z_istore_n (pc := 19) (lo' := [(3, .int 0), (0, .ref 13), (1, .ref 64), (2, .int x2)]) dX1_readInto_19 rfl (by decide) rfl ?_
      exact z_sub [1, 2, 3, 0] rfl (w_X1_readInto_13_64_L20 l zN x2 0 S h)
    · have h := zt_some c1 h
      refine z_aload_n (pc := 8) (q := 1) dX1_readInto_8 rfl rfl ?_
      refine z_iload_n (pc := 9) (q := 3) dX1_readInto_9 rfl rfl ?_
      refine z_iconst (pc := 10) (v := 0) dX1_readInto_10 zci_0 ?_
      obtain ⟨c2, h⟩ := zg_some h
      obtain ⟨T3, eT3, h⟩ := zl_some h
      refine z_iast (pc := 11) dX1_readInto_11 aX_64 c2 eT3 ?_
      obtain ⟨v4, ev4, h⟩ := zl_some h
      refine z_iinc (pc := 12) (q := 3) (v := v4) (lo' := [(3, .int v4), (0, .ref 13), (1, .ref 64), (2, .int x2)]) dX1_readInto_12 rfl (by rw [ev4, zci_1]) (by decide) rfl ?_
      refine z_goto (pc := 15) (tgt := 2) dX1_readInto_15 (by decide) ?_
      exact z_sub [1, 2, 3, 0] rfl (ih x2 v4 T3 h)
set_option maxRecDepth 100000 in
theorem w_X1_readInto_13_64 (l : Launch) {x2 : Int32} {S : zS} {S1 : zS} (h : f_X1_readInto_13_64 x2 S = some S1) : zMet zLX l yX1_readInto cX1_readInto 6 none 1 [.ref 13, .ref 64, .int x2] S none S1 := by
  unfold f_X1_readInto_13_64 at h
  refine zMet.of (by decide +kernel) (Nat.le_of_ble_eq_true rfl) ?_
  show WA zLX l RX1 cX1_readInto 6 none 1 none S1 0 [(0, .ref 13), (1, .ref 64), (2, .int x2)] [] S
  refine z_iconst (pc := 0) (v := 0) dX1_readInto_0 zci_0 ?_
  refine z_istore_n (pc := 1) (lo' := [(3, .int 0), (0, .ref 13), (1, .ref 64), (2, .int x2)]) dX1_readInto_1 rfl (by decide) rfl ?_
  exact z_sub [1, 2, 3, 0] rfl (w_X1_readInto_13_64_L2 l zN x2 0 S h)
def f_X4_joyOf_5_64_L5 : Nat → Int32 → Int32 → Int32 → zS → Option (Int32 × zS)
  | 0, _, _, _, _ => none
  | n + 1, x1, x3, x4, S =>
    if x4 < (S.1 5 2) then
      if x4 < 4 then
        zlet ((x1 * 4) + x4) fun v3 =>
        if v3 < 0 then
          zlet (x4 + 1) fun v5 =>
          (f_X4_joyOf_5_64_L5 n) x1 x3 v5 S
        else
          if v3 < 12 then
            if v3 < 12 then
              if zin v3 12 then
              if zin x4 4 then
              if zin v3 12 then
              zlet (x3 - ((S.1 8 v3.toNatClampNeg) * (zabs ((S.1 64 x4.toNatClampNeg) - (S.1 7 v3.toNatClampNeg))))) fun v10 =>
              zlet (x4 + 1) fun v11 =>
              (f_X4_joyOf_5_64_L5 n) x1 v10 v11 S else none else none else none
            else
              zlet (x4 + 1) fun v7 =>
              (f_X4_joyOf_5_64_L5 n) x1 x3 v7 S
          else
            zlet (x4 + 1) fun v6 =>
            (f_X4_joyOf_5_64_L5 n) x1 x3 v6 S
      else
        some (x3, S)
    else
      some (x3, S)
def f_X4_joyOf_5_64 (x1 : Int32) (S : zS) : Option (Int32 × zS) :=
  f_X4_joyOf_5_64_L5 zN x1 0 0 S
set_option maxRecDepth 100000 in
theorem w_X4_joyOf_5_64_L5 (l : Launch) {r : Int32} {S1 : zS} : ∀ (n : Nat) (x1 : Int32) (x3 : Int32) (x4 : Int32) (S : zS), f_X4_joyOf_5_64_L5 n x1 x3 x4 S = some (r, S1) → WA zLX l RX4 cX4_joyOf 6 (some .int) 1 (some (.int r)) S1 5 [(0, .ref 5), (1, .int x1), (2, .ref 64), (3, .int x3), (4, .int x4)] [] S := by
  intro n
  induction n with
  | zero =>
    intro x1 x3 x4 S h
    exact nomatch h
  | succ n ih =>
    intro x1 x3 x4 S h
    rw [f_X4_joyOf_5_64_L5] at h
    refine z_iload (pc := 5) (q := 4) dX4_joyOf_5 rfl ?_
    refine z_aload_n (pc := 7) (q := 0) dX4_joyOf_7 rfl rfl ?_
    refine z_getI (pc := 8) dX4_joyOf_8 zf_X4_45 gX_5_2 ?_
    refine z_icmp_ge (pc := 11) (tgt := 86) dX4_joyOf_11 (by decide) (fun c1 => ?_) (fun c1 => ?_)
    · have h := ze_some c1 h
      refine z_iload_n (pc := 86) (q := 3) dX4_joyOf_86 rfl rfl ?_
      obtain ⟨rfl, rfl⟩ := zr_some h
      exact z_iret dX4_joyOf_87
    · have h := zt_some c1 h
      refine z_iload (pc := 14) (q := 4) dX4_joyOf_14 rfl ?_
      refine z_aload_n (pc := 16) (q := 2) dX4_joyOf_16 rfl rfl ?_
      refine z_alen (pc := 17) (v := 4) dX4_joyOf_17 aX_64 (by decide) (by decide) ?_
      refine z_icmp_ge (pc := 18) (tgt := 86) dX4_joyOf_18 (by decide) (fun c2 => ?_) (fun c2 => ?_)
      · have h := ze_some c2 h
        refine z_iload_n (pc := 86) (q := 3) dX4_joyOf_86 rfl rfl ?_
        obtain ⟨rfl, rfl⟩ := zr_some h
        exact z_iret dX4_joyOf_87
      · have h := zt_some c2 h
        refine z_iload_n (pc := 21) (q := 1) dX4_joyOf_21 rfl rfl ?_
        refine z_iconst (pc := 22) (v := 4) dX4_joyOf_22 zci_4 ?_
        refine z_imul (pc := 23) dX4_joyOf_23 ?_
        refine z_iload (pc := 24) (q := 4) dX4_joyOf_24 rfl ?_
        refine z_iadd (pc := 26) dX4_joyOf_26 ?_
        obtain ⟨v3, ev3, h⟩ := zl_some h
        refine z_top ev3 ?_
        refine z_istore (pc := 27) (lo' := [(5, .int v3), (0, .ref 5), (1, .int x1), (2, .ref 64), (3, .int x3), (4, .int x4)]) dX4_joyOf_27 (by decide) rfl ?_
        refine z_iload (pc := 29) (q := 0) dX4_joyOf_29 rfl ?_
        refine z_if_lt (pc := 31) (tgt := 80) dX4_joyOf_31 (by decide) (fun c4 => ?_) (fun c4 => ?_)
        · have h := zt_some c4 h
          obtain ⟨v5, ev5, h⟩ := zl_some h
          refine z_iinc (pc := 80) (q := 5) (v := v5) (lo' := [(4, .int v5), (5, .int v3), (0, .ref 5), (1, .int x1), (2, .ref 64), (3, .int x3)]) dX4_joyOf_80 rfl (by rw [ev5, zci_1]) (by decide) rfl ?_
          refine z_goto (pc := 83) (tgt := 5) dX4_joyOf_83 (by decide) ?_
          exact z_sub [2, 3, 4, 5, 0] rfl (ih x1 x3 v5 S h)
        · have h := ze_some c4 h
          refine z_iload (pc := 34) (q := 0) dX4_joyOf_34 rfl ?_
          refine z_aload_n (pc := 36) (q := 1) dX4_joyOf_36 rfl rfl ?_
          refine z_getR (pc := 37) dX4_joyOf_37 zf_X4_18 gX_5_8 ?_
          refine z_alen (pc := 40) (v := 12) dX4_joyOf_40 aX_8 (by decide) (by decide) ?_
          refine z_icmp_ge (pc := 41) (tgt := 80) dX4_joyOf_41 (by decide) (fun c5 => ?_) (fun c5 => ?_)
          · have h := ze_some c5 h
            obtain ⟨v6, ev6, h⟩ := zl_some h
            refine z_iinc (pc := 80) (q := 5) (v := v6) (lo' := [(4, .int v6), (5, .int v3), (0, .ref 5), (1, .int x1), (2, .ref 64), (3, .int x3)]) dX4_joyOf_80 rfl (by rw [ev6, zci_1]) (by decide) rfl ?_
            refine z_goto (pc := 83) (tgt := 5) dX4_joyOf_83 (by decide) ?_
            exact z_sub [2, 3, 4, 5, 0] rfl (ih x1 x3 v6 S h)
          · have h := zt_some c5 h
            refine z_iload (pc := 44) (q := 0) dX4_joyOf_44 rfl ?_
            refine z_aload_n (pc := 46) (q := 1) dX4_joyOf_46 rfl rfl ?_
            refine z_getR (pc := 47) dX4_joyOf_47 zf_X4_15 gX_5_7 ?_
            refine z_alen (pc := 50) (v := 12) dX4_joyOf_50 aX_7 (by decide) (by decide) ?_
            refine z_icmp_ge (pc := 51) (tgt := 80) dX4_joyOf_51 (by decide) (fun c6 => ?_) (fun c6 => ?_)
            · have h := ze_some c6 h
              obtain ⟨v7, ev7, h⟩ := zl_some h
              refine z_iinc (pc := 80) (q := 5) (v := v7) (lo' := [(4, .int v7), (5, .int v3), (0, .ref 5), (1, .int x1), (2, .ref 64), (3, .int x3)]) dX4_joyOf_80 rfl (by rw [ev7, zci_1]) (by decide) rfl ?_
              refine z_goto (pc := 83) (tgt := 5) dX4_joyOf_83 (by decide) ?_
              exact z_sub [2, 3, 4, 5, 0] rfl (ih x1 x3 v7 S h)
            · have h := zt_some c6 h
              refine z_iload_n (pc := 54) (q := 4) dX4_joyOf_54 rfl rfl ?_
              refine z_aload_n (pc := 55) (q := 1) dX4_joyOf_55 rfl rfl ?_
              refine z_getR (pc := 56) dX4_joyOf_56 zf_X4_18 gX_5_8 ?_
              refine z_iload (pc := 59) (q := 0) dX4_joyOf_59 rfl ?_
              obtain ⟨c7, h⟩ := zg_some h
              refine z_iald (pc := 61) dX4_joyOf_61 aX_8 c7 ?_
              refine z_aload_n (pc := 62) (q := 3) dX4_joyOf_62 rfl rfl ?_
              refine z_iload (pc := 63) (q := 5) dX4_joyOf_63 rfl ?_
              obtain ⟨c8, h⟩ := zg_some h
              refine z_iald (pc := 65) dX4_joyOf_65 aX_64 c8 ?_
              refine z_aload_n (pc := 66) (q := 1) dX4_joyOf_66 rfl rfl ?_
              refine z_getR (pc := 67) dX4_joyOf_67 zf_X4_15 gX_5_7 ?_
              refine z_iload (pc := 70) (q := 0) dX4_joyOf_70 rfl ?_
              obtain ⟨c9, h⟩ := zg_some h
              refine z_iald (pc := 72) dX4_joyOf_72 aX_7 c9 ?_
              refine z_isub (pc := 73) dX4_joyOf_73 ?_
              refine z_abs (pc := 74) dX4_joyOf_74 zm_X4_70 zM_abs.1 zM_abs.2.1 zM_abs.2.2 (by decide) (Nat.le_of_ble_eq_true rfl) ?_
              refine z_imul (pc := 77) dX4_joyOf_77 ?_
              refine z_isub (pc := 78) dX4_joyOf_78 ?_
              obtain ⟨v10, ev10, h⟩ := zl_some h
              refine z_top ev10 ?_
              refine z_istore_n (pc := 79) (lo' := [(3, .int v10), (5, .int v3), (0, .ref 5), (1, .int x1), (2, .ref 64), (4, .int x4)]) dX4_joyOf_79 rfl (by decide) rfl ?_
              obtain ⟨v11, ev11, h⟩ := zl_some h
              refine z_iinc (pc := 80) (q := 5) (v := v11) (lo' := [(4, .int v11), (3, .int v10), (5, .int v3), (0, .ref 5), (1, .int x1), (2, .ref 64)]) dX4_joyOf_80 rfl (by rw [ev11, zci_1]) (by decide) rfl ?_
              refine z_goto (pc := 83) (tgt := 5) dX4_joyOf_83 (by decide) ?_
              exact z_sub [3, 4, 5, 1, 0] rfl (ih x1 v10 v11 S h)
set_option maxRecDepth 100000 in
theorem w_X4_joyOf_5_64 (l : Launch) {x1 : Int32} {S : zS} {r : Int32} {S1 : zS} (h : f_X4_joyOf_5_64 x1 S = some (r, S1)) : zMet zLX l yX4_joyOf cX4_joyOf 6 (some .int) 1 [.ref 5, .int x1, .ref 64] S (some (.int r)) S1 := by
  unfold f_X4_joyOf_5_64 at h
  refine zMet.of (by decide +kernel) (Nat.le_of_ble_eq_true rfl) ?_
  show WA zLX l RX4 cX4_joyOf 6 (some .int) 1 (some (.int r)) S1 0 [(0, .ref 5), (1, .int x1), (2, .ref 64)] [] S
  refine z_iconst (pc := 0) (v := 0) dX4_joyOf_0 zci_0 ?_
  refine z_istore_n (pc := 1) (lo' := [(3, .int 0), (0, .ref 5), (1, .int x1), (2, .ref 64)]) dX4_joyOf_1 rfl (by decide) rfl ?_
  refine z_iconst (pc := 2) (v := 0) dX4_joyOf_2 zci_0 ?_
  refine z_istore (pc := 3) (lo' := [(4, .int 0), (3, .int 0), (0, .ref 5), (1, .int x1), (2, .ref 64)]) dX4_joyOf_3 (by decide) rfl ?_
  exact z_sub [2, 3, 4, 1, 0] rfl (w_X4_joyOf_5_64_L5 l zN x1 0 0 S h)
def f_X10_pickOf_63 (x1 : Int32) (x2 : Int32) (S : zS) : Option (Int32 × zS) :=
  some (((x1 >>> ((x2 * 4) &&& 31)) &&& 15) - 1, S)
set_option maxRecDepth 100000 in
theorem w_X10_pickOf_63 (l : Launch) {x1 : Int32} {x2 : Int32} {S : zS} {r : Int32} {S1 : zS} (h : f_X10_pickOf_63 x1 x2 S = some (r, S1)) : zMet zLX l yX10_pickOf cX10_pickOf 3 (some .int) 1 [.ref 63, .int x1, .int x2] S (some (.int r)) S1 := by
  unfold f_X10_pickOf_63 at h
  refine zMet.of (by decide +kernel) (Nat.le_of_ble_eq_true rfl) ?_
  show WA zLX l RX10 cX10_pickOf 3 (some .int) 1 (some (.int r)) S1 0 [(0, .ref 63), (1, .int x1), (2, .int x2)] [] S
  refine z_iload_n (pc := 0) (q := 1) dX10_pickOf_0 rfl rfl ?_
  refine z_iload_n (pc := 1) (q := 2) dX10_pickOf_1 rfl rfl ?_
  refine z_iconst (pc := 2) (v := 4) dX10_pickOf_2 zci_4 ?_
  refine z_imul (pc := 3) dX10_pickOf_3 ?_
  refine z_ishr (pc := 4) dX10_pickOf_4 ?_
  refine z_bipush (pc := 5) (v := 15) dX10_pickOf_5 zcb_15 ?_
  refine z_iand (pc := 7) dX10_pickOf_7 ?_
  refine z_iconst (pc := 8) (v := 1) dX10_pickOf_8 zci_1 ?_
  refine z_isub (pc := 9) dX10_pickOf_9 ?_
  obtain ⟨rfl, rfl⟩ := zr_some h
  exact z_iret dX10_pickOf_10
def f_X10_joyAfter_63_5_L8 : Nat → Int32 → Int32 → Int32 → Int32 → zS → Option (Int32 × zS)
  | 0, _, _, _, _, _ => none
  | n + 1, x2, x4, x5, x6, S =>
    if x6 < 3 then
      zb (f_X10_pickOf_63 x4 x6 S) fun r4 T3 =>
      if r4 = (-1) then
        zlet (x6 + 1) fun v6 =>
        (f_X10_joyAfter_63_5_L8 n) x2 x4 x5 v6 T3
      else
        zlet (x5 &&& ((1 <<< (r4 &&& 31)) ^^^ (-1))) fun v6 =>
        zlet (x6 + 1) fun v7 =>
        (f_X10_joyAfter_63_5_L8 n) x2 x4 v6 v7 T3
    else
      zb (f_X1_standing_13 x5 S) fun r4 T3 =>
      zu (f_X1_readInto_13_64 r4 T3) fun T6 =>
      zb (f_X4_joyOf_5_64 x2 T6) fun r9 T8 =>
      some (r9, T8)
def f_X10_joyAfter_63_5 (x2 : Int32) (x3 : Int32) (x4 : Int32) (S : zS) : Option (Int32 × zS) :=
  zlet (x2 + 1) fun v1 =>
  f_X10_joyAfter_63_5_L8 zN x2 x4 x3 v1 S
set_option maxRecDepth 100000 in
theorem w_X10_joyAfter_63_5_L8 (l : Launch) {r : Int32} {S1 : zS} : ∀ (n : Nat) (x2 : Int32) (x4 : Int32) (x5 : Int32) (x6 : Int32) (S : zS), f_X10_joyAfter_63_5_L8 n x2 x4 x5 x6 S = some (r, S1) → WA zLX l RX10 cX10_joyAfter 8 (some .int) 3 (some (.int r)) S1 8 [(0, .ref 63), (1, .ref 5), (2, .int x2), (4, .int x4), (5, .int x5), (6, .int x6)] [] S := by
  intro n
  induction n with
  | zero =>
    intro x2 x4 x5 x6 S h
    exact nomatch h
  | succ n ih =>
    intro x2 x4 x5 x6 S h
    rw [f_X10_joyAfter_63_5_L8] at h
    refine z_iload (pc := 8) (q := 5) dX10_joyAfter_8 rfl ?_
    refine z_iconst (pc := 10) (v := 3) dX10_joyAfter_10 zci_3 ?_
    refine z_icmp_ge (pc := 11) (tgt := 47) dX10_joyAfter_11 (by decide) (fun c1 => ?_) (fun c1 => ?_)
    · have h := ze_some c1 h
      refine z_aload_n (pc := 47) (q := 1) dX10_joyAfter_47 rfl rfl ?_
      refine z_getR (pc := 48) dX10_joyAfter_48 zf_X10_33 gX_5_13 ?_
      refine z_aload_n (pc := 51) (q := 0) dX10_joyAfter_51 rfl rfl ?_
      refine z_getR (pc := 52) dX10_joyAfter_52 zf_X10_9 gX_63_0 ?_
      refine z_aload_n (pc := 55) (q := 1) dX10_joyAfter_55 rfl rfl ?_
      refine z_getR (pc := 56) dX10_joyAfter_56 zf_X10_33 gX_5_13 ?_
      refine z_iload (pc := 59) (q := 4) dX10_joyAfter_59 rfl ?_
      obtain ⟨r4, T3, q2, h⟩ := zb_some h
      refine z_callVi (pc := 61) (st := [.ref 64, .ref 13]) [.int x5] dX10_joyAfter_61 zm_X10_37 zM_X1_standing (by decide) oX_13 rfl (w_X1_standing_13 l q2) rfl rfl (Nat.le_of_ble_eq_true rfl) ?_
      obtain ⟨T6, q5, h⟩ := zu_some h
      refine z_callVv (pc := 64) (st := []) [.ref 64, .int r4] dX10_joyAfter_64 zm_X10_43 zM_X1_readInto (by decide) oX_13 rfl (w_X1_readInto_13_64 l q5) rfl rfl (Nat.le_of_ble_eq_true rfl) ?_
      refine z_aload_n (pc := 67) (q := 1) dX10_joyAfter_67 rfl rfl ?_
      refine z_iload_n (pc := 68) (q := 2) dX10_joyAfter_68 rfl rfl ?_
      refine z_aload_n (pc := 69) (q := 0) dX10_joyAfter_69 rfl rfl ?_
      refine z_getR (pc := 70) dX10_joyAfter_70 zf_X10_9 gX_63_0 ?_
      obtain ⟨r9, T8, q7, h⟩ := zb_some h
      refine z_callVi (pc := 73) (st := []) [.int x2, .ref 64] dX10_joyAfter_73 zm_X10_47 zM_X4_joyOf (by decide) oX_5 rfl (w_X4_joyOf_5_64 l q7) rfl rfl (Nat.le_of_ble_eq_true rfl) ?_
      obtain ⟨rfl, rfl⟩ := zr_some h
      exact z_iret dX10_joyAfter_76
    · have h := zt_some c1 h
      refine z_aload_n (pc := 14) (q := 0) dX10_joyAfter_14 rfl rfl ?_
      refine z_iload (pc := 15) (q := 3) dX10_joyAfter_15 rfl ?_
      refine z_iload (pc := 17) (q := 5) dX10_joyAfter_17 rfl ?_
      obtain ⟨r4, T3, q2, h⟩ := zb_some h
      refine z_callVi (pc := 19) (st := []) [.int x4, .int x6] dX10_joyAfter_19 zm_X10_29 zM_X10_pickOf (by decide) oX_63 rfl (w_X10_pickOf_63 l q2) rfl rfl (Nat.le_of_ble_eq_true rfl) ?_
      refine z_istore (pc := 22) (lo' := [(7, .int r4), (0, .ref 63), (1, .ref 5), (2, .int x2), (4, .int x4), (5, .int x5), (6, .int x6)]) dX10_joyAfter_22 (by decide) rfl ?_
      refine z_iload (pc := 24) (q := 0) dX10_joyAfter_24 rfl ?_
      refine z_iconst (pc := 26) (v := (-1)) dX10_joyAfter_26 zci_m1 ?_
      refine z_icmp_eq (pc := 27) (tgt := 41) dX10_joyAfter_27 (by decide) (fun c5 => ?_) (fun c5 => ?_)
      · have h := zt_some c5 h
        obtain ⟨v6, ev6, h⟩ := zl_some h
        refine z_iinc (pc := 41) (q := 6) (v := v6) (lo' := [(6, .int v6), (7, .int r4), (0, .ref 63), (1, .ref 5), (2, .int x2), (4, .int x4), (5, .int x5)]) dX10_joyAfter_41 rfl (by rw [ev6, zci_1]) (by decide) rfl ?_
        refine z_goto (pc := 44) (tgt := 8) dX10_joyAfter_44 (by decide) ?_
        exact z_sub [2, 3, 4, 5, 6, 0] rfl (ih x2 x4 x5 v6 T3 h)
      · have h := ze_some c5 h
        refine z_iload (pc := 30) (q := 5) dX10_joyAfter_30 rfl ?_
        refine z_iconst (pc := 32) (v := 1) dX10_joyAfter_32 zci_1 ?_
        refine z_iload (pc := 33) (q := 0) dX10_joyAfter_33 rfl ?_
        refine z_ishl (pc := 35) dX10_joyAfter_35 ?_
        refine z_iconst (pc := 36) (v := (-1)) dX10_joyAfter_36 zci_m1 ?_
        refine z_ixor (pc := 37) dX10_joyAfter_37 ?_
        refine z_iand (pc := 38) dX10_joyAfter_38 ?_
        obtain ⟨v6, ev6, h⟩ := zl_some h
        refine z_top ev6 ?_
        refine z_istore (pc := 39) (lo' := [(5, .int v6), (7, .int r4), (0, .ref 63), (1, .ref 5), (2, .int x2), (4, .int x4), (6, .int x6)]) dX10_joyAfter_39 (by decide) rfl ?_
        obtain ⟨v7, ev7, h⟩ := zl_some h
        refine z_iinc (pc := 41) (q := 6) (v := v7) (lo' := [(6, .int v7), (5, .int v6), (7, .int r4), (0, .ref 63), (1, .ref 5), (2, .int x2), (4, .int x4)]) dX10_joyAfter_41 rfl (by rw [ev7, zci_1]) (by decide) rfl ?_
        refine z_goto (pc := 44) (tgt := 8) dX10_joyAfter_44 (by decide) ?_
        exact z_sub [3, 4, 5, 6, 1, 0] rfl (ih x2 x4 v6 v7 T3 h)
set_option maxRecDepth 100000 in
theorem w_X10_joyAfter_63_5 (l : Launch) {x2 : Int32} {x3 : Int32} {x4 : Int32} {S : zS} {r : Int32} {S1 : zS} (h : f_X10_joyAfter_63_5 x2 x3 x4 S = some (r, S1)) : zMet zLX l yX10_joyAfter cX10_joyAfter 8 (some .int) 3 [.ref 63, .ref 5, .int x2, .int x3, .int x4] S (some (.int r)) S1 := by
  unfold f_X10_joyAfter_63_5 at h
  refine zMet.of (by decide +kernel) (Nat.le_of_ble_eq_true rfl) ?_
  show WA zLX l RX10 cX10_joyAfter 8 (some .int) 3 (some (.int r)) S1 0 [(0, .ref 63), (1, .ref 5), (2, .int x2), (3, .int x3), (4, .int x4)] [] S
  refine z_iload_n (pc := 0) (q := 3) dX10_joyAfter_0 rfl rfl ?_
  refine z_istore (pc := 1) (lo' := [(5, .int x3), (0, .ref 63), (1, .ref 5), (2, .int x2), (3, .int x3), (4, .int x4)]) dX10_joyAfter_1 (by decide) rfl ?_
  refine z_iload_n (pc := 3) (q := 3) dX10_joyAfter_3 rfl rfl ?_
  refine z_iconst (pc := 4) (v := 1) dX10_joyAfter_4 zci_1 ?_
  refine z_iadd (pc := 5) dX10_joyAfter_5 ?_
  obtain ⟨v1, ev1, h⟩ := zl_some h
  refine z_top ev1 ?_
  refine z_istore (pc := 6) (lo' := [(6, .int v1), (5, .int x3), (0, .ref 63), (1, .ref 5), (2, .int x2), (3, .int x3), (4, .int x4)]) dX10_joyAfter_6 (by decide) rfl ?_
  exact z_sub [2, 3, 4, 6, 1, 0] rfl (w_X10_joyAfter_63_5_L8 l zN x2 x4 x3 v1 S h)
