def f_X12_clashesHere_B83 (K9 : Int32 → Int32 → Int32 → zS → Option (Int32 × zS)) (K20 : Int32 → Int32 → Int32 → Int32 → zS → Option (Int32 × zS)) (x1 : Int32) (x3 : Int32) (x4 : Int32) (s0 : Int32) (s1 : Int32) (S : zS) : Option (Int32 × zS) :=
  zb (f_X12_truth s0 S) fun r3 T2 =>
  zlet (s1 + r3) fun v4 =>
  zlet (x4 + 1) fun v5 =>
  K20 x1 v4 x3 v5 T2
def f_X12_clashesHere_L20 (K9 : Int32 → Int32 → Int32 → zS → Option (Int32 × zS)) : Nat → Int32 → Int32 → Int32 → Int32 → zS → Option (Int32 × zS)
  | 0, _, _, _, _, _ => none
  | n + 1, x1, x2, x3, x4, S =>
    if x4 < x3 then
      zb (f_X12_isPlain x1 x3 S) fun r4 T3 =>
      if r4 = 0 then
        f_X12_clashesHere_B83 K9 (f_X12_clashesHere_L20 K9 n) x1 x3 x4 0 x2 T3
      else
        zb (f_X12_isPlain x1 x4 T3) fun r8 T7 =>
        if r8 = 0 then
          f_X12_clashesHere_B83 K9 (f_X12_clashesHere_L20 K9 n) x1 x3 x4 0 x2 T7
        else
          zb (f_X12_of x3 4 T7) fun r12 T11 =>
          zb (f_X12_of x4 4 T11) fun r15 T14 =>
          if r12 = r15 then
            zb (f_X12_of x3 5 T14) fun r19 T18 =>
            zb (f_X12_of x4 5 T18) fun r22 T21 =>
            if r19 = r22 then
              f_X12_clashesHere_B83 K9 (f_X12_clashesHere_L20 K9 n) x1 x3 x4 0 x2 T21
            else
              f_X12_clashesHere_B83 K9 (f_X12_clashesHere_L20 K9 n) x1 x3 x4 1 x2 T21
          else
            f_X12_clashesHere_B83 K9 (f_X12_clashesHere_L20 K9 n) x1 x3 x4 0 x2 T14
    else
      zlet (x3 + 1) fun v2 =>
      K9 x1 x2 v2 S
def f_X12_clashesHere_L9 : Nat → Int32 → Int32 → Int32 → zS → Option (Int32 × zS)
  | 0, _, _, _, _ => none
  | n + 1, x1, x2, x3, S =>
    zb (f_X12_bills S) fun r3 T2 =>
    if x3 < r3 then
      f_X12_clashesHere_L20 (f_X12_clashesHere_L9 n) zN x1 x2 x3 0 T2
    else
      some (x2, T2)
def f_X12_clashesHere  (S : zS) : Option (Int32 × zS) :=
  zb (f_X12_standing S) fun r3 T2 =>
  f_X12_clashesHere_L9 zN r3 0 0 T2
set_option maxRecDepth 100000 in
theorem w_X12_clashesHere_B83 (l : Launch) {r : Int32} {S1 : zS} (K9 : Int32 → Int32 → Int32 → zS → Option (Int32 × zS)) (hK9 : ∀ (x1 : Int32) (x2 : Int32) (x3 : Int32) (S : zS), K9 x1 x2 x3 S = some (r, S1) → WA zLM l RX12 cX12_clashesHere 5 (some .int) 5 (some (.int r)) S1 9 [(0, .ref 0), (1, .int x1), (2, .int x2), (3, .int x3)] [] S) (K20 : Int32 → Int32 → Int32 → Int32 → zS → Option (Int32 × zS)) (hK20 : ∀ (x1 : Int32) (x2 : Int32) (x3 : Int32) (x4 : Int32) (S : zS), K20 x1 x2 x3 x4 S = some (r, S1) → WA zLM l RX12 cX12_clashesHere 5 (some .int) 5 (some (.int r)) S1 20 [(0, .ref 0), (1, .int x1), (2, .int x2), (3, .int x3), (4, .int x4)] [] S) (x1 : Int32) (x3 : Int32) (x4 : Int32) (s0 : Int32) (s1 : Int32) (S : zS) (h : f_X12_clashesHere_B83 K9 K20 x1 x3 x4 s0 s1 S = some (r, S1)) : WA zLM l RX12 cX12_clashesHere 5 (some .int) 5 (some (.int r)) S1 83 [(0, .ref 0), (1, .int x1), (3, .int x3), (4, .int x4)] [.int s0, .int s1] S := by
  unfold f_X12_clashesHere_B83 at h
  obtain ⟨r3, T2, q1, h⟩ := zb_some h
  refine z_callSi (pc := 83) (st := [.int s1]) [.int s0] dX12_clashesHere_83 zm_X12_307 zM_X12_truth (by decide) (w_X12_truth l q1) rfl rfl (Nat.le_of_ble_eq_true rfl) ?_
  refine z_iadd (pc := 86) dX12_clashesHere_86 ?_
  obtain ⟨v4, ev4, h⟩ := zl_some h
  refine z_top ev4 ?_
  refine z_istore_n (pc := 87) (lo' := [(2, .int v4), (0, .ref 0), (1, .int x1), (3, .int x3), (4, .int x4)]) dX12_clashesHere_87 rfl (by decide) rfl ?_
  obtain ⟨v5, ev5, h⟩ := zl_some h
  refine z_iinc (pc := 88) (q := 4) (v := v5) (lo' := [(4, .int v5), (2, .int v4), (0, .ref 0), (1, .int x1), (3, .int x3)]) dX12_clashesHere_88 rfl (by rw [ev5, zci_1]) (by decide) rfl ?_
  refine z_goto (pc := 91) (tgt := 20) dX12_clashesHere_91 (by decide) ?_
  exact z_sub [2, 3, 1, 4, 0] rfl (hK20 x1 v4 x3 v5 T2 h)
set_option maxRecDepth 100000 in
theorem w_X12_clashesHere_L20 (l : Launch) {r : Int32} {S1 : zS} (K9 : Int32 → Int32 → Int32 → zS → Option (Int32 × zS)) (hK9 : ∀ (x1 : Int32) (x2 : Int32) (x3 : Int32) (S : zS), K9 x1 x2 x3 S = some (r, S1) → WA zLM l RX12 cX12_clashesHere 5 (some .int) 5 (some (.int r)) S1 9 [(0, .ref 0), (1, .int x1), (2, .int x2), (3, .int x3)] [] S) : ∀ (n : Nat) (x1 : Int32) (x2 : Int32) (x3 : Int32) (x4 : Int32) (S : zS), f_X12_clashesHere_L20 K9 n x1 x2 x3 x4 S = some (r, S1) → WA zLM l RX12 cX12_clashesHere 5 (some .int) 5 (some (.int r)) S1 20 [(0, .ref 0), (1, .int x1), (2, .int x2), (3, .int x3), (4, .int x4)] [] S := by
  intro n
  induction n with
  | zero =>
    intro x1 x2 x3 x4 S h
    exact nomatch h
  | succ n ih =>
    intro x1 x2 x3 x4 S h
    rw [f_X12_clashesHere_L20] at h
    refine z_iload (pc := 20) (q := 4) dX12_clashesHere_20 rfl ?_
    refine z_iload_n (pc := 22) (q := 3) dX12_clashesHere_22 rfl rfl ?_
    refine z_icmp_ge (pc := 23) (tgt := 94) dX12_clashesHere_23 (by decide) (fun c1 => ?_) (fun c1 => ?_)
    · have h := ze_some c1 h
      obtain ⟨v2, ev2, h⟩ := zl_some h
      refine z_iinc (pc := 94) (q := 3) (v := v2) (lo' := [(3, .int v2), (0, .ref 0), (1, .int x1), (2, .int x2), (4, .int x4)]) dX12_clashesHere_94 rfl (by rw [ev2, zci_1]) (by decide) rfl ?_
      refine z_goto (pc := 97) (tgt := 9) dX12_clashesHere_97 (by decide) ?_
      exact z_sub [1, 2, 3, 0] rfl (hK9 x1 x2 v2 S h)
    · have h := zt_some c1 h
      refine z_iload_n (pc := 26) (q := 2) dX12_clashesHere_26 rfl rfl ?_
      refine z_aload_n (pc := 27) (q := 0) dX12_clashesHere_27 rfl rfl ?_
      refine z_iload_n (pc := 28) (q := 1) dX12_clashesHere_28 rfl rfl ?_
      refine z_iload_n (pc := 29) (q := 3) dX12_clashesHere_29 rfl rfl ?_
      obtain ⟨r4, T3, q2, h⟩ := zb_some h
      refine z_callVi (pc := 30) (st := [.int x2]) [.int x1, .int x3] dX12_clashesHere_30 zm_X12_518 zM_X12_isPlain (by decide) oM_0 rfl (w_X12_isPlain l q2) rfl rfl (Nat.le_of_ble_eq_true rfl) ?_
      refine z_if_eq (pc := 33) (tgt := 82) dX12_clashesHere_33 (by decide) (fun c5 => ?_) (fun c5 => ?_)
      · have h := zt_some c5 h
        refine z_iconst (pc := 82) (v := 0) dX12_clashesHere_82 zci_0 ?_
        exact z_sub [0, 1, 3, 4] rfl (w_X12_clashesHere_B83 l K9 hK9 (f_X12_clashesHere_L20 K9 n) ih x1 x3 x4 0 x2 T3 h)
      · have h := ze_some c5 h
        refine z_aload_n (pc := 36) (q := 0) dX12_clashesHere_36 rfl rfl ?_
        refine z_iload_n (pc := 37) (q := 1) dX12_clashesHere_37 rfl rfl ?_
        refine z_iload (pc := 38) (q := 4) dX12_clashesHere_38 rfl ?_
        obtain ⟨r8, T7, q6, h⟩ := zb_some h
        refine z_callVi (pc := 40) (st := [.int x2]) [.int x1, .int x4] dX12_clashesHere_40 zm_X12_518 zM_X12_isPlain (by decide) oM_0 rfl (w_X12_isPlain l q6) rfl rfl (Nat.le_of_ble_eq_true rfl) ?_
        refine z_if_eq (pc := 43) (tgt := 82) dX12_clashesHere_43 (by decide) (fun c9 => ?_) (fun c9 => ?_)
        · have h := zt_some c9 h
          refine z_iconst (pc := 82) (v := 0) dX12_clashesHere_82 zci_0 ?_
          exact z_sub [0, 1, 3, 4] rfl (w_X12_clashesHere_B83 l K9 hK9 (f_X12_clashesHere_L20 K9 n) ih x1 x3 x4 0 x2 T7 h)
        · have h := ze_some c9 h
          refine z_aload_n (pc := 46) (q := 0) dX12_clashesHere_46 rfl rfl ?_
          refine z_iload_n (pc := 47) (q := 3) dX12_clashesHere_47 rfl rfl ?_
          refine z_iconst (pc := 48) (v := 4) dX12_clashesHere_48 zci_4 ?_
          obtain ⟨r12, T11, q10, h⟩ := zb_some h
          refine z_callVi (pc := 49) (st := [.int x2]) [.int x3, .int 4] dX12_clashesHere_49 zm_X12_426 zM_X12_of (by decide) oM_0 rfl (w_X12_of l q10) rfl rfl (Nat.le_of_ble_eq_true rfl) ?_
          refine z_aload_n (pc := 52) (q := 0) dX12_clashesHere_52 rfl rfl ?_
          refine z_iload (pc := 53) (q := 4) dX12_clashesHere_53 rfl ?_
          refine z_iconst (pc := 55) (v := 4) dX12_clashesHere_55 zci_4 ?_
          obtain ⟨r15, T14, q13, h⟩ := zb_some h
          refine z_callVi (pc := 56) (st := [.int r12, .int x2]) [.int x4, .int 4] dX12_clashesHere_56 zm_X12_426 zM_X12_of (by decide) oM_0 rfl (w_X12_of l q13) rfl rfl (Nat.le_of_ble_eq_true rfl) ?_
          refine z_icmp_ne (pc := 59) (tgt := 82) dX12_clashesHere_59 (by decide) (fun c16 => ?_) (fun c16 => ?_)
          · have h := ze_some c16 h
            refine z_iconst (pc := 82) (v := 0) dX12_clashesHere_82 zci_0 ?_
            exact z_sub [0, 1, 3, 4] rfl (w_X12_clashesHere_B83 l K9 hK9 (f_X12_clashesHere_L20 K9 n) ih x1 x3 x4 0 x2 T14 h)
          · have h := zt_some c16 h
            refine z_aload_n (pc := 62) (q := 0) dX12_clashesHere_62 rfl rfl ?_
            refine z_iload_n (pc := 63) (q := 3) dX12_clashesHere_63 rfl rfl ?_
            refine z_iconst (pc := 64) (v := 5) dX12_clashesHere_64 zci_5 ?_
            obtain ⟨r19, T18, q17, h⟩ := zb_some h
            refine z_callVi (pc := 65) (st := [.int x2]) [.int x3, .int 5] dX12_clashesHere_65 zm_X12_426 zM_X12_of (by decide) oM_0 rfl (w_X12_of l q17) rfl rfl (Nat.le_of_ble_eq_true rfl) ?_
            refine z_aload_n (pc := 68) (q := 0) dX12_clashesHere_68 rfl rfl ?_
            refine z_iload (pc := 69) (q := 4) dX12_clashesHere_69 rfl ?_
            refine z_iconst (pc := 71) (v := 5) dX12_clashesHere_71 zci_5 ?_
            obtain ⟨r22, T21, q20, h⟩ := zb_some h
            refine z_callVi (pc := 72) (st := [.int r19, .int x2]) [.int x4, .int 5] dX12_clashesHere_72 zm_X12_426 zM_X12_of (by decide) oM_0 rfl (w_X12_of l q20) rfl rfl (Nat.le_of_ble_eq_true rfl) ?_
            refine z_icmp_eq (pc := 75) (tgt := 82) dX12_clashesHere_75 (by decide) (fun c23 => ?_) (fun c23 => ?_)
            · have h := zt_some c23 h
              refine z_iconst (pc := 82) (v := 0) dX12_clashesHere_82 zci_0 ?_
              exact z_sub [0, 1, 3, 4] rfl (w_X12_clashesHere_B83 l K9 hK9 (f_X12_clashesHere_L20 K9 n) ih x1 x3 x4 0 x2 T21 h)
            · have h := ze_some c23 h
              refine z_iconst (pc := 78) (v := 1) dX12_clashesHere_78 zci_1 ?_
              refine z_goto (pc := 79) (tgt := 83) dX12_clashesHere_79 (by decide) ?_
              exact z_sub [0, 1, 3, 4] rfl (w_X12_clashesHere_B83 l K9 hK9 (f_X12_clashesHere_L20 K9 n) ih x1 x3 x4 1 x2 T21 h)
set_option maxRecDepth 100000 in
theorem w_X12_clashesHere_L9 (l : Launch) {r : Int32} {S1 : zS} : ∀ (n : Nat) (x1 : Int32) (x2 : Int32) (x3 : Int32) (S : zS), f_X12_clashesHere_L9 n x1 x2 x3 S = some (r, S1) → WA zLM l RX12 cX12_clashesHere 5 (some .int) 5 (some (.int r)) S1 9 [(0, .ref 0), (1, .int x1), (2, .int x2), (3, .int x3)] [] S := by
  intro n
  induction n with
  | zero =>
    intro x1 x2 x3 S h
    exact nomatch h
  | succ n ih =>
    intro x1 x2 x3 S h
    rw [f_X12_clashesHere_L9] at h
    refine z_iload_n (pc := 9) (q := 3) dX12_clashesHere_9 rfl rfl ?_
    refine z_aload_n (pc := 10) (q := 0) dX12_clashesHere_10 rfl rfl ?_
    obtain ⟨r3, T2, q1, h⟩ := zb_some h
    refine z_callVi (pc := 11) (st := [.int x3]) [] dX12_clashesHere_11 zm_X12_429 zM_X12_bills (by decide) oM_0 rfl (w_X12_bills l q1) rfl rfl (Nat.le_of_ble_eq_true rfl) ?_
    refine z_icmp_ge (pc := 14) (tgt := 100) dX12_clashesHere_14 (by decide) (fun c4 => ?_) (fun c4 => ?_)
    · have h := ze_some c4 h
      refine z_iload_n (pc := 100) (q := 2) dX12_clashesHere_100 rfl rfl ?_
      obtain ⟨rfl, rfl⟩ := zr_some h
      exact z_iret dX12_clashesHere_101
    · have h := zt_some c4 h
      refine z_iconst (pc := 17) (v := 0) dX12_clashesHere_17 zci_0 ?_
      refine z_istore (pc := 18) (lo' := [(4, .int 0), (0, .ref 0), (1, .int x1), (2, .int x2), (3, .int x3)]) dX12_clashesHere_18 (by decide) rfl ?_
      exact z_sub [1, 2, 3, 4, 0] rfl (w_X12_clashesHere_L20 l (f_X12_clashesHere_L9 n) ih zN x1 x2 x3 0 T2 h)
set_option maxRecDepth 100000 in
theorem w_X12_clashesHere (l : Launch)  {S : zS} {r : Int32} {S1 : zS} (h : f_X12_clashesHere S = some (r, S1)) : zMet zLM l yX12_clashesHere cX12_clashesHere 5 (some .int) 5 [.ref 0] S (some (.int r)) S1 := by
  unfold f_X12_clashesHere at h
  refine zMet.of (by decide +kernel) (Nat.le_of_ble_eq_true rfl) ?_
  show WA zLM l RX12 cX12_clashesHere 5 (some .int) 5 (some (.int r)) S1 0 [(0, .ref 0)] [] S
  refine z_aload_n (pc := 0) (q := 0) dX12_clashesHere_0 rfl rfl ?_
  obtain ⟨r3, T2, q1, h⟩ := zb_some h
  refine z_callVi (pc := 1) (st := []) [] dX12_clashesHere_1 zm_X12_441 zM_X12_standing (by decide) oM_0 rfl (w_X12_standing l q1) rfl rfl (Nat.le_of_ble_eq_true rfl) ?_
  refine z_istore_n (pc := 4) (lo' := [(1, .int r3), (0, .ref 0)]) dX12_clashesHere_4 rfl (by decide) rfl ?_
  refine z_iconst (pc := 5) (v := 0) dX12_clashesHere_5 zci_0 ?_
  refine z_istore_n (pc := 6) (lo' := [(2, .int 0), (1, .int r3), (0, .ref 0)]) dX12_clashesHere_6 rfl (by decide) rfl ?_
  refine z_iconst (pc := 7) (v := 0) dX12_clashesHere_7 zci_0 ?_
  refine z_istore_n (pc := 8) (lo' := [(3, .int 0), (2, .int 0), (1, .int r3), (0, .ref 0)]) dX12_clashesHere_8 rfl (by decide) rfl ?_
  exact z_sub [3, 2, 1, 0] rfl (w_X12_clashesHere_L9 l zN r3 0 0 T2 h)
def f_X12_clashes  (S : zS) : Option (Int32 × zS) :=
  zu (f_X12_load S) fun T2 =>
  zb (f_X12_clashesHere T2) fun r5 T4 =>
  some (r5, T4)
set_option maxRecDepth 100000 in
theorem w_X12_clashes (l : Launch)  {S : zS} {r : Int32} {S1 : zS} (h : f_X12_clashes S = some (r, S1)) : zMet zLM l yX12_clashes cX12_clashes 1 (some .int) 6 [.ref 0] S (some (.int r)) S1 := by
  unfold f_X12_clashes at h
  refine zMet.of (by decide +kernel) (Nat.le_of_ble_eq_true rfl) ?_
  show WA zLM l RX12 cX12_clashes 1 (some .int) 6 (some (.int r)) S1 0 [(0, .ref 0)] [] S
  refine z_aload_n (pc := 0) (q := 0) dX12_clashes_0 rfl rfl ?_
  obtain ⟨T2, q1, h⟩ := zu_some h
  refine z_callVv (pc := 1) (st := []) [] dX12_clashes_1 zm_X12_462 zM_X12_load (by decide) oM_0 rfl (w_X12_load l q1) rfl rfl (Nat.le_of_ble_eq_true rfl) ?_
  refine z_aload_n (pc := 4) (q := 0) dX12_clashes_4 rfl rfl ?_
  obtain ⟨r5, T4, q3, h⟩ := zb_some h
  refine z_callVi (pc := 5) (st := []) [] dX12_clashes_5 zm_X12_521 zM_X12_clashesHere (by decide) oM_0 rfl (w_X12_clashesHere l q3) rfl rfl (Nat.le_of_ble_eq_true rfl) ?_
  obtain ⟨rfl, rfl⟩ := zr_some h
  exact z_iret dX12_clashes_8
def f_X12_weed_L53 (K15 : Int32 → Int32 → Int32 → zS → Option (Int32 × zS)) : Nat → Int32 → Int32 → Int32 → Int32 → zS → Option (Int32 × zS)
  | 0, _, _, _, _, _ => none
  | n + 1, x1, x2, x3, x4, S =>
    zb (f_X12_bills S) fun r3 T2 =>
    if x4 < r3 then
      if ((x3 >>> (x4 &&& 31)) &&& 1) = 1 then
        zu (f_X12_kill x4 T2) fun T7 =>
        zlet (x4 + 1) fun v8 =>
        (f_X12_weed_L53 K15 n) x1 x2 x3 v8 T7
      else
        zlet (x4 + 1) fun v6 =>
        (f_X12_weed_L53 K15 n) x1 x2 x3 v6 T2
    else
      zb (f_X12_clashesHere T2) fun r7 T6 =>
      if r7 = 0 then
        zlet (x3 + 1) fun v9 =>
        K15 x1 x3 v9 T6
      else
        zlet (x3 + 1) fun v9 =>
        K15 x1 x2 v9 T6
def f_X12_weed_B46 (K15 : Int32 → Int32 → Int32 → zS → Option (Int32 × zS)) (x1 : Int32) (x2 : Int32) (x3 : Int32) (S : zS) : Option (Int32 × zS) :=
  zu (f_X12_load S) fun T2 =>
  f_X12_weed_L53 K15 zN x1 x2 x3 0 T2
def f_X12_weed_L15 : Nat → Int32 → Int32 → Int32 → zS → Option (Int32 × zS)
  | 0, _, _, _, _ => none
  | n + 1, x1, x2, x3, S =>
    if x3 < (1 <<< ((S.1 19 (Int32.toNatClampNeg 96)) &&& 31)) then
      if x2 < 0 then
        f_X12_weed_B46 (f_X12_weed_L15 n) x1 x2 x3 S
      else
        zb (f_X12_members x3 S) fun r5 T4 =>
        zb (f_X12_members x2 T4) fun r8 T7 =>
        if r5 < r8 then
          f_X12_weed_B46 (f_X12_weed_L15 n) x1 x2 x3 T7
        else
          zlet (x3 + 1) fun v10 =>
          (f_X12_weed_L15 n) x1 x2 v10 T7
    else
      if x1 = 0 then
        zb (f_X12_members x2 S) fun r5 T4 =>
        some (r5, T4)
      else
        some (x2, S)
def f_X12_weed (x1 : Int32) (S : zS) : Option (Int32 × zS) :=
  zb (f_X12_isIn x1 0 1 S) fun r3 T2 =>
  if r3 = 0 then
    some ((-1), T2)
  else
    f_X12_weed_L15 zN x1 (-1) 0 T2
set_option maxRecDepth 100000 in
theorem w_X12_weed_L53 (l : Launch) {r : Int32} {S1 : zS} (K15 : Int32 → Int32 → Int32 → zS → Option (Int32 × zS)) (hK15 : ∀ (x1 : Int32) (x2 : Int32) (x3 : Int32) (S : zS), K15 x1 x2 x3 S = some (r, S1) → WA zLM l RX12 cX12_weed 5 (some .int) 6 (some (.int r)) S1 15 [(0, .ref 0), (1, .int x1), (2, .int x2), (3, .int x3)] [] S) : ∀ (n : Nat) (x1 : Int32) (x2 : Int32) (x3 : Int32) (x4 : Int32) (S : zS), f_X12_weed_L53 K15 n x1 x2 x3 x4 S = some (r, S1) → WA zLM l RX12 cX12_weed 5 (some .int) 6 (some (.int r)) S1 53 [(0, .ref 0), (1, .int x1), (2, .int x2), (3, .int x3), (4, .int x4)] [] S := by
  intro n
  induction n with
  | zero =>
    intro x1 x2 x3 x4 S h
    exact nomatch h
  | succ n ih =>
    intro x1 x2 x3 x4 S h
    rw [f_X12_weed_L53] at h
    refine z_iload (pc := 53) (q := 4) dX12_weed_53 rfl ?_
    refine z_aload_n (pc := 55) (q := 0) dX12_weed_55 rfl rfl ?_
    obtain ⟨r3, T2, q1, h⟩ := zb_some h
    refine z_callVi (pc := 56) (st := [.int x4]) [] dX12_weed_56 zm_X12_429 zM_X12_bills (by decide) oM_0 rfl (w_X12_bills l q1) rfl rfl (Nat.le_of_ble_eq_true rfl) ?_
    refine z_icmp_ge (pc := 59) (tgt := 84) dX12_weed_59 (by decide) (fun c4 => ?_) (fun c4 => ?_)
    · have h := ze_some c4 h
      refine z_aload_n (pc := 84) (q := 0) dX12_weed_84 rfl rfl ?_
      obtain ⟨r7, T6, q5, h⟩ := zb_some h
      refine z_callVi (pc := 85) (st := []) [] dX12_weed_85 zm_X12_521 zM_X12_clashesHere (by decide) oM_0 rfl (w_X12_clashesHere l q5) rfl rfl (Nat.le_of_ble_eq_true rfl) ?_
      refine z_if_ne (pc := 88) (tgt := 93) dX12_weed_88 (by decide) (fun c8 => ?_) (fun c8 => ?_)
      · have h := ze_some c8 h
        obtain ⟨v9, ev9, h⟩ := zl_some h
        refine z_iinc (pc := 93) (q := 3) (v := v9) (lo' := [(3, .int v9), (0, .ref 0), (1, .int x1), (2, .int x2), (4, .int x4)]) dX12_weed_93 rfl (by rw [ev9, zci_1]) (by decide) rfl ?_
        refine z_goto (pc := 96) (tgt := 15) dX12_weed_96 (by decide) ?_
        exact z_sub [1, 2, 3, 0] rfl (hK15 x1 x2 v9 T6 h)
      · have h := zt_some c8 h
        refine z_iload_n (pc := 91) (q := 3) dX12_weed_91 rfl rfl ?_
        refine z_istore_n (pc := 92) (lo' := [(2, .int x3), (0, .ref 0), (1, .int x1), (3, .int x3), (4, .int x4)]) dX12_weed_92 rfl (by decide) rfl ?_
        obtain ⟨v9, ev9, h⟩ := zl_some h
        refine z_iinc (pc := 93) (q := 3) (v := v9) (lo' := [(3, .int v9), (2, .int x3), (0, .ref 0), (1, .int x1), (4, .int x4)]) dX12_weed_93 rfl (by rw [ev9, zci_1]) (by decide) rfl ?_
        refine z_goto (pc := 96) (tgt := 15) dX12_weed_96 (by decide) ?_
        exact z_sub [2, 3, 1, 0] rfl (hK15 x1 x3 v9 T6 h)
    · have h := zt_some c4 h
      refine z_iload_n (pc := 62) (q := 3) dX12_weed_62 rfl rfl ?_
      refine z_iload (pc := 63) (q := 4) dX12_weed_63 rfl ?_
      refine z_ishr (pc := 65) dX12_weed_65 ?_
      refine z_iconst (pc := 66) (v := 1) dX12_weed_66 zci_1 ?_
      refine z_iand (pc := 67) dX12_weed_67 ?_
      refine z_iconst (pc := 68) (v := 1) dX12_weed_68 zci_1 ?_
      refine z_icmp_ne (pc := 69) (tgt := 78) dX12_weed_69 (by decide) (fun c5 => ?_) (fun c5 => ?_)
      · have h := ze_some c5 h
        obtain ⟨v6, ev6, h⟩ := zl_some h
        refine z_iinc (pc := 78) (q := 4) (v := v6) (lo' := [(4, .int v6), (0, .ref 0), (1, .int x1), (2, .int x2), (3, .int x3)]) dX12_weed_78 rfl (by rw [ev6, zci_1]) (by decide) rfl ?_
        refine z_goto (pc := 81) (tgt := 53) dX12_weed_81 (by decide) ?_
        exact z_sub [1, 2, 3, 4, 0] rfl (ih x1 x2 x3 v6 T2 h)
      · have h := zt_some c5 h
        refine z_aload_n (pc := 72) (q := 0) dX12_weed_72 rfl rfl ?_
        refine z_iload (pc := 73) (q := 4) dX12_weed_73 rfl ?_
        obtain ⟨T7, q6, h⟩ := zu_some h
        refine z_callVv (pc := 75) (st := []) [.int x4] dX12_weed_75 zm_X12_480 zM_X12_kill (by decide) oM_0 rfl (w_X12_kill l q6) rfl rfl (Nat.le_of_ble_eq_true rfl) ?_
        obtain ⟨v8, ev8, h⟩ := zl_some h
        refine z_iinc (pc := 78) (q := 4) (v := v8) (lo' := [(4, .int v8), (0, .ref 0), (1, .int x1), (2, .int x2), (3, .int x3)]) dX12_weed_78 rfl (by rw [ev8, zci_1]) (by decide) rfl ?_
        refine z_goto (pc := 81) (tgt := 53) dX12_weed_81 (by decide) ?_
        exact z_sub [1, 2, 3, 4, 0] rfl (ih x1 x2 x3 v8 T7 h)
set_option maxRecDepth 100000 in
theorem w_X12_weed_B46 (l : Launch) {r : Int32} {S1 : zS} (K15 : Int32 → Int32 → Int32 → zS → Option (Int32 × zS)) (hK15 : ∀ (x1 : Int32) (x2 : Int32) (x3 : Int32) (S : zS), K15 x1 x2 x3 S = some (r, S1) → WA zLM l RX12 cX12_weed 5 (some .int) 6 (some (.int r)) S1 15 [(0, .ref 0), (1, .int x1), (2, .int x2), (3, .int x3)] [] S) (x1 : Int32) (x2 : Int32) (x3 : Int32) (S : zS) (h : f_X12_weed_B46 K15 x1 x2 x3 S = some (r, S1)) : WA zLM l RX12 cX12_weed 5 (some .int) 6 (some (.int r)) S1 46 [(0, .ref 0), (1, .int x1), (2, .int x2), (3, .int x3)] [] S := by
  unfold f_X12_weed_B46 at h
  refine z_aload_n (pc := 46) (q := 0) dX12_weed_46 rfl rfl ?_
  obtain ⟨T2, q1, h⟩ := zu_some h
  refine z_callVv (pc := 47) (st := []) [] dX12_weed_47 zm_X12_462 zM_X12_load (by decide) oM_0 rfl (w_X12_load l q1) rfl rfl (Nat.le_of_ble_eq_true rfl) ?_
  refine z_iconst (pc := 50) (v := 0) dX12_weed_50 zci_0 ?_
  refine z_istore (pc := 51) (lo' := [(4, .int 0), (0, .ref 0), (1, .int x1), (2, .int x2), (3, .int x3)]) dX12_weed_51 (by decide) rfl ?_
  exact z_sub [1, 2, 3, 4, 0] rfl (w_X12_weed_L53 l K15 hK15 zN x1 x2 x3 0 T2 h)
set_option maxRecDepth 100000 in
theorem w_X12_weed_L15 (l : Launch) {r : Int32} {S1 : zS} : ∀ (n : Nat) (x1 : Int32) (x2 : Int32) (x3 : Int32) (S : zS), f_X12_weed_L15 n x1 x2 x3 S = some (r, S1) → WA zLM l RX12 cX12_weed 5 (some .int) 6 (some (.int r)) S1 15 [(0, .ref 0), (1, .int x1), (2, .int x2), (3, .int x3)] [] S := by
  intro n
  induction n with
  | zero =>
    intro x1 x2 x3 S h
    exact nomatch h
  | succ n ih =>
    intro x1 x2 x3 S h
    rw [f_X12_weed_L15] at h
    refine z_iload_n (pc := 15) (q := 3) dX12_weed_15 rfl rfl ?_
    refine z_iconst (pc := 16) (v := 1) dX12_weed_16 zci_1 ?_
    refine z_aload_n (pc := 17) (q := 0) dX12_weed_17 rfl rfl ?_
    refine z_getR (pc := 18) dX12_weed_18 zf_X12_76 gM_0_53 ?_
    refine z_bipush (pc := 21) (v := 96) dX12_weed_21 zcb_96 ?_
    refine z_iald (pc := 23) dX12_weed_23 aM_19 (by decide) ?_
    refine z_ishl (pc := 24) dX12_weed_24 ?_
    refine z_icmp_ge (pc := 25) (tgt := 99) dX12_weed_25 (by decide) (fun c1 => ?_) (fun c1 => ?_)
    · have h := ze_some c1 h
      refine z_iload_n (pc := 99) (q := 1) dX12_weed_99 rfl rfl ?_
      refine z_if_ne (pc := 100) (tgt := 110) dX12_weed_100 (by decide) (fun c2 => ?_) (fun c2 => ?_)
      · have h := ze_some c2 h
        refine z_iload_n (pc := 110) (q := 2) dX12_weed_110 rfl rfl ?_
        obtain ⟨rfl, rfl⟩ := zr_some h
        exact z_iret dX12_weed_111
      · have h := zt_some c2 h
        refine z_iload_n (pc := 103) (q := 2) dX12_weed_103 rfl rfl ?_
        obtain ⟨r5, T4, q3, h⟩ := zb_some h
        refine z_callSi (pc := 104) (st := []) [.int x2] dX12_weed_104 zm_X12_456 zM_X12_members (by decide) (w_X12_members l q3) rfl rfl (Nat.le_of_ble_eq_true rfl) ?_
        refine z_goto (pc := 107) (tgt := 111) dX12_weed_107 (by decide) ?_
        obtain ⟨rfl, rfl⟩ := zr_some h
        exact z_iret dX12_weed_111
    · have h := zt_some c1 h
      refine z_iload_n (pc := 28) (q := 2) dX12_weed_28 rfl rfl ?_
      refine z_if_lt (pc := 29) (tgt := 46) dX12_weed_29 (by decide) (fun c2 => ?_) (fun c2 => ?_)
      · have h := zt_some c2 h
        exact w_X12_weed_B46 l (f_X12_weed_L15 n) ih x1 x2 x3 S h
      · have h := ze_some c2 h
        refine z_iload_n (pc := 32) (q := 3) dX12_weed_32 rfl rfl ?_
        obtain ⟨r5, T4, q3, h⟩ := zb_some h
        refine z_callSi (pc := 33) (st := []) [.int x3] dX12_weed_33 zm_X12_456 zM_X12_members (by decide) (w_X12_members l q3) rfl rfl (Nat.le_of_ble_eq_true rfl) ?_
        refine z_iload_n (pc := 36) (q := 2) dX12_weed_36 rfl rfl ?_
        obtain ⟨r8, T7, q6, h⟩ := zb_some h
        refine z_callSi (pc := 37) (st := [.int r5]) [.int x2] dX12_weed_37 zm_X12_456 zM_X12_members (by decide) (w_X12_members l q6) rfl rfl (Nat.le_of_ble_eq_true rfl) ?_
        refine z_icmp_lt (pc := 40) (tgt := 46) dX12_weed_40 (by decide) (fun c9 => ?_) (fun c9 => ?_)
        · have h := zt_some c9 h
          exact w_X12_weed_B46 l (f_X12_weed_L15 n) ih x1 x2 x3 T7 h
        · have h := ze_some c9 h
          refine z_goto (pc := 43) (tgt := 93) dX12_weed_43 (by decide) ?_
          obtain ⟨v10, ev10, h⟩ := zl_some h
          refine z_iinc (pc := 93) (q := 3) (v := v10) (lo' := [(3, .int v10), (0, .ref 0), (1, .int x1), (2, .int x2)]) dX12_weed_93 rfl (by rw [ev10, zci_1]) (by decide) rfl ?_
          refine z_goto (pc := 96) (tgt := 15) dX12_weed_96 (by decide) ?_
          exact z_sub [1, 2, 3, 0] rfl (ih x1 x2 v10 T7 h)
set_option maxRecDepth 100000 in
theorem w_X12_weed (l : Launch) {x1 : Int32} {S : zS} {r : Int32} {S1 : zS} (h : f_X12_weed x1 S = some (r, S1)) : zMet zLM l yX12_weed cX12_weed 5 (some .int) 6 [.ref 0, .int x1] S (some (.int r)) S1 := by
  unfold f_X12_weed at h
  refine zMet.of (by decide +kernel) (Nat.le_of_ble_eq_true rfl) ?_
  show WA zLM l RX12 cX12_weed 5 (some .int) 6 (some (.int r)) S1 0 [(0, .ref 0), (1, .int x1)] [] S
  refine z_iload_n (pc := 0) (q := 1) dX12_weed_0 rfl rfl ?_
  refine z_iconst (pc := 1) (v := 0) dX12_weed_1 zci_0 ?_
  refine z_iconst (pc := 2) (v := 1) dX12_weed_2 zci_1 ?_
  obtain ⟨r3, T2, q1, h⟩ := zb_some h
  refine z_callSi (pc := 3) (st := []) [.int x1, .int 0, .int 1] dX12_weed_3 zm_X12_422 zM_X12_isIn (by decide) (w_X12_isIn l q1) rfl rfl (Nat.le_of_ble_eq_true rfl) ?_
  refine z_if_ne (pc := 6) (tgt := 11) dX12_weed_6 (by decide) (fun c4 => ?_) (fun c4 => ?_)
  · have h := ze_some c4 h
    refine z_iconst (pc := 11) (v := (-1)) dX12_weed_11 zci_m1 ?_
    refine z_istore_n (pc := 12) (lo' := [(2, .int (-1)), (0, .ref 0), (1, .int x1)]) dX12_weed_12 rfl (by decide) rfl ?_
    refine z_iconst (pc := 13) (v := 0) dX12_weed_13 zci_0 ?_
    refine z_istore_n (pc := 14) (lo' := [(3, .int 0), (2, .int (-1)), (0, .ref 0), (1, .int x1)]) dX12_weed_14 rfl (by decide) rfl ?_
    exact z_sub [2, 3, 1, 0] rfl (w_X12_weed_L15 l zN x1 (-1) 0 T2 h)
  · have h := zt_some c4 h
    refine z_iconst (pc := 9) (v := (-1)) dX12_weed_9 zci_m1 ?_
    obtain ⟨rfl, rfl⟩ := zr_some h
    exact z_iret dX12_weed_10
def f_X12_places_B87 (K47 : Int32 → Int32 → Int32 → Int32 → Int32 → zS → Option (Int32 × zS)) (x1 : Int32) (x2 : Int32) (x3 : Int32) (x5 : Int32) (s0 : Int32) (s1 : Int32) (S : zS) : Option (Int32 × zS) :=
  zb (f_X12_truth s0 S) fun r3 T2 =>
  zlet (s1 ||| (r3 <<< (x5 &&& 31))) fun v4 =>
  zlet (x5 + 1) fun v5 =>
  K47 x1 x2 x3 v4 v5 T2
def f_X12_places_L47 : Nat → Int32 → Int32 → Int32 → Int32 → Int32 → zS → Option (Int32 × zS)
  | 0, _, _, _, _, _, _ => none
  | n + 1, x1, x2, x3, x4, x5, S =>
    if x5 < (S.1 0 42) then
      zu (f_X12_load S) fun T3 =>
      zu (f_X12_put x5 x1 x2 x3 (-1) (-1) T3) fun T5 =>
      zb (f_X12_lawOf x2 T5) fun r8 T7 =>
      if r8 = x3 then
        f_X12_places_B87 (f_X12_places_L47 n) x1 x2 x3 x5 1 x4 T7
      else
        f_X12_places_B87 (f_X12_places_L47 n) x1 x2 x3 x5 0 x4 T7
    else
      some (x4, S)
def f_X12_places (x1 : Int32) (x2 : Int32) (x3 : Int32) (S : zS) : Option (Int32 × zS) :=
  zb (f_X12_isPlant x1 S) fun r3 T2 =>
  if r3 = 0 then
    some ((-1), T2)
  else
    zb (f_X12_isTopic x2 T2) fun r7 T6 =>
    if r7 = 0 then
      some ((-1), T6)
    else
      zb (f_X12_isIn x3 (-9) 9 T6) fun r11 T10 =>
      if r11 = 0 then
        some ((-1), T10)
      else
        if (T10.1 19 (Int32.toNatClampNeg 96)) = 12 then
          some ((-1), T10)
        else
          f_X12_places_L47 zN x1 x2 x3 0 0 T10
set_option maxRecDepth 100000 in
theorem w_X12_places_B87 (l : Launch) {r : Int32} {S1 : zS} (K47 : Int32 → Int32 → Int32 → Int32 → Int32 → zS → Option (Int32 × zS)) (hK47 : ∀ (x1 : Int32) (x2 : Int32) (x3 : Int32) (x4 : Int32) (x5 : Int32) (S : zS), K47 x1 x2 x3 x4 x5 S = some (r, S1) → WA zLM l RX12 cX12_places 6 (some .int) 6 (some (.int r)) S1 47 [(0, .ref 0), (1, .int x1), (2, .int x2), (3, .int x3), (4, .int x4), (5, .int x5)] [] S) (x1 : Int32) (x2 : Int32) (x3 : Int32) (x5 : Int32) (s0 : Int32) (s1 : Int32) (S : zS) (h : f_X12_places_B87 K47 x1 x2 x3 x5 s0 s1 S = some (r, S1)) : WA zLM l RX12 cX12_places 6 (some .int) 6 (some (.int r)) S1 87 [(0, .ref 0), (1, .int x1), (2, .int x2), (3, .int x3), (5, .int x5)] [.int s0, .int s1] S := by
  unfold f_X12_places_B87 at h
  obtain ⟨r3, T2, q1, h⟩ := zb_some h
  refine z_callSi (pc := 87) (st := [.int s1]) [.int s0] dX12_places_87 zm_X12_307 zM_X12_truth (by decide) (w_X12_truth l q1) rfl rfl (Nat.le_of_ble_eq_true rfl) ?_
  refine z_iload (pc := 90) (q := 4) dX12_places_90 rfl ?_
  refine z_ishl (pc := 92) dX12_places_92 ?_
  refine z_ior (pc := 93) dX12_places_93 ?_
  obtain ⟨v4, ev4, h⟩ := zl_some h
  refine z_top ev4 ?_
  refine z_istore (pc := 94) (lo' := [(4, .int v4), (0, .ref 0), (1, .int x1), (2, .int x2), (3, .int x3), (5, .int x5)]) dX12_places_94 (by decide) rfl ?_
  obtain ⟨v5, ev5, h⟩ := zl_some h
  refine z_iinc (pc := 96) (q := 5) (v := v5) (lo' := [(5, .int v5), (4, .int v4), (0, .ref 0), (1, .int x1), (2, .int x2), (3, .int x3)]) dX12_places_96 rfl (by rw [ev5, zci_1]) (by decide) rfl ?_
  refine z_goto (pc := 99) (tgt := 47) dX12_places_99 (by decide) ?_
  exact z_sub [2, 3, 4, 5, 1, 0] rfl (hK47 x1 x2 x3 v4 v5 T2 h)
set_option maxRecDepth 100000 in
theorem w_X12_places_L47 (l : Launch) {r : Int32} {S1 : zS} : ∀ (n : Nat) (x1 : Int32) (x2 : Int32) (x3 : Int32) (x4 : Int32) (x5 : Int32) (S : zS), f_X12_places_L47 n x1 x2 x3 x4 x5 S = some (r, S1) → WA zLM l RX12 cX12_places 6 (some .int) 6 (some (.int r)) S1 47 [(0, .ref 0), (1, .int x1), (2, .int x2), (3, .int x3), (4, .int x4), (5, .int x5)] [] S := by
  intro n
  induction n with
  | zero =>
    intro x1 x2 x3 x4 x5 S h
    exact nomatch h
  | succ n ih =>
    intro x1 x2 x3 x4 x5 S h
    rw [f_X12_places_L47] at h
    refine z_iload (pc := 47) (q := 5) dX12_places_47 rfl ?_
    refine z_aload_n (pc := 49) (q := 0) dX12_places_49 rfl rfl ?_
    refine z_getI (pc := 50) dX12_places_50 zf_X12_70 gM_0_42 ?_
    refine z_icmp_ge (pc := 53) (tgt := 102) dX12_places_53 (by decide) (fun c1 => ?_) (fun c1 => ?_)
    · have h := ze_some c1 h
      refine z_iload (pc := 102) (q := 4) dX12_places_102 rfl ?_
      obtain ⟨rfl, rfl⟩ := zr_some h
      exact z_iret dX12_places_104
    · have h := zt_some c1 h
      refine z_aload_n (pc := 56) (q := 0) dX12_places_56 rfl rfl ?_
      obtain ⟨T3, q2, h⟩ := zu_some h
      refine z_callVv (pc := 57) (st := []) [] dX12_places_57 zm_X12_462 zM_X12_load (by decide) oM_0 rfl (w_X12_load l q2) rfl rfl (Nat.le_of_ble_eq_true rfl) ?_
      refine z_aload_n (pc := 60) (q := 0) dX12_places_60 rfl rfl ?_
      refine z_iload (pc := 61) (q := 5) dX12_places_61 rfl ?_
      refine z_iload_n (pc := 63) (q := 1) dX12_places_63 rfl rfl ?_
      refine z_iload_n (pc := 64) (q := 2) dX12_places_64 rfl rfl ?_
      refine z_iload_n (pc := 65) (q := 3) dX12_places_65 rfl rfl ?_
      refine z_iconst (pc := 66) (v := (-1)) dX12_places_66 zci_m1 ?_
      refine z_iconst (pc := 67) (v := (-1)) dX12_places_67 zci_m1 ?_
      obtain ⟨T5, q4, h⟩ := zu_some h
      refine z_callVv (pc := 68) (st := []) [.int x5, .int x1, .int x2, .int x3, .int (-1), .int (-1)] dX12_places_68 zm_X12_493 zM_X12_put (by decide) oM_0 rfl (w_X12_put l q4) rfl rfl (Nat.le_of_ble_eq_true rfl) ?_
      refine z_iload (pc := 71) (q := 4) dX12_places_71 rfl ?_
      refine z_aload_n (pc := 73) (q := 0) dX12_places_73 rfl rfl ?_
      refine z_iload_n (pc := 74) (q := 2) dX12_places_74 rfl rfl ?_
      obtain ⟨r8, T7, q6, h⟩ := zb_some h
      refine z_callVi (pc := 75) (st := [.int x4]) [.int x2] dX12_places_75 zm_X12_474 zM_X12_lawOf (by decide) oM_0 rfl (w_X12_lawOf l q6) rfl rfl (Nat.le_of_ble_eq_true rfl) ?_
      refine z_iload_n (pc := 78) (q := 3) dX12_places_78 rfl rfl ?_
      refine z_icmp_ne (pc := 79) (tgt := 86) dX12_places_79 (by decide) (fun c9 => ?_) (fun c9 => ?_)
      · have h := ze_some c9 h
        refine z_iconst (pc := 86) (v := 0) dX12_places_86 zci_0 ?_
        exact z_sub [0, 1, 2, 3, 5] rfl (w_X12_places_B87 l (f_X12_places_L47 n) ih x1 x2 x3 x5 0 x4 T7 h)
      · have h := zt_some c9 h
        refine z_iconst (pc := 82) (v := 1) dX12_places_82 zci_1 ?_
        refine z_goto (pc := 83) (tgt := 87) dX12_places_83 (by decide) ?_
        exact z_sub [0, 1, 2, 3, 5] rfl (w_X12_places_B87 l (f_X12_places_L47 n) ih x1 x2 x3 x5 1 x4 T7 h)
set_option maxRecDepth 100000 in
theorem w_X12_places (l : Launch) {x1 : Int32} {x2 : Int32} {x3 : Int32} {S : zS} {r : Int32} {S1 : zS} (h : f_X12_places x1 x2 x3 S = some (r, S1)) : zMet zLM l yX12_places cX12_places 6 (some .int) 6 [.ref 0, .int x1, .int x2, .int x3] S (some (.int r)) S1 := by
  unfold f_X12_places at h
  refine zMet.of (by decide +kernel) (Nat.le_of_ble_eq_true rfl) ?_
  show WA zLM l RX12 cX12_places 6 (some .int) 6 (some (.int r)) S1 0 [(0, .ref 0), (1, .int x1), (2, .int x2), (3, .int x3)] [] S
  refine z_aload_n (pc := 0) (q := 0) dX12_places_0 rfl rfl ?_
  refine z_iload_n (pc := 1) (q := 1) dX12_places_1 rfl rfl ?_
  obtain ⟨r3, T2, q1, h⟩ := zb_some h
  refine z_callVi (pc := 2) (st := []) [.int x1] dX12_places_2 zm_X12_483 zM_X12_isPlant (by decide) oM_0 rfl (w_X12_isPlant l q1) rfl rfl (Nat.le_of_ble_eq_true rfl) ?_
  refine z_if_eq (pc := 5) (tgt := 39) dX12_places_5 (by decide) (fun c4 => ?_) (fun c4 => ?_)
  · have h := zt_some c4 h
    refine z_iconst (pc := 39) (v := (-1)) dX12_places_39 zci_m1 ?_
    obtain ⟨rfl, rfl⟩ := zr_some h
    exact z_iret dX12_places_40
  · have h := ze_some c4 h
    refine z_aload_n (pc := 8) (q := 0) dX12_places_8 rfl rfl ?_
    refine z_iload_n (pc := 9) (q := 2) dX12_places_9 rfl rfl ?_
    obtain ⟨r7, T6, q5, h⟩ := zb_some h
    refine z_callVi (pc := 10) (st := []) [.int x2] dX12_places_10 zm_X12_471 zM_X12_isTopic (by decide) oM_0 rfl (w_X12_isTopic l q5) rfl rfl (Nat.le_of_ble_eq_true rfl) ?_
    refine z_if_eq (pc := 13) (tgt := 39) dX12_places_13 (by decide) (fun c8 => ?_) (fun c8 => ?_)
    · have h := zt_some c8 h
      refine z_iconst (pc := 39) (v := (-1)) dX12_places_39 zci_m1 ?_
      obtain ⟨rfl, rfl⟩ := zr_some h
      exact z_iret dX12_places_40
    · have h := ze_some c8 h
      refine z_iload_n (pc := 16) (q := 3) dX12_places_16 rfl rfl ?_
      refine z_bipush (pc := 17) (v := (-9)) dX12_places_17 zcb_m9 ?_
      refine z_bipush (pc := 19) (v := 9) dX12_places_19 zcb_9 ?_
      obtain ⟨r11, T10, q9, h⟩ := zb_some h
      refine z_callSi (pc := 21) (st := []) [.int x3, .int (-9), .int 9] dX12_places_21 zm_X12_422 zM_X12_isIn (by decide) (w_X12_isIn l q9) rfl rfl (Nat.le_of_ble_eq_true rfl) ?_
      refine z_if_eq (pc := 24) (tgt := 39) dX12_places_24 (by decide) (fun c12 => ?_) (fun c12 => ?_)
      · have h := zt_some c12 h
        refine z_iconst (pc := 39) (v := (-1)) dX12_places_39 zci_m1 ?_
        obtain ⟨rfl, rfl⟩ := zr_some h
        exact z_iret dX12_places_40
      · have h := ze_some c12 h
        refine z_aload_n (pc := 27) (q := 0) dX12_places_27 rfl rfl ?_
        refine z_getR (pc := 28) dX12_places_28 zf_X12_76 gM_0_53 ?_
        refine z_bipush (pc := 31) (v := 96) dX12_places_31 zcb_96 ?_
        refine z_iald (pc := 33) dX12_places_33 aM_19 (by decide) ?_
        refine z_bipush (pc := 34) (v := 12) dX12_places_34 zcb_12 ?_
        refine z_icmp_ne (pc := 36) (tgt := 41) dX12_places_36 (by decide) (fun c13 => ?_) (fun c13 => ?_)
        · have h := ze_some c13 h
          refine z_iconst (pc := 41) (v := 0) dX12_places_41 zci_0 ?_
          refine z_istore (pc := 42) (lo' := [(4, .int 0), (0, .ref 0), (1, .int x1), (2, .int x2), (3, .int x3)]) dX12_places_42 (by decide) rfl ?_
          refine z_iconst (pc := 44) (v := 0) dX12_places_44 zci_0 ?_
          refine z_istore (pc := 45) (lo' := [(5, .int 0), (4, .int 0), (0, .ref 0), (1, .int x1), (2, .int x2), (3, .int x3)]) dX12_places_45 (by decide) rfl ?_
          exact z_sub [2, 3, 4, 5, 1, 0] rfl (w_X12_places_L47 l zN x1 x2 x3 0 0 T10 h)
        · have h := zt_some c13 h
          refine z_iconst (pc := 39) (v := (-1)) dX12_places_39 zci_m1 ?_
          obtain ⟨rfl, rfl⟩ := zr_some h
          exact z_iret dX12_places_40
def f_X12_gapSet_B31 (K4 : Int32 → Int32 → zS → Option (Int32 × zS)) (x2 : Int32) (s0 : Int32) (s1 : Int32) (S : zS) : Option (Int32 × zS) :=
  zb (f_X12_truth s0 S) fun r3 T2 =>
  zlet (s1 ||| (r3 <<< (x2 &&& 31))) fun v4 =>
  zlet (x2 + 1) fun v5 =>
  K4 v4 v5 T2
def f_X12_gapSet_L4 : Nat → Int32 → Int32 → zS → Option (Int32 × zS)
  | 0, _, _, _ => none
  | n + 1, x1, x2, S =>
    if x2 < (S.1 0 42) then
      zb (f_X12_billsAt x2 S) fun r4 T3 =>
      zb (f_X12_livingSet T3) fun r7 T6 =>
      if (r4 &&& r7) = 0 then
        f_X12_gapSet_B31 (f_X12_gapSet_L4 n) x2 1 x1 T6
      else
        f_X12_gapSet_B31 (f_X12_gapSet_L4 n) x2 0 x1 T6
    else
      some (x1, S)
def f_X12_gapSet  (S : zS) : Option (Int32 × zS) :=
  f_X12_gapSet_L4 zN 0 0 S
set_option maxRecDepth 100000 in
theorem w_X12_gapSet_B31 (l : Launch) {r : Int32} {S1 : zS} (K4 : Int32 → Int32 → zS → Option (Int32 × zS)) (hK4 : ∀ (x1 : Int32) (x2 : Int32) (S : zS), K4 x1 x2 S = some (r, S1) → WA zLM l RX12 cX12_gapSet 3 (some .int) 4 (some (.int r)) S1 4 [(0, .ref 0), (1, .int x1), (2, .int x2)] [] S) (x2 : Int32) (s0 : Int32) (s1 : Int32) (S : zS) (h : f_X12_gapSet_B31 K4 x2 s0 s1 S = some (r, S1)) : WA zLM l RX12 cX12_gapSet 3 (some .int) 4 (some (.int r)) S1 31 [(0, .ref 0), (2, .int x2)] [.int s0, .int s1] S := by
  unfold f_X12_gapSet_B31 at h
  obtain ⟨r3, T2, q1, h⟩ := zb_some h
  refine z_callSi (pc := 31) (st := [.int s1]) [.int s0] dX12_gapSet_31 zm_X12_307 zM_X12_truth (by decide) (w_X12_truth l q1) rfl rfl (Nat.le_of_ble_eq_true rfl) ?_
  refine z_iload_n (pc := 34) (q := 1) dX12_gapSet_34 rfl rfl ?_
  refine z_ishl (pc := 35) dX12_gapSet_35 ?_
  refine z_ior (pc := 36) dX12_gapSet_36 ?_
  obtain ⟨v4, ev4, h⟩ := zl_some h
  refine z_top ev4 ?_
  refine z_istore_n (pc := 37) (lo' := [(1, .int v4), (0, .ref 0), (2, .int x2)]) dX12_gapSet_37 rfl (by decide) rfl ?_
  obtain ⟨v5, ev5, h⟩ := zl_some h
  refine z_iinc (pc := 38) (q := 2) (v := v5) (lo' := [(2, .int v5), (1, .int v4), (0, .ref 0)]) dX12_gapSet_38 rfl (by rw [ev5, zci_1]) (by decide) rfl ?_
  refine z_goto (pc := 41) (tgt := 4) dX12_gapSet_41 (by decide) ?_
  exact z_sub [2, 1, 0] rfl (hK4 v4 v5 T2 h)
set_option maxRecDepth 100000 in
theorem w_X12_gapSet_L4 (l : Launch) {r : Int32} {S1 : zS} : ∀ (n : Nat) (x1 : Int32) (x2 : Int32) (S : zS), f_X12_gapSet_L4 n x1 x2 S = some (r, S1) → WA zLM l RX12 cX12_gapSet 3 (some .int) 4 (some (.int r)) S1 4 [(0, .ref 0), (1, .int x1), (2, .int x2)] [] S := by
  intro n
  induction n with
  | zero =>
    intro x1 x2 S h
    exact nomatch h
  | succ n ih =>
    intro x1 x2 S h
    rw [f_X12_gapSet_L4] at h
    refine z_iload_n (pc := 4) (q := 2) dX12_gapSet_4 rfl rfl ?_
    refine z_aload_n (pc := 5) (q := 0) dX12_gapSet_5 rfl rfl ?_
    refine z_getI (pc := 6) dX12_gapSet_6 zf_X12_70 gM_0_42 ?_
    refine z_icmp_ge (pc := 9) (tgt := 44) dX12_gapSet_9 (by decide) (fun c1 => ?_) (fun c1 => ?_)
    · have h := ze_some c1 h
      refine z_iload_n (pc := 44) (q := 1) dX12_gapSet_44 rfl rfl ?_
      obtain ⟨rfl, rfl⟩ := zr_some h
      exact z_iret dX12_gapSet_45
    · have h := zt_some c1 h
      refine z_iload_n (pc := 12) (q := 1) dX12_gapSet_12 rfl rfl ?_
      refine z_aload_n (pc := 13) (q := 0) dX12_gapSet_13 rfl rfl ?_
      refine z_iload_n (pc := 14) (q := 2) dX12_gapSet_14 rfl rfl ?_
      obtain ⟨r4, T3, q2, h⟩ := zb_some h
      refine z_callVi (pc := 15) (st := [.int x1]) [.int x2] dX12_gapSet_15 zm_X12_468 zM_X12_billsAt (by decide) oM_0 rfl (w_X12_billsAt l q2) rfl rfl (Nat.le_of_ble_eq_true rfl) ?_
      refine z_aload_n (pc := 18) (q := 0) dX12_gapSet_18 rfl rfl ?_
      obtain ⟨r7, T6, q5, h⟩ := zb_some h
      refine z_callVi (pc := 19) (st := [.int r4, .int x1]) [] dX12_gapSet_19 zm_X12_435 zM_X12_livingSet (by decide) oM_0 rfl (w_X12_livingSet l q5) rfl rfl (Nat.le_of_ble_eq_true rfl) ?_
      refine z_iand (pc := 22) dX12_gapSet_22 ?_
      refine z_if_ne (pc := 23) (tgt := 30) dX12_gapSet_23 (by decide) (fun c8 => ?_) (fun c8 => ?_)
      · have h := ze_some c8 h
        refine z_iconst (pc := 30) (v := 0) dX12_gapSet_30 zci_0 ?_
        exact z_sub [0, 2] rfl (w_X12_gapSet_B31 l (f_X12_gapSet_L4 n) ih x2 0 x1 T6 h)
      · have h := zt_some c8 h
        refine z_iconst (pc := 26) (v := 1) dX12_gapSet_26 zci_1 ?_
        refine z_goto (pc := 27) (tgt := 31) dX12_gapSet_27 (by decide) ?_
        exact z_sub [0, 2] rfl (w_X12_gapSet_B31 l (f_X12_gapSet_L4 n) ih x2 1 x1 T6 h)
set_option maxRecDepth 100000 in
theorem w_X12_gapSet (l : Launch)  {S : zS} {r : Int32} {S1 : zS} (h : f_X12_gapSet S = some (r, S1)) : zMet zLM l yX12_gapSet cX12_gapSet 3 (some .int) 4 [.ref 0] S (some (.int r)) S1 := by
  unfold f_X12_gapSet at h
  refine zMet.of (by decide +kernel) (Nat.le_of_ble_eq_true rfl) ?_
  show WA zLM l RX12 cX12_gapSet 3 (some .int) 4 (some (.int r)) S1 0 [(0, .ref 0)] [] S
  refine z_iconst (pc := 0) (v := 0) dX12_gapSet_0 zci_0 ?_
  refine z_istore_n (pc := 1) (lo' := [(1, .int 0), (0, .ref 0)]) dX12_gapSet_1 rfl (by decide) rfl ?_
  refine z_iconst (pc := 2) (v := 0) dX12_gapSet_2 zci_0 ?_
  refine z_istore_n (pc := 3) (lo' := [(2, .int 0), (1, .int 0), (0, .ref 0)]) dX12_gapSet_3 rfl (by decide) rfl ?_
  exact z_sub [2, 1, 0] rfl (w_X12_gapSet_L4 l zN 0 0 S h)
def f_X12_gaps  (S : zS) : Option (Int32 × zS) :=
  zu (f_X12_load S) fun T2 =>
  zb (f_X12_gapSet T2) fun r5 T4 =>
  some (r5, T4)
set_option maxRecDepth 100000 in
theorem w_X12_gaps (l : Launch)  {S : zS} {r : Int32} {S1 : zS} (h : f_X12_gaps S = some (r, S1)) : zMet zLM l yX12_gaps cX12_gaps 1 (some .int) 5 [.ref 0] S (some (.int r)) S1 := by
  unfold f_X12_gaps at h
  refine zMet.of (by decide +kernel) (Nat.le_of_ble_eq_true rfl) ?_
  show WA zLM l RX12 cX12_gaps 1 (some .int) 5 (some (.int r)) S1 0 [(0, .ref 0)] [] S
  refine z_aload_n (pc := 0) (q := 0) dX12_gaps_0 rfl rfl ?_
  obtain ⟨T2, q1, h⟩ := zu_some h
  refine z_callVv (pc := 1) (st := []) [] dX12_gaps_1 zm_X12_462 zM_X12_load (by decide) oM_0 rfl (w_X12_load l q1) rfl rfl (Nat.le_of_ble_eq_true rfl) ?_
  refine z_aload_n (pc := 4) (q := 0) dX12_gaps_4 rfl rfl ?_
  obtain ⟨r5, T4, q3, h⟩ := zb_some h
  refine z_callVi (pc := 5) (st := []) [] dX12_gaps_5 zm_X12_524 zM_X12_gapSet (by decide) oM_0 rfl (w_X12_gapSet l q3) rfl rfl (Nat.le_of_ble_eq_true rfl) ?_
  obtain ⟨rfl, rfl⟩ := zr_some h
  exact z_iret dX12_gaps_8
def f_X12_widest_B38 (K12 : Int32 → Int32 → Int32 → Int32 → zS → Option (Int32 × zS)) (x1 : Int32) (x2 : Int32) (x4 : Int32) (s0 : Int32) (S : zS) : Option (Int32 × zS) :=
  if x2 < s0 then
    zlet (x4 + 1) fun v2 =>
    K12 x1 s0 s0 v2 S
  else
    zlet (x4 + 1) fun v2 =>
    K12 x1 x2 s0 v2 S
def f_X12_widest_L12 : Nat → Int32 → Int32 → Int32 → Int32 → zS → Option (Int32 × zS)
  | 0, _, _, _, _, _ => none
  | n + 1, x1, x2, x3, x4, S =>
    if x4 < (S.1 0 42) then
      if ((x1 >>> (x4 &&& 31)) &&& 1) = 1 then
        f_X12_widest_B38 (f_X12_widest_L12 n) x1 x2 x4 (x3 + 1) S
      else
        f_X12_widest_B38 (f_X12_widest_L12 n) x1 x2 x4 0 S
    else
      some (x2, S)
def f_X12_widest  (S : zS) : Option (Int32 × zS) :=
  zb (f_X12_gaps S) fun r3 T2 =>
  f_X12_widest_L12 zN r3 0 0 0 T2
set_option maxRecDepth 100000 in
theorem w_X12_widest_B38 (l : Launch) {r : Int32} {S1 : zS} (K12 : Int32 → Int32 → Int32 → Int32 → zS → Option (Int32 × zS)) (hK12 : ∀ (x1 : Int32) (x2 : Int32) (x3 : Int32) (x4 : Int32) (S : zS), K12 x1 x2 x3 x4 S = some (r, S1) → WA zLM l RX12 cX12_widest 5 (some .int) 6 (some (.int r)) S1 12 [(0, .ref 0), (1, .int x1), (2, .int x2), (3, .int x3), (4, .int x4)] [] S) (x1 : Int32) (x2 : Int32) (x4 : Int32) (s0 : Int32) (S : zS) (h : f_X12_widest_B38 K12 x1 x2 x4 s0 S = some (r, S1)) : WA zLM l RX12 cX12_widest 5 (some .int) 6 (some (.int r)) S1 38 [(0, .ref 0), (1, .int x1), (2, .int x2), (4, .int x4)] [.int s0] S := by
  unfold f_X12_widest_B38 at h
  refine z_istore_n (pc := 38) (lo' := [(3, .int s0), (0, .ref 0), (1, .int x1), (2, .int x2), (4, .int x4)]) dX12_widest_38 rfl (by decide) rfl ?_
  refine z_iload_n (pc := 39) (q := 0) dX12_widest_39 rfl rfl ?_
  refine z_iload_n (pc := 40) (q := 3) dX12_widest_40 rfl rfl ?_
  refine z_icmp_le (pc := 41) (tgt := 48) dX12_widest_41 (by decide) (fun c1 => ?_) (fun c1 => ?_)
  · have h := ze_some c1 h
    refine z_iload_n (pc := 48) (q := 3) dX12_widest_48 rfl rfl ?_
    refine z_istore_n (pc := 49) (lo' := [(2, .int x2), (3, .int s0), (0, .ref 0), (1, .int x1), (4, .int x4)]) dX12_widest_49 rfl (by decide) rfl ?_
    obtain ⟨v2, ev2, h⟩ := zl_some h
    refine z_iinc (pc := 50) (q := 4) (v := v2) (lo' := [(4, .int v2), (2, .int x2), (3, .int s0), (0, .ref 0), (1, .int x1)]) dX12_widest_50 rfl (by rw [ev2, zci_1]) (by decide) rfl ?_
    refine z_goto (pc := 53) (tgt := 12) dX12_widest_53 (by decide) ?_
    exact z_sub [3, 4, 1, 2, 0] rfl (hK12 x1 x2 s0 v2 S h)
  · have h := zt_some c1 h
    refine z_iload_n (pc := 44) (q := 0) dX12_widest_44 rfl rfl ?_
    refine z_goto (pc := 45) (tgt := 49) dX12_widest_45 (by decide) ?_
    refine z_istore_n (pc := 49) (lo' := [(2, .int s0), (3, .int s0), (0, .ref 0), (1, .int x1), (4, .int x4)]) dX12_widest_49 rfl (by decide) rfl ?_
    obtain ⟨v2, ev2, h⟩ := zl_some h
    refine z_iinc (pc := 50) (q := 4) (v := v2) (lo' := [(4, .int v2), (2, .int s0), (3, .int s0), (0, .ref 0), (1, .int x1)]) dX12_widest_50 rfl (by rw [ev2, zci_1]) (by decide) rfl ?_
    refine z_goto (pc := 53) (tgt := 12) dX12_widest_53 (by decide) ?_
    exact z_sub [3, 4, 1, 2, 0] rfl (hK12 x1 s0 s0 v2 S h)
set_option maxRecDepth 100000 in
theorem w_X12_widest_L12 (l : Launch) {r : Int32} {S1 : zS} : ∀ (n : Nat) (x1 : Int32) (x2 : Int32) (x3 : Int32) (x4 : Int32) (S : zS), f_X12_widest_L12 n x1 x2 x3 x4 S = some (r, S1) → WA zLM l RX12 cX12_widest 5 (some .int) 6 (some (.int r)) S1 12 [(0, .ref 0), (1, .int x1), (2, .int x2), (3, .int x3), (4, .int x4)] [] S := by
  intro n
  induction n with
  | zero =>
    intro x1 x2 x3 x4 S h
    exact nomatch h
  | succ n ih =>
    intro x1 x2 x3 x4 S h
    rw [f_X12_widest_L12] at h
    refine z_iload (pc := 12) (q := 4) dX12_widest_12 rfl ?_
    refine z_aload_n (pc := 14) (q := 0) dX12_widest_14 rfl rfl ?_
    refine z_getI (pc := 15) dX12_widest_15 zf_X12_70 gM_0_42 ?_
    refine z_icmp_ge (pc := 18) (tgt := 56) dX12_widest_18 (by decide) (fun c1 => ?_) (fun c1 => ?_)
    · have h := ze_some c1 h
      refine z_iload_n (pc := 56) (q := 2) dX12_widest_56 rfl rfl ?_
      obtain ⟨rfl, rfl⟩ := zr_some h
      exact z_iret dX12_widest_57
    · have h := zt_some c1 h
      refine z_iload_n (pc := 21) (q := 1) dX12_widest_21 rfl rfl ?_
      refine z_iload (pc := 22) (q := 4) dX12_widest_22 rfl ?_
      refine z_ishr (pc := 24) dX12_widest_24 ?_
      refine z_iconst (pc := 25) (v := 1) dX12_widest_25 zci_1 ?_
      refine z_iand (pc := 26) dX12_widest_26 ?_
      refine z_iconst (pc := 27) (v := 1) dX12_widest_27 zci_1 ?_
      refine z_icmp_ne (pc := 28) (tgt := 37) dX12_widest_28 (by decide) (fun c2 => ?_) (fun c2 => ?_)
      · have h := ze_some c2 h
        refine z_iconst (pc := 37) (v := 0) dX12_widest_37 zci_0 ?_
        exact z_sub [0, 1, 2, 4] rfl (w_X12_widest_B38 l (f_X12_widest_L12 n) ih x1 x2 x4 0 S h)
      · have h := zt_some c2 h
        refine z_iload_n (pc := 31) (q := 3) dX12_widest_31 rfl rfl ?_
        refine z_iconst (pc := 32) (v := 1) dX12_widest_32 zci_1 ?_
        refine z_iadd (pc := 33) dX12_widest_33 ?_
        refine z_goto (pc := 34) (tgt := 38) dX12_widest_34 (by decide) ?_
        exact z_sub [0, 1, 2, 4] rfl (w_X12_widest_B38 l (f_X12_widest_L12 n) ih x1 x2 x4 (x3 + 1) S h)
set_option maxRecDepth 100000 in
theorem w_X12_widest (l : Launch)  {S : zS} {r : Int32} {S1 : zS} (h : f_X12_widest S = some (r, S1)) : zMet zLM l yX12_widest cX12_widest 5 (some .int) 6 [.ref 0] S (some (.int r)) S1 := by
  unfold f_X12_widest at h
  refine zMet.of (by decide +kernel) (Nat.le_of_ble_eq_true rfl) ?_
  show WA zLM l RX12 cX12_widest 5 (some .int) 6 (some (.int r)) S1 0 [(0, .ref 0)] [] S
  refine z_aload_n (pc := 0) (q := 0) dX12_widest_0 rfl rfl ?_
  obtain ⟨r3, T2, q1, h⟩ := zb_some h
  refine z_callVi (pc := 1) (st := []) [] dX12_widest_1 zm_X12_527 zM_X12_gaps (by decide) oM_0 rfl (w_X12_gaps l q1) rfl rfl (Nat.le_of_ble_eq_true rfl) ?_
  refine z_istore_n (pc := 4) (lo' := [(1, .int r3), (0, .ref 0)]) dX12_widest_4 rfl (by decide) rfl ?_
  refine z_iconst (pc := 5) (v := 0) dX12_widest_5 zci_0 ?_
  refine z_istore_n (pc := 6) (lo' := [(2, .int 0), (1, .int r3), (0, .ref 0)]) dX12_widest_6 rfl (by decide) rfl ?_
  refine z_iconst (pc := 7) (v := 0) dX12_widest_7 zci_0 ?_
  refine z_istore_n (pc := 8) (lo' := [(3, .int 0), (2, .int 0), (1, .int r3), (0, .ref 0)]) dX12_widest_8 rfl (by decide) rfl ?_
  refine z_iconst (pc := 9) (v := 0) dX12_widest_9 zci_0 ?_
  refine z_istore (pc := 10) (lo' := [(4, .int 0), (3, .int 0), (2, .int 0), (1, .int r3), (0, .ref 0)]) dX12_widest_10 (by decide) rfl ?_
  exact z_sub [4, 3, 2, 1, 0] rfl (w_X12_widest_L12 l zN r3 0 0 0 T2 h)
def f_X12_closes_B52 (K25 : Int32 → Int32 → Int32 → Int32 → Int32 → zS → Option (Int32 × zS)) (x1 : Int32) (x2 : Int32) (x3 : Int32) (x5 : Int32) (s0 : Int32) (S : zS) : Option (Int32 × zS) :=
  if s0 < x1 then
    zlet (x5 + 1) fun v2 =>
    K25 x1 x2 x3 s0 v2 S
  else
    zlet (x3 + 1) fun v2 =>
    zlet (x5 + 1) fun v3 =>
    K25 x1 x2 v2 0 v3 S
def f_X12_closes_L25 : Nat → Int32 → Int32 → Int32 → Int32 → Int32 → zS → Option (Int32 × zS)
  | 0, _, _, _, _, _, _ => none
  | n + 1, x1, x2, x3, x4, x5, S =>
    if x5 < (S.1 0 42) then
      if ((x2 >>> (x5 &&& 31)) &&& 1) = 1 then
        f_X12_closes_B52 (f_X12_closes_L25 n) x1 x2 x3 x5 (x4 + 1) S
      else
        f_X12_closes_B52 (f_X12_closes_L25 n) x1 x2 x3 x5 0 S
    else
      some (x3, S)
def f_X12_closes (x1 : Int32) (S : zS) : Option (Int32 × zS) :=
  zb (f_X12_isIn x1 1 12 S) fun r3 T2 =>
  if r3 = 0 then
    some ((-1), T2)
  else
    zb (f_X12_gaps T2) fun r7 T6 =>
    f_X12_closes_L25 zN x1 r7 0 0 0 T6
set_option maxRecDepth 100000 in
theorem w_X12_closes_B52 (l : Launch) {r : Int32} {S1 : zS} (K25 : Int32 → Int32 → Int32 → Int32 → Int32 → zS → Option (Int32 × zS)) (hK25 : ∀ (x1 : Int32) (x2 : Int32) (x3 : Int32) (x4 : Int32) (x5 : Int32) (S : zS), K25 x1 x2 x3 x4 x5 S = some (r, S1) → WA zLM l RX12 cX12_closes 6 (some .int) 6 (some (.int r)) S1 25 [(0, .ref 0), (1, .int x1), (2, .int x2), (3, .int x3), (4, .int x4), (5, .int x5)] [] S) (x1 : Int32) (x2 : Int32) (x3 : Int32) (x5 : Int32) (s0 : Int32) (S : zS) (h : f_X12_closes_B52 K25 x1 x2 x3 x5 s0 S = some (r, S1)) : WA zLM l RX12 cX12_closes 6 (some .int) 6 (some (.int r)) S1 52 [(0, .ref 0), (1, .int x1), (2, .int x2), (3, .int x3), (5, .int x5)] [.int s0] S := by
  unfold f_X12_closes_B52 at h
  refine z_istore (pc := 52) (lo' := [(4, .int s0), (0, .ref 0), (1, .int x1), (2, .int x2), (3, .int x3), (5, .int x5)]) dX12_closes_52 (by decide) rfl ?_
  refine z_iload (pc := 54) (q := 0) dX12_closes_54 rfl ?_
  refine z_iload_n (pc := 56) (q := 2) dX12_closes_56 rfl rfl ?_
  refine z_icmp_ge (pc := 57) (tgt := 63) dX12_closes_57 (by decide) (fun c1 => ?_) (fun c1 => ?_)
  · have h := ze_some c1 h
    obtain ⟨v2, ev2, h⟩ := zl_some h
    refine z_iinc (pc := 63) (q := 4) (v := v2) (lo' := [(3, .int v2), (4, .int s0), (0, .ref 0), (1, .int x1), (2, .int x2), (5, .int x5)]) dX12_closes_63 rfl (by rw [ev2, zci_1]) (by decide) rfl ?_
    refine z_iconst (pc := 66) (v := 0) dX12_closes_66 zci_0 ?_
    refine z_istore (pc := 67) (lo' := [(4, .int 0), (3, .int v2), (0, .ref 0), (1, .int x1), (2, .int x2), (5, .int x5)]) dX12_closes_67 (by decide) rfl ?_
    obtain ⟨v3, ev3, h⟩ := zl_some h
    refine z_iinc (pc := 69) (q := 5) (v := v3) (lo' := [(5, .int v3), (4, .int 0), (3, .int v2), (0, .ref 0), (1, .int x1), (2, .int x2)]) dX12_closes_69 rfl (by rw [ev3, zci_1]) (by decide) rfl ?_
    refine z_goto (pc := 72) (tgt := 25) dX12_closes_72 (by decide) ?_
    exact z_sub [3, 4, 5, 2, 1, 0] rfl (hK25 x1 x2 v2 0 v3 S h)
  · have h := zt_some c1 h
    refine z_goto (pc := 60) (tgt := 69) dX12_closes_60 (by decide) ?_
    obtain ⟨v2, ev2, h⟩ := zl_some h
    refine z_iinc (pc := 69) (q := 5) (v := v2) (lo' := [(5, .int v2), (4, .int s0), (0, .ref 0), (1, .int x1), (2, .int x2), (3, .int x3)]) dX12_closes_69 rfl (by rw [ev2, zci_1]) (by decide) rfl ?_
    refine z_goto (pc := 72) (tgt := 25) dX12_closes_72 (by decide) ?_
    exact z_sub [2, 3, 4, 5, 1, 0] rfl (hK25 x1 x2 x3 s0 v2 S h)
set_option maxRecDepth 100000 in
theorem w_X12_closes_L25 (l : Launch) {r : Int32} {S1 : zS} : ∀ (n : Nat) (x1 : Int32) (x2 : Int32) (x3 : Int32) (x4 : Int32) (x5 : Int32) (S : zS), f_X12_closes_L25 n x1 x2 x3 x4 x5 S = some (r, S1) → WA zLM l RX12 cX12_closes 6 (some .int) 6 (some (.int r)) S1 25 [(0, .ref 0), (1, .int x1), (2, .int x2), (3, .int x3), (4, .int x4), (5, .int x5)] [] S := by
  intro n
  induction n with
  | zero =>
    intro x1 x2 x3 x4 x5 S h
    exact nomatch h
  | succ n ih =>
    intro x1 x2 x3 x4 x5 S h
    rw [f_X12_closes_L25] at h
    refine z_iload (pc := 25) (q := 5) dX12_closes_25 rfl ?_
    refine z_aload_n (pc := 27) (q := 0) dX12_closes_27 rfl rfl ?_
    refine z_getI (pc := 28) dX12_closes_28 zf_X12_70 gM_0_42 ?_
    refine z_icmp_ge (pc := 31) (tgt := 75) dX12_closes_31 (by decide) (fun c1 => ?_) (fun c1 => ?_)
    · have h := ze_some c1 h
      refine z_iload_n (pc := 75) (q := 3) dX12_closes_75 rfl rfl ?_
      obtain ⟨rfl, rfl⟩ := zr_some h
      exact z_iret dX12_closes_76
    · have h := zt_some c1 h
      refine z_iload_n (pc := 34) (q := 2) dX12_closes_34 rfl rfl ?_
      refine z_iload (pc := 35) (q := 5) dX12_closes_35 rfl ?_
      refine z_ishr (pc := 37) dX12_closes_37 ?_
      refine z_iconst (pc := 38) (v := 1) dX12_closes_38 zci_1 ?_
      refine z_iand (pc := 39) dX12_closes_39 ?_
      refine z_iconst (pc := 40) (v := 1) dX12_closes_40 zci_1 ?_
      refine z_icmp_ne (pc := 41) (tgt := 51) dX12_closes_41 (by decide) (fun c2 => ?_) (fun c2 => ?_)
      · have h := ze_some c2 h
        refine z_iconst (pc := 51) (v := 0) dX12_closes_51 zci_0 ?_
        exact z_sub [0, 1, 2, 3, 5] rfl (w_X12_closes_B52 l (f_X12_closes_L25 n) ih x1 x2 x3 x5 0 S h)
      · have h := zt_some c2 h
        refine z_iload (pc := 44) (q := 4) dX12_closes_44 rfl ?_
        refine z_iconst (pc := 46) (v := 1) dX12_closes_46 zci_1 ?_
        refine z_iadd (pc := 47) dX12_closes_47 ?_
        refine z_goto (pc := 48) (tgt := 52) dX12_closes_48 (by decide) ?_
        exact z_sub [0, 1, 2, 3, 5] rfl (w_X12_closes_B52 l (f_X12_closes_L25 n) ih x1 x2 x3 x5 (x4 + 1) S h)
set_option maxRecDepth 100000 in
theorem w_X12_closes (l : Launch) {x1 : Int32} {S : zS} {r : Int32} {S1 : zS} (h : f_X12_closes x1 S = some (r, S1)) : zMet zLM l yX12_closes cX12_closes 6 (some .int) 6 [.ref 0, .int x1] S (some (.int r)) S1 := by
  unfold f_X12_closes at h
  refine zMet.of (by decide +kernel) (Nat.le_of_ble_eq_true rfl) ?_
  show WA zLM l RX12 cX12_closes 6 (some .int) 6 (some (.int r)) S1 0 [(0, .ref 0), (1, .int x1)] [] S
  refine z_iload_n (pc := 0) (q := 1) dX12_closes_0 rfl rfl ?_
  refine z_iconst (pc := 1) (v := 1) dX12_closes_1 zci_1 ?_
  refine z_bipush (pc := 2) (v := 12) dX12_closes_2 zcb_12 ?_
  obtain ⟨r3, T2, q1, h⟩ := zb_some h
  refine z_callSi (pc := 4) (st := []) [.int x1, .int 1, .int 12] dX12_closes_4 zm_X12_422 zM_X12_isIn (by decide) (w_X12_isIn l q1) rfl rfl (Nat.le_of_ble_eq_true rfl) ?_
  refine z_if_ne (pc := 7) (tgt := 12) dX12_closes_7 (by decide) (fun c4 => ?_) (fun c4 => ?_)
  · have h := ze_some c4 h
    refine z_aload_n (pc := 12) (q := 0) dX12_closes_12 rfl rfl ?_
    obtain ⟨r7, T6, q5, h⟩ := zb_some h
    refine z_callVi (pc := 13) (st := []) [] dX12_closes_13 zm_X12_527 zM_X12_gaps (by decide) oM_0 rfl (w_X12_gaps l q5) rfl rfl (Nat.le_of_ble_eq_true rfl) ?_
    refine z_istore_n (pc := 16) (lo' := [(2, .int r7), (0, .ref 0), (1, .int x1)]) dX12_closes_16 rfl (by decide) rfl ?_
    refine z_iconst (pc := 17) (v := 0) dX12_closes_17 zci_0 ?_
    refine z_istore_n (pc := 18) (lo' := [(3, .int 0), (2, .int r7), (0, .ref 0), (1, .int x1)]) dX12_closes_18 rfl (by decide) rfl ?_
    refine z_iconst (pc := 19) (v := 0) dX12_closes_19 zci_0 ?_
    refine z_istore (pc := 20) (lo' := [(4, .int 0), (3, .int 0), (2, .int r7), (0, .ref 0), (1, .int x1)]) dX12_closes_20 (by decide) rfl ?_
    refine z_iconst (pc := 22) (v := 0) dX12_closes_22 zci_0 ?_
    refine z_istore (pc := 23) (lo' := [(5, .int 0), (4, .int 0), (3, .int 0), (2, .int r7), (0, .ref 0), (1, .int x1)]) dX12_closes_23 (by decide) rfl ?_
    exact z_sub [4, 5, 3, 2, 1, 0] rfl (w_X12_closes_L25 l zN x1 r7 0 0 0 T6 h)
  · have h := zt_some c4 h
    refine z_iconst (pc := 10) (v := (-1)) dX12_closes_10 zci_m1 ?_
    obtain ⟨rfl, rfl⟩ := zr_some h
    exact z_iret dX12_closes_11
def f_X12_walk_B67 (K34 : Int32 → Int32 → Int32 → Int32 → Int32 → zS → Option (Int32 × zS)) (x1 : Int32) (x2 : Int32) (x4 : Int32) (x5 : Int32) (s0 : Int32) (S : zS) : Option (Int32 × zS) :=
  if x4 < x5 then
    zlet (x5 + 1) fun v2 =>
    K34 x1 x2 s0 x5 v2 S
  else
    zlet (x5 + 1) fun v2 =>
    K34 x1 x2 s0 x4 v2 S
def f_X12_walk_L34 : Nat → Int32 → Int32 → Int32 → Int32 → Int32 → zS → Option (Int32 × zS)
  | 0, _, _, _, _, _, _ => none
  | n + 1, x1, x2, x3, x4, x5, S =>
    if x5 < (S.1 0 42) then
      if ((x2 >>> (x5 &&& 31)) &&& 1) = 0 then
        zlet (x5 + 1) fun v3 =>
        (f_X12_walk_L34 n) x1 x2 x3 x4 v3 S
      else
        if x5 < x3 then
          f_X12_walk_B67 (f_X12_walk_L34 n) x1 x2 x4 x5 x5 S
        else
          f_X12_walk_B67 (f_X12_walk_L34 n) x1 x2 x4 x5 x3 S
    else
      zlet (x1 - x3) fun v2 =>
      zlet (x4 - x1) fun v3 =>
      if v2 < v3 then
        some ((v2 + v3) + v2, S)
      else
        some ((v2 + v3) + v3, S)
def f_X12_walk (x1 : Int32) (x2 : Int32) (S : zS) : Option (Int32 × zS) :=
  zb (f_X12_isStake x1 S) fun r3 T2 =>
  if r3 = 0 then
    some ((-1), T2)
  else
    zb (f_X12_isIn x2 0 ((1 <<< ((T2.1 0 42) &&& 31)) - 1) T2) fun r7 T6 =>
    if r7 = 0 then
      some ((-1), T6)
    else
      f_X12_walk_L34 zN x1 x2 x1 x1 0 T6
set_option maxRecDepth 100000 in
theorem w_X12_walk_B67 (l : Launch) {r : Int32} {S1 : zS} (K34 : Int32 → Int32 → Int32 → Int32 → Int32 → zS → Option (Int32 × zS)) (hK34 : ∀ (x1 : Int32) (x2 : Int32) (x3 : Int32) (x4 : Int32) (x5 : Int32) (S : zS), K34 x1 x2 x3 x4 x5 S = some (r, S1) → WA zLM l RX12 cX12_walk 7 (some .int) 3 (some (.int r)) S1 34 [(0, .ref 0), (1, .int x1), (2, .int x2), (3, .int x3), (4, .int x4), (5, .int x5)] [] S) (x1 : Int32) (x2 : Int32) (x4 : Int32) (x5 : Int32) (s0 : Int32) (S : zS) (h : f_X12_walk_B67 K34 x1 x2 x4 x5 s0 S = some (r, S1)) : WA zLM l RX12 cX12_walk 7 (some .int) 3 (some (.int r)) S1 67 [(0, .ref 0), (1, .int x1), (2, .int x2), (4, .int x4), (5, .int x5)] [.int s0] S := by
  unfold f_X12_walk_B67 at h
  refine z_istore_n (pc := 67) (lo' := [(3, .int s0), (0, .ref 0), (1, .int x1), (2, .int x2), (4, .int x4), (5, .int x5)]) dX12_walk_67 rfl (by decide) rfl ?_
  refine z_iload (pc := 68) (q := 5) dX12_walk_68 rfl ?_
  refine z_iload (pc := 70) (q := 4) dX12_walk_70 rfl ?_
  refine z_icmp_le (pc := 72) (tgt := 80) dX12_walk_72 (by decide) (fun c1 => ?_) (fun c1 => ?_)
  · have h := ze_some c1 h
    refine z_iload (pc := 80) (q := 4) dX12_walk_80 rfl ?_
    refine z_istore (pc := 82) (lo' := [(4, .int x4), (3, .int s0), (0, .ref 0), (1, .int x1), (2, .int x2), (5, .int x5)]) dX12_walk_82 (by decide) rfl ?_
    obtain ⟨v2, ev2, h⟩ := zl_some h
    refine z_iinc (pc := 84) (q := 5) (v := v2) (lo' := [(5, .int v2), (4, .int x4), (3, .int s0), (0, .ref 0), (1, .int x1), (2, .int x2)]) dX12_walk_84 rfl (by rw [ev2, zci_1]) (by decide) rfl ?_
    refine z_goto (pc := 87) (tgt := 34) dX12_walk_87 (by decide) ?_
    exact z_sub [3, 4, 5, 2, 1, 0] rfl (hK34 x1 x2 s0 x4 v2 S h)
  · have h := zt_some c1 h
    refine z_iload (pc := 75) (q := 5) dX12_walk_75 rfl ?_
    refine z_goto (pc := 77) (tgt := 82) dX12_walk_77 (by decide) ?_
    refine z_istore (pc := 82) (lo' := [(4, .int x5), (3, .int s0), (0, .ref 0), (1, .int x1), (2, .int x2), (5, .int x5)]) dX12_walk_82 (by decide) rfl ?_
    obtain ⟨v2, ev2, h⟩ := zl_some h
    refine z_iinc (pc := 84) (q := 5) (v := v2) (lo' := [(5, .int v2), (4, .int x5), (3, .int s0), (0, .ref 0), (1, .int x1), (2, .int x2)]) dX12_walk_84 rfl (by rw [ev2, zci_1]) (by decide) rfl ?_
    refine z_goto (pc := 87) (tgt := 34) dX12_walk_87 (by decide) ?_
    exact z_sub [3, 4, 5, 2, 1, 0] rfl (hK34 x1 x2 s0 x5 v2 S h)
set_option maxRecDepth 100000 in
theorem w_X12_walk_L34 (l : Launch) {r : Int32} {S1 : zS} : ∀ (n : Nat) (x1 : Int32) (x2 : Int32) (x3 : Int32) (x4 : Int32) (x5 : Int32) (S : zS), f_X12_walk_L34 n x1 x2 x3 x4 x5 S = some (r, S1) → WA zLM l RX12 cX12_walk 7 (some .int) 3 (some (.int r)) S1 34 [(0, .ref 0), (1, .int x1), (2, .int x2), (3, .int x3), (4, .int x4), (5, .int x5)] [] S := by
  intro n
  induction n with
  | zero =>
    intro x1 x2 x3 x4 x5 S h
    exact nomatch h
  | succ n ih =>
    intro x1 x2 x3 x4 x5 S h
    rw [f_X12_walk_L34] at h
    refine z_iload (pc := 34) (q := 5) dX12_walk_34 rfl ?_
    refine z_aload_n (pc := 36) (q := 0) dX12_walk_36 rfl rfl ?_
    refine z_getI (pc := 37) dX12_walk_37 zf_X12_70 gM_0_42 ?_
    refine z_icmp_ge (pc := 40) (tgt := 90) dX12_walk_40 (by decide) (fun c1 => ?_) (fun c1 => ?_)
    · have h := ze_some c1 h
      refine z_iload_n (pc := 90) (q := 1) dX12_walk_90 rfl rfl ?_
      refine z_iload_n (pc := 91) (q := 3) dX12_walk_91 rfl rfl ?_
      refine z_isub (pc := 92) dX12_walk_92 ?_
      obtain ⟨v2, ev2, h⟩ := zl_some h
      refine z_top ev2 ?_
      refine z_istore (pc := 93) (lo' := [(5, .int v2), (0, .ref 0), (1, .int x1), (2, .int x2), (3, .int x3), (4, .int x4)]) dX12_walk_93 (by decide) rfl ?_
      refine z_iload (pc := 95) (q := 5) dX12_walk_95 rfl ?_
      refine z_iload_n (pc := 97) (q := 2) dX12_walk_97 rfl rfl ?_
      refine z_isub (pc := 98) dX12_walk_98 ?_
      obtain ⟨v3, ev3, h⟩ := zl_some h
      refine z_top ev3 ?_
      refine z_istore (pc := 99) (lo' := [(6, .int v3), (5, .int v2), (0, .ref 0), (1, .int x1), (2, .int x2), (3, .int x3), (4, .int x4)]) dX12_walk_99 (by decide) rfl ?_
      refine z_iload (pc := 101) (q := 1) dX12_walk_101 rfl ?_
      refine z_iload (pc := 103) (q := 0) dX12_walk_103 rfl ?_
      refine z_iadd (pc := 105) dX12_walk_105 ?_
      refine z_iload (pc := 106) (q := 1) dX12_walk_106 rfl ?_
      refine z_iload (pc := 108) (q := 0) dX12_walk_108 rfl ?_
      refine z_icmp_ge (pc := 110) (tgt := 118) dX12_walk_110 (by decide) (fun c4 => ?_) (fun c4 => ?_)
      · have h := ze_some c4 h
        refine z_iload (pc := 118) (q := 0) dX12_walk_118 rfl ?_
        refine z_iadd (pc := 120) dX12_walk_120 ?_
        obtain ⟨rfl, rfl⟩ := zr_some h
        exact z_iret dX12_walk_121
      · have h := zt_some c4 h
        refine z_iload (pc := 113) (q := 1) dX12_walk_113 rfl ?_
        refine z_goto (pc := 115) (tgt := 120) dX12_walk_115 (by decide) ?_
        refine z_iadd (pc := 120) dX12_walk_120 ?_
        obtain ⟨rfl, rfl⟩ := zr_some h
        exact z_iret dX12_walk_121
    · have h := zt_some c1 h
      refine z_iload_n (pc := 43) (q := 2) dX12_walk_43 rfl rfl ?_
      refine z_iload (pc := 44) (q := 5) dX12_walk_44 rfl ?_
      refine z_ishr (pc := 46) dX12_walk_46 ?_
      refine z_iconst (pc := 47) (v := 1) dX12_walk_47 zci_1 ?_
      refine z_iand (pc := 48) dX12_walk_48 ?_
      refine z_if_ne (pc := 49) (tgt := 55) dX12_walk_49 (by decide) (fun c2 => ?_) (fun c2 => ?_)
      · have h := ze_some c2 h
        refine z_iload (pc := 55) (q := 5) dX12_walk_55 rfl ?_
        refine z_iload_n (pc := 57) (q := 3) dX12_walk_57 rfl rfl ?_
        refine z_icmp_ge (pc := 58) (tgt := 66) dX12_walk_58 (by decide) (fun c3 => ?_) (fun c3 => ?_)
        · have h := ze_some c3 h
          refine z_iload_n (pc := 66) (q := 3) dX12_walk_66 rfl rfl ?_
          exact z_sub [0, 1, 2, 4, 5] rfl (w_X12_walk_B67 l (f_X12_walk_L34 n) ih x1 x2 x4 x5 x3 S h)
        · have h := zt_some c3 h
          refine z_iload (pc := 61) (q := 5) dX12_walk_61 rfl ?_
          refine z_goto (pc := 63) (tgt := 67) dX12_walk_63 (by decide) ?_
          exact z_sub [0, 1, 2, 4, 5] rfl (w_X12_walk_B67 l (f_X12_walk_L34 n) ih x1 x2 x4 x5 x5 S h)
      · have h := zt_some c2 h
        refine z_goto (pc := 52) (tgt := 84) dX12_walk_52 (by decide) ?_
        obtain ⟨v3, ev3, h⟩ := zl_some h
        refine z_iinc (pc := 84) (q := 5) (v := v3) (lo' := [(5, .int v3), (0, .ref 0), (1, .int x1), (2, .int x2), (3, .int x3), (4, .int x4)]) dX12_walk_84 rfl (by rw [ev3, zci_1]) (by decide) rfl ?_
        refine z_goto (pc := 87) (tgt := 34) dX12_walk_87 (by decide) ?_
        exact z_sub [1, 2, 3, 4, 5, 0] rfl (ih x1 x2 x3 x4 v3 S h)
set_option maxRecDepth 100000 in
theorem w_X12_walk (l : Launch) {x1 : Int32} {x2 : Int32} {S : zS} {r : Int32} {S1 : zS} (h : f_X12_walk x1 x2 S = some (r, S1)) : zMet zLM l yX12_walk cX12_walk 7 (some .int) 3 [.ref 0, .int x1, .int x2] S (some (.int r)) S1 := by
  unfold f_X12_walk at h
  refine zMet.of (by decide +kernel) (Nat.le_of_ble_eq_true rfl) ?_
  show WA zLM l RX12 cX12_walk 7 (some .int) 3 (some (.int r)) S1 0 [(0, .ref 0), (1, .int x1), (2, .int x2)] [] S
  refine z_aload_n (pc := 0) (q := 0) dX12_walk_0 rfl rfl ?_
  refine z_iload_n (pc := 1) (q := 1) dX12_walk_1 rfl rfl ?_
  obtain ⟨r3, T2, q1, h⟩ := zb_some h
  refine z_callVi (pc := 2) (st := []) [.int x1] dX12_walk_2 zm_X12_465 zM_X12_isStake (by decide) oM_0 rfl (w_X12_isStake l q1) rfl rfl (Nat.le_of_ble_eq_true rfl) ?_
  refine z_if_eq (pc := 5) (tgt := 24) dX12_walk_5 (by decide) (fun c4 => ?_) (fun c4 => ?_)
  · have h := zt_some c4 h
    refine z_iconst (pc := 24) (v := (-1)) dX12_walk_24 zci_m1 ?_
    obtain ⟨rfl, rfl⟩ := zr_some h
    exact z_iret dX12_walk_25
  · have h := ze_some c4 h
    refine z_iload_n (pc := 8) (q := 2) dX12_walk_8 rfl rfl ?_
    refine z_iconst (pc := 9) (v := 0) dX12_walk_9 zci_0 ?_
    refine z_iconst (pc := 10) (v := 1) dX12_walk_10 zci_1 ?_
    refine z_aload_n (pc := 11) (q := 0) dX12_walk_11 rfl rfl ?_
    refine z_getI (pc := 12) dX12_walk_12 zf_X12_70 gM_0_42 ?_
    refine z_ishl (pc := 15) dX12_walk_15 ?_
    refine z_iconst (pc := 16) (v := 1) dX12_walk_16 zci_1 ?_
    refine z_isub (pc := 17) dX12_walk_17 ?_
    obtain ⟨r7, T6, q5, h⟩ := zb_some h
    refine z_callSi (pc := 18) (st := []) [.int x2, .int 0, .int ((1 <<< ((T2.1 0 42) &&& 31)) - 1)] dX12_walk_18 zm_X12_422 zM_X12_isIn (by decide) (w_X12_isIn l q5) rfl rfl (Nat.le_of_ble_eq_true rfl) ?_
    refine z_if_ne (pc := 21) (tgt := 26) dX12_walk_21 (by decide) (fun c8 => ?_) (fun c8 => ?_)
    · have h := ze_some c8 h
      refine z_iload_n (pc := 26) (q := 1) dX12_walk_26 rfl rfl ?_
      refine z_istore_n (pc := 27) (lo' := [(3, .int x1), (0, .ref 0), (1, .int x1), (2, .int x2)]) dX12_walk_27 rfl (by decide) rfl ?_
      refine z_iload_n (pc := 28) (q := 2) dX12_walk_28 rfl rfl ?_
      refine z_istore (pc := 29) (lo' := [(4, .int x1), (3, .int x1), (0, .ref 0), (1, .int x1), (2, .int x2)]) dX12_walk_29 (by decide) rfl ?_
      refine z_iconst (pc := 31) (v := 0) dX12_walk_31 zci_0 ?_
      refine z_istore (pc := 32) (lo' := [(5, .int 0), (4, .int x1), (3, .int x1), (0, .ref 0), (1, .int x1), (2, .int x2)]) dX12_walk_32 (by decide) rfl ?_
      exact z_sub [3, 4, 5, 2, 1, 0] rfl (w_X12_walk_L34 l zN x1 x2 x1 x1 0 T6 h)
    · have h := zt_some c8 h
      refine z_iconst (pc := 24) (v := (-1)) dX12_walk_24 zci_m1 ?_
      obtain ⟨rfl, rfl⟩ := zr_some h
      exact z_iret dX12_walk_25
def f_X12_layCuts_L7 : Nat → Int32 → Int32 → zS → Option zS
  | 0, _, _, _ => none
  | n + 1, x3, x4, S =>
    if x4 < 0 then
      some S
    else
      if ¬ ((S.1 0 42) + 1) = 0 then
      if zin x4 3 then
      zlet (zput S 22 x4.toNatClampNeg ((zrem x3 ((S.1 0 42) + 1)) - 1)) fun T4 =>
      if ¬ ((T4.1 0 42) + 1) = 0 then
      zlet (x3 / ((T4.1 0 42) + 1)) fun v6 =>
      zlet (x4 + (-1)) fun v7 =>
      (f_X12_layCuts_L7 n) v6 v7 T4 else none else none else none
def f_X12_layCuts (x1 : Int32) (x2 : Int32) (S : zS) : Option zS :=
  zlet (x2 - 1) fun v1 =>
  f_X12_layCuts_L7 zN x1 v1 S
set_option maxRecDepth 100000 in
theorem w_X12_layCuts_L7 (l : Launch) {S1 : zS} : ∀ (n : Nat) (x3 : Int32) (x4 : Int32) (S : zS), f_X12_layCuts_L7 n x3 x4 S = some S1 → WA zLM l RX12 cX12_layCuts 5 none 1 none S1 7 [(0, .ref 0), (3, .int x3), (4, .int x4)] [] S := by
  intro n
  induction n with
  | zero =>
    intro x3 x4 S h
    exact nomatch h
  | succ n ih =>
    intro x3 x4 S h
    rw [f_X12_layCuts_L7] at h
    refine z_iload (pc := 7) (q := 2) dX12_layCuts_7 rfl ?_
    refine z_if_lt (pc := 9) (tgt := 44) dX12_layCuts_9 (by decide) (fun c1 => ?_) (fun c1 => ?_)
    · have h := zt_some c1 h
      cases h
      exact z_vret dX12_layCuts_44
    · have h := ze_some c1 h
      refine z_aload_n (pc := 12) (q := 0) dX12_layCuts_12 rfl rfl ?_
      refine z_getR (pc := 13) dX12_layCuts_13 zf_X12_85 gM_0_58 ?_
      refine z_iload (pc := 16) (q := 2) dX12_layCuts_16 rfl ?_
      refine z_iload_n (pc := 18) (q := 1) dX12_layCuts_18 rfl rfl ?_
      refine z_aload_n (pc := 19) (q := 0) dX12_layCuts_19 rfl rfl ?_
      refine z_getI (pc := 20) dX12_layCuts_20 zf_X12_70 gM_0_42 ?_
      refine z_iconst (pc := 23) (v := 1) dX12_layCuts_23 zci_1 ?_
      refine z_iadd (pc := 24) dX12_layCuts_24 ?_
      obtain ⟨c2, h⟩ := zg_some h
      refine z_irem (pc := 25) dX12_layCuts_25 c2 ?_
      refine zrem_fold ?_
      refine z_iconst (pc := 26) (v := 1) dX12_layCuts_26 zci_1 ?_
      refine z_isub (pc := 27) dX12_layCuts_27 ?_
      obtain ⟨c3, h⟩ := zg_some h
      obtain ⟨T4, eT4, h⟩ := zl_some h
      refine z_iast (pc := 28) dX12_layCuts_28 aM_22 c3 eT4 ?_
      refine z_iload_n (pc := 29) (q := 1) dX12_layCuts_29 rfl rfl ?_
      refine z_aload_n (pc := 30) (q := 0) dX12_layCuts_30 rfl rfl ?_
      refine z_getI (pc := 31) dX12_layCuts_31 zf_X12_70 gM_0_42 ?_
      refine z_iconst (pc := 34) (v := 1) dX12_layCuts_34 zci_1 ?_
      refine z_iadd (pc := 35) dX12_layCuts_35 ?_
      obtain ⟨c5, h⟩ := zg_some h
      refine z_idiv (pc := 36) dX12_layCuts_36 c5 ?_
      obtain ⟨v6, ev6, h⟩ := zl_some h
      refine z_top ev6 ?_
      refine z_istore_n (pc := 37) (lo' := [(3, .int v6), (0, .ref 0), (4, .int x4)]) dX12_layCuts_37 rfl (by decide) rfl ?_
      obtain ⟨v7, ev7, h⟩ := zl_some h
      refine z_iinc (pc := 38) (q := 2) (v := v7) (lo' := [(4, .int v7), (3, .int v6), (0, .ref 0)]) dX12_layCuts_38 rfl (by rw [ev7, zci_m1]) (by decide) rfl ?_
      refine z_goto (pc := 41) (tgt := 7) dX12_layCuts_41 (by decide) ?_
      exact z_sub [2, 1, 0] rfl (ih v6 v7 T4 h)
set_option maxRecDepth 100000 in
theorem w_X12_layCuts (l : Launch) {x1 : Int32} {x2 : Int32} {S : zS} {S1 : zS} (h : f_X12_layCuts x1 x2 S = some S1) : zMet zLM l yX12_layCuts cX12_layCuts 5 none 1 [.ref 0, .int x1, .int x2] S none S1 := by
  unfold f_X12_layCuts at h
  refine zMet.of (by decide +kernel) (Nat.le_of_ble_eq_true rfl) ?_
  show WA zLM l RX12 cX12_layCuts 5 none 1 none S1 0 [(0, .ref 0), (1, .int x1), (2, .int x2)] [] S
  refine z_iload_n (pc := 0) (q := 1) dX12_layCuts_0 rfl rfl ?_
  refine z_istore_n (pc := 1) (lo' := [(3, .int x1), (0, .ref 0), (1, .int x1), (2, .int x2)]) dX12_layCuts_1 rfl (by decide) rfl ?_
  refine z_iload_n (pc := 2) (q := 3) dX12_layCuts_2 rfl rfl ?_
  refine z_iconst (pc := 3) (v := 1) dX12_layCuts_3 zci_1 ?_
  refine z_isub (pc := 4) dX12_layCuts_4 ?_
  obtain ⟨v1, ev1, h⟩ := zl_some h
  refine z_top ev1 ?_
  refine z_istore (pc := 5) (lo' := [(4, .int v1), (3, .int x1), (0, .ref 0), (1, .int x1), (2, .int x2)]) dX12_layCuts_5 (by decide) rfl ?_
  exact z_sub [2, 1, 0] rfl (w_X12_layCuts_L7 l zN x1 v1 S h)
def f_X12_cutsOf_B24 (K4 : Int32 → Int32 → Int32 → zS → Option (Int32 × zS)) (x1 : Int32) (x3 : Int32) (s0 : Int32) (s1 : Int32) (S : zS) : Option (Int32 × zS) :=
  zb (f_X12_truth s0 S) fun r3 T2 =>
  zlet (s1 + r3) fun v4 =>
  zlet (x3 + 1) fun v5 =>
  K4 x1 v4 v5 T2
def f_X12_cutsOf_L4 : Nat → Int32 → Int32 → Int32 → zS → Option (Int32 × zS)
  | 0, _, _, _, _ => none
  | n + 1, x1, x2, x3, S =>
    if x3 < x1 then
      if zin x3 3 then
      if (S.1 22 x3.toNatClampNeg) < 0 then
        f_X12_cutsOf_B24 (f_X12_cutsOf_L4 n) x1 x3 0 x2 S
      else
        f_X12_cutsOf_B24 (f_X12_cutsOf_L4 n) x1 x3 1 x2 S else none
    else
      some (x2, S)
def f_X12_cutsOf (x1 : Int32) (S : zS) : Option (Int32 × zS) :=
  f_X12_cutsOf_L4 zN x1 0 0 S
set_option maxRecDepth 100000 in
theorem w_X12_cutsOf_B24 (l : Launch) {r : Int32} {S1 : zS} (K4 : Int32 → Int32 → Int32 → zS → Option (Int32 × zS)) (hK4 : ∀ (x1 : Int32) (x2 : Int32) (x3 : Int32) (S : zS), K4 x1 x2 x3 S = some (r, S1) → WA zLM l RX12 cX12_cutsOf 4 (some .int) 2 (some (.int r)) S1 4 [(0, .ref 0), (1, .int x1), (2, .int x2), (3, .int x3)] [] S) (x1 : Int32) (x3 : Int32) (s0 : Int32) (s1 : Int32) (S : zS) (h : f_X12_cutsOf_B24 K4 x1 x3 s0 s1 S = some (r, S1)) : WA zLM l RX12 cX12_cutsOf 4 (some .int) 2 (some (.int r)) S1 24 [(0, .ref 0), (1, .int x1), (3, .int x3)] [.int s0, .int s1] S := by
  unfold f_X12_cutsOf_B24 at h
  obtain ⟨r3, T2, q1, h⟩ := zb_some h
  refine z_callSi (pc := 24) (st := [.int s1]) [.int s0] dX12_cutsOf_24 zm_X12_307 zM_X12_truth (by decide) (w_X12_truth l q1) rfl rfl (Nat.le_of_ble_eq_true rfl) ?_
  refine z_iadd (pc := 27) dX12_cutsOf_27 ?_
  obtain ⟨v4, ev4, h⟩ := zl_some h
  refine z_top ev4 ?_
  refine z_istore_n (pc := 28) (lo' := [(2, .int v4), (0, .ref 0), (1, .int x1), (3, .int x3)]) dX12_cutsOf_28 rfl (by decide) rfl ?_
  obtain ⟨v5, ev5, h⟩ := zl_some h
  refine z_iinc (pc := 29) (q := 3) (v := v5) (lo' := [(3, .int v5), (2, .int v4), (0, .ref 0), (1, .int x1)]) dX12_cutsOf_29 rfl (by rw [ev5, zci_1]) (by decide) rfl ?_
  refine z_goto (pc := 32) (tgt := 4) dX12_cutsOf_32 (by decide) ?_
  exact z_sub [2, 3, 1, 0] rfl (hK4 x1 v4 v5 T2 h)
set_option maxRecDepth 100000 in
theorem w_X12_cutsOf_L4 (l : Launch) {r : Int32} {S1 : zS} : ∀ (n : Nat) (x1 : Int32) (x2 : Int32) (x3 : Int32) (S : zS), f_X12_cutsOf_L4 n x1 x2 x3 S = some (r, S1) → WA zLM l RX12 cX12_cutsOf 4 (some .int) 2 (some (.int r)) S1 4 [(0, .ref 0), (1, .int x1), (2, .int x2), (3, .int x3)] [] S := by
  intro n
  induction n with
  | zero =>
    intro x1 x2 x3 S h
    exact nomatch h
  | succ n ih =>
    intro x1 x2 x3 S h
    rw [f_X12_cutsOf_L4] at h
    refine z_iload_n (pc := 4) (q := 3) dX12_cutsOf_4 rfl rfl ?_
    refine z_iload_n (pc := 5) (q := 1) dX12_cutsOf_5 rfl rfl ?_
    refine z_icmp_ge (pc := 6) (tgt := 35) dX12_cutsOf_6 (by decide) (fun c1 => ?_) (fun c1 => ?_)
    · have h := ze_some c1 h
      refine z_iload_n (pc := 35) (q := 2) dX12_cutsOf_35 rfl rfl ?_
      obtain ⟨rfl, rfl⟩ := zr_some h
      exact z_iret dX12_cutsOf_36
    · have h := zt_some c1 h
      refine z_iload_n (pc := 9) (q := 2) dX12_cutsOf_9 rfl rfl ?_
      refine z_aload_n (pc := 10) (q := 0) dX12_cutsOf_10 rfl rfl ?_
      refine z_getR (pc := 11) dX12_cutsOf_11 zf_X12_85 gM_0_58 ?_
      refine z_iload_n (pc := 14) (q := 3) dX12_cutsOf_14 rfl rfl ?_
      obtain ⟨c2, h⟩ := zg_some h
      refine z_iald (pc := 15) dX12_cutsOf_15 aM_22 c2 ?_
      refine z_if_lt (pc := 16) (tgt := 23) dX12_cutsOf_16 (by decide) (fun c3 => ?_) (fun c3 => ?_)
      · have h := zt_some c3 h
        refine z_iconst (pc := 23) (v := 0) dX12_cutsOf_23 zci_0 ?_
        exact z_sub [0, 1, 3] rfl (w_X12_cutsOf_B24 l (f_X12_cutsOf_L4 n) ih x1 x3 0 x2 S h)
      · have h := ze_some c3 h
        refine z_iconst (pc := 19) (v := 1) dX12_cutsOf_19 zci_1 ?_
        refine z_goto (pc := 20) (tgt := 24) dX12_cutsOf_20 (by decide) ?_
        exact z_sub [0, 1, 3] rfl (w_X12_cutsOf_B24 l (f_X12_cutsOf_L4 n) ih x1 x3 1 x2 S h)
set_option maxRecDepth 100000 in
theorem w_X12_cutsOf (l : Launch) {x1 : Int32} {S : zS} {r : Int32} {S1 : zS} (h : f_X12_cutsOf x1 S = some (r, S1)) : zMet zLM l yX12_cutsOf cX12_cutsOf 4 (some .int) 2 [.ref 0, .int x1] S (some (.int r)) S1 := by
  unfold f_X12_cutsOf at h
  refine zMet.of (by decide +kernel) (Nat.le_of_ble_eq_true rfl) ?_
  show WA zLM l RX12 cX12_cutsOf 4 (some .int) 2 (some (.int r)) S1 0 [(0, .ref 0), (1, .int x1)] [] S
  refine z_iconst (pc := 0) (v := 0) dX12_cutsOf_0 zci_0 ?_
  refine z_istore_n (pc := 1) (lo' := [(2, .int 0), (0, .ref 0), (1, .int x1)]) dX12_cutsOf_1 rfl (by decide) rfl ?_
  refine z_iconst (pc := 2) (v := 0) dX12_cutsOf_2 zci_0 ?_
  refine z_istore_n (pc := 3) (lo' := [(3, .int 0), (2, .int 0), (0, .ref 0), (1, .int x1)]) dX12_cutsOf_3 rfl (by decide) rfl ?_
  exact z_sub [2, 3, 1, 0] rfl (w_X12_cutsOf_L4 l zN x1 0 0 S h)
def f_X12_standBy_B31 (K6 : Int32 → Int32 → Int32 → zS → Option (Int32 × zS)) (x1 : Int32) (x2 : Int32) (x3 : Int32) (S : zS) : Option (Int32 × zS) :=
  zb (f_X12_goYear S) fun r3 T2 =>
  zlet (x3 + 1) fun v4 =>
  K6 x1 x2 v4 T2
def f_X12_standBy_L6 : Nat → Int32 → Int32 → Int32 → zS → Option (Int32 × zS)
  | 0, _, _, _, _ => none
  | n + 1, x1, x2, x3, S =>
    if x3 < x1 then
      if zin x3 3 then
      if (S.1 22 x3.toNatClampNeg) < 0 then
        f_X12_standBy_B31 (f_X12_standBy_L6 n) x1 x2 x3 S
      else
        if zin x3 3 then
        zu (f_X12_trimHere (S.1 22 x3.toNatClampNeg) x2 S) fun T6 =>
        f_X12_standBy_B31 (f_X12_standBy_L6 n) x1 x2 x3 T6 else none else none
    else
      zb (f_X12_standing S) fun r4 T3 =>
      zb (f_X12_members r4 T3) fun r7 T6 =>
      some (r7, T6)
def f_X12_standBy (x1 : Int32) (x2 : Int32) (S : zS) : Option (Int32 × zS) :=
  zu (f_X12_load S) fun T2 =>
  f_X12_standBy_L6 zN x1 x2 0 T2
set_option maxRecDepth 100000 in
theorem w_X12_standBy_B31 (l : Launch) {r : Int32} {S1 : zS} (K6 : Int32 → Int32 → Int32 → zS → Option (Int32 × zS)) (hK6 : ∀ (x1 : Int32) (x2 : Int32) (x3 : Int32) (S : zS), K6 x1 x2 x3 S = some (r, S1) → WA zLM l RX12 cX12_standBy 4 (some .int) 5 (some (.int r)) S1 6 [(0, .ref 0), (1, .int x1), (2, .int x2), (3, .int x3)] [] S) (x1 : Int32) (x2 : Int32) (x3 : Int32) (S : zS) (h : f_X12_standBy_B31 K6 x1 x2 x3 S = some (r, S1)) : WA zLM l RX12 cX12_standBy 4 (some .int) 5 (some (.int r)) S1 31 [(0, .ref 0), (1, .int x1), (2, .int x2), (3, .int x3)] [] S := by
  unfold f_X12_standBy_B31 at h
  refine z_aload_n (pc := 31) (q := 0) dX12_standBy_31 rfl rfl ?_
  obtain ⟨r3, T2, q1, h⟩ := zb_some h
  refine z_callVi (pc := 32) (st := []) [] dX12_standBy_32 zm_X12_506 zM_X12_goYear (by decide) oM_0 rfl (w_X12_goYear l q1) rfl rfl (Nat.le_of_ble_eq_true rfl) ?_
  refine z_pop (pc := 35) dX12_standBy_35 rfl ?_
  obtain ⟨v4, ev4, h⟩ := zl_some h
  refine z_iinc (pc := 36) (q := 3) (v := v4) (lo' := [(3, .int v4), (0, .ref 0), (1, .int x1), (2, .int x2)]) dX12_standBy_36 rfl (by rw [ev4, zci_1]) (by decide) rfl ?_
  refine z_goto (pc := 39) (tgt := 6) dX12_standBy_39 (by decide) ?_
  exact z_sub [1, 2, 3, 0] rfl (hK6 x1 x2 v4 T2 h)
set_option maxRecDepth 100000 in
theorem w_X12_standBy_L6 (l : Launch) {r : Int32} {S1 : zS} : ∀ (n : Nat) (x1 : Int32) (x2 : Int32) (x3 : Int32) (S : zS), f_X12_standBy_L6 n x1 x2 x3 S = some (r, S1) → WA zLM l RX12 cX12_standBy 4 (some .int) 5 (some (.int r)) S1 6 [(0, .ref 0), (1, .int x1), (2, .int x2), (3, .int x3)] [] S := by
  intro n
  induction n with
  | zero =>
    intro x1 x2 x3 S h
    exact nomatch h
  | succ n ih =>
    intro x1 x2 x3 S h
    rw [f_X12_standBy_L6] at h
    refine z_iload_n (pc := 6) (q := 3) dX12_standBy_6 rfl rfl ?_
    refine z_iload_n (pc := 7) (q := 1) dX12_standBy_7 rfl rfl ?_
    refine z_icmp_ge (pc := 8) (tgt := 42) dX12_standBy_8 (by decide) (fun c1 => ?_) (fun c1 => ?_)
    · have h := ze_some c1 h
      refine z_aload_n (pc := 42) (q := 0) dX12_standBy_42 rfl rfl ?_
      obtain ⟨r4, T3, q2, h⟩ := zb_some h
      refine z_callVi (pc := 43) (st := []) [] dX12_standBy_43 zm_X12_441 zM_X12_standing (by decide) oM_0 rfl (w_X12_standing l q2) rfl rfl (Nat.le_of_ble_eq_true rfl) ?_
      obtain ⟨r7, T6, q5, h⟩ := zb_some h
      refine z_callSi (pc := 46) (st := []) [.int r4] dX12_standBy_46 zm_X12_456 zM_X12_members (by decide) (w_X12_members l q5) rfl rfl (Nat.le_of_ble_eq_true rfl) ?_
      obtain ⟨rfl, rfl⟩ := zr_some h
      exact z_iret dX12_standBy_49
    · have h := zt_some c1 h
      refine z_aload_n (pc := 11) (q := 0) dX12_standBy_11 rfl rfl ?_
      refine z_getR (pc := 12) dX12_standBy_12 zf_X12_85 gM_0_58 ?_
      refine z_iload_n (pc := 15) (q := 3) dX12_standBy_15 rfl rfl ?_
      obtain ⟨c2, h⟩ := zg_some h
      refine z_iald (pc := 16) dX12_standBy_16 aM_22 c2 ?_
      refine z_if_lt (pc := 17) (tgt := 31) dX12_standBy_17 (by decide) (fun c3 => ?_) (fun c3 => ?_)
      · have h := zt_some c3 h
        exact w_X12_standBy_B31 l (f_X12_standBy_L6 n) ih x1 x2 x3 S h
      · have h := ze_some c3 h
        refine z_aload_n (pc := 20) (q := 0) dX12_standBy_20 rfl rfl ?_
        refine z_aload_n (pc := 21) (q := 0) dX12_standBy_21 rfl rfl ?_
        refine z_getR (pc := 22) dX12_standBy_22 zf_X12_85 gM_0_58 ?_
        refine z_iload_n (pc := 25) (q := 3) dX12_standBy_25 rfl rfl ?_
        obtain ⟨c4, h⟩ := zg_some h
        refine z_iald (pc := 26) dX12_standBy_26 aM_22 c4 ?_
        refine z_iload_n (pc := 27) (q := 2) dX12_standBy_27 rfl rfl ?_
        obtain ⟨T6, q5, h⟩ := zu_some h
        refine z_callVv (pc := 28) (st := []) [.int (S.1 22 x3.toNatClampNeg), .int x2] dX12_standBy_28 zm_X12_503 zM_X12_trimHere (by decide) oM_0 rfl (w_X12_trimHere l q5) rfl rfl (Nat.le_of_ble_eq_true rfl) ?_
        exact w_X12_standBy_B31 l (f_X12_standBy_L6 n) ih x1 x2 x3 T6 h
set_option maxRecDepth 100000 in
theorem w_X12_standBy (l : Launch) {x1 : Int32} {x2 : Int32} {S : zS} {r : Int32} {S1 : zS} (h : f_X12_standBy x1 x2 S = some (r, S1)) : zMet zLM l yX12_standBy cX12_standBy 4 (some .int) 5 [.ref 0, .int x1, .int x2] S (some (.int r)) S1 := by
  unfold f_X12_standBy at h
  refine zMet.of (by decide +kernel) (Nat.le_of_ble_eq_true rfl) ?_
  show WA zLM l RX12 cX12_standBy 4 (some .int) 5 (some (.int r)) S1 0 [(0, .ref 0), (1, .int x1), (2, .int x2)] [] S
  refine z_aload_n (pc := 0) (q := 0) dX12_standBy_0 rfl rfl ?_
  obtain ⟨T2, q1, h⟩ := zu_some h
  refine z_callVv (pc := 1) (st := []) [] dX12_standBy_1 zm_X12_462 zM_X12_load (by decide) oM_0 rfl (w_X12_load l q1) rfl rfl (Nat.le_of_ble_eq_true rfl) ?_
  refine z_iconst (pc := 4) (v := 0) dX12_standBy_4 zci_0 ?_
  refine z_istore_n (pc := 5) (lo' := [(3, .int 0), (0, .ref 0), (1, .int x1), (2, .int x2)]) dX12_standBy_5 rfl (by decide) rfl ?_
  exact z_sub [1, 2, 3, 0] rfl (w_X12_standBy_L6 l zN x1 x2 0 T2 h)
def f_X12_plan_L123 (K61 : Int32 → Int32 → Int32 → Int32 → Int32 → Int32 → zS → Option (Int32 × zS)) : Nat → Int32 → Int32 → Int32 → Int32 → Int32 → Int32 → Int32 → zS → Option (Int32 × zS)
  | 0, _, _, _, _, _, _, _, _ => none
  | n + 1, x1, x2, x3, x4, x5, x6, x8, S =>
    if x8 < x1 then
      if zin x8 3 then
      if zin x8 3 then
      zlet (zput S 23 x8.toNatClampNeg (S.1 22 x8.toNatClampNeg)) fun T4 =>
      zlet (x8 + 1) fun v5 =>
      (f_X12_plan_L123 K61 n) x1 x2 x3 x4 x5 x6 v5 T4 else none else none
    else
      zlet (x6 + 1) fun v2 =>
      K61 x1 x2 x3 x4 x5 v2 S
def f_X12_plan_B109 (K61 : Int32 → Int32 → Int32 → Int32 → Int32 → Int32 → zS → Option (Int32 × zS)) (x1 : Int32) (x2 : Int32) (x3 : Int32) (x6 : Int32) (x7 : Int32) (S : zS) : Option (Int32 × zS) :=
  zb (f_X12_cutsOf x1 S) fun r3 T2 =>
  f_X12_plan_L123 K61 zN x1 x2 x3 x7 r3 x6 0 T2
def f_X12_plan_L61 : Nat → Int32 → Int32 → Int32 → Int32 → Int32 → Int32 → zS → Option (Int32 × zS)
  | 0, _, _, _, _, _, _, _ => none
  | n + 1, x1, x2, x3, x4, x5, x6, S =>
    if x6 < x3 then
      zu (f_X12_layCuts x6 x1 S) fun T3 =>
      zb (f_X12_standBy x1 x2 T3) fun r6 T5 =>
      if r6 < x4 then
        zlet (x6 + 1) fun v8 =>
        (f_X12_plan_L61 n) x1 x2 x3 x4 x5 v8 T5
      else
        if r6 = x4 then
          zb (f_X12_cutsOf x1 T5) fun r11 T10 =>
          if r11 < x5 then
            f_X12_plan_B109 (f_X12_plan_L61 n) x1 x2 x3 x6 r6 T10
          else
            zlet (x6 + 1) fun v13 =>
            (f_X12_plan_L61 n) x1 x2 x3 x4 x5 v13 T10
        else
          f_X12_plan_B109 (f_X12_plan_L61 n) x1 x2 x3 x6 r6 T5
    else
      zlet (zput S 0 60 x1) fun T2 =>
      some (x4, T2)
def f_X12_plan_L31 : Nat → Int32 → Int32 → Int32 → Int32 → zS → Option (Int32 × zS)
  | 0, _, _, _, _, _ => none
  | n + 1, x1, x2, x3, x4, S =>
    if x4 < x1 then
      zlet (x3 * ((S.1 0 42) + 1)) fun v2 =>
      zlet (x4 + 1) fun v3 =>
      (f_X12_plan_L31 n) x1 x2 v2 v3 S
    else
      f_X12_plan_L61 zN x1 x2 x3 (-1) 0 0 S
def f_X12_plan (x1 : Int32) (x2 : Int32) (S : zS) : Option (Int32 × zS) :=
  zlet (zput S 0 60 0) fun T1 =>
  zb (f_X12_isIn x1 1 3 T1) fun r4 T3 =>
  if r4 = 0 then
    some ((-1), T3)
  else
    zb (f_X12_isIn x2 1 99 T3) fun r8 T7 =>
    if r8 = 0 then
      some ((-1), T7)
    else
      f_X12_plan_L31 zN x1 x2 1 0 T7
set_option maxRecDepth 100000 in
theorem w_X12_plan_L123 (l : Launch) {r : Int32} {S1 : zS} (K61 : Int32 → Int32 → Int32 → Int32 → Int32 → Int32 → zS → Option (Int32 × zS)) (hK61 : ∀ (x1 : Int32) (x2 : Int32) (x3 : Int32) (x4 : Int32) (x5 : Int32) (x6 : Int32) (S : zS), K61 x1 x2 x3 x4 x5 x6 S = some (r, S1) → WA zLM l RX12 cX12_plan 9 (some .int) 6 (some (.int r)) S1 61 [(0, .ref 0), (1, .int x1), (2, .int x2), (3, .int x3), (4, .int x4), (5, .int x5), (6, .int x6)] [] S) : ∀ (n : Nat) (x1 : Int32) (x2 : Int32) (x3 : Int32) (x4 : Int32) (x5 : Int32) (x6 : Int32) (x8 : Int32) (S : zS), f_X12_plan_L123 K61 n x1 x2 x3 x4 x5 x6 x8 S = some (r, S1) → WA zLM l RX12 cX12_plan 9 (some .int) 6 (some (.int r)) S1 123 [(0, .ref 0), (1, .int x1), (2, .int x2), (3, .int x3), (4, .int x4), (5, .int x5), (6, .int x6), (8, .int x8)] [] S := by
  intro n
  induction n with
  | zero =>
    intro x1 x2 x3 x4 x5 x6 x8 S h
    exact nomatch h
  | succ n ih =>
    intro x1 x2 x3 x4 x5 x6 x8 S h
    rw [f_X12_plan_L123] at h
    refine z_iload (pc := 123) (q := 7) dX12_plan_123 rfl ?_
    refine z_iload_n (pc := 125) (q := 1) dX12_plan_125 rfl rfl ?_
    refine z_icmp_ge (pc := 126) (tgt := 149) dX12_plan_126 (by decide) (fun c1 => ?_) (fun c1 => ?_)
    · have h := ze_some c1 h
      obtain ⟨v2, ev2, h⟩ := zl_some h
      refine z_iinc (pc := 149) (q := 6) (v := v2) (lo' := [(6, .int v2), (0, .ref 0), (1, .int x1), (2, .int x2), (3, .int x3), (4, .int x4), (5, .int x5), (8, .int x8)]) dX12_plan_149 rfl (by rw [ev2, zci_1]) (by decide) rfl ?_
      refine z_goto (pc := 152) (tgt := 61) dX12_plan_152 (by decide) ?_
      exact z_sub [1, 2, 3, 4, 5, 6, 0] rfl (hK61 x1 x2 x3 x4 x5 v2 S h)
    · have h := zt_some c1 h
      refine z_aload_n (pc := 129) (q := 0) dX12_plan_129 rfl rfl ?_
      refine z_getR (pc := 130) dX12_plan_130 zf_X12_88 gM_0_59 ?_
      refine z_iload (pc := 133) (q := 7) dX12_plan_133 rfl ?_
      refine z_aload_n (pc := 135) (q := 0) dX12_plan_135 rfl rfl ?_
      refine z_getR (pc := 136) dX12_plan_136 zf_X12_85 gM_0_58 ?_
      refine z_iload (pc := 139) (q := 7) dX12_plan_139 rfl ?_
      obtain ⟨c2, h⟩ := zg_some h
      refine z_iald (pc := 141) dX12_plan_141 aM_22 c2 ?_
      obtain ⟨c3, h⟩ := zg_some h
      obtain ⟨T4, eT4, h⟩ := zl_some h
      refine z_iast (pc := 142) dX12_plan_142 aM_23 c3 eT4 ?_
      obtain ⟨v5, ev5, h⟩ := zl_some h
      refine z_iinc (pc := 143) (q := 7) (v := v5) (lo' := [(8, .int v5), (0, .ref 0), (1, .int x1), (2, .int x2), (3, .int x3), (4, .int x4), (5, .int x5), (6, .int x6)]) dX12_plan_143 rfl (by rw [ev5, zci_1]) (by decide) rfl ?_
      refine z_goto (pc := 146) (tgt := 123) dX12_plan_146 (by decide) ?_
      exact z_sub [1, 2, 3, 4, 5, 6, 7, 0] rfl (ih x1 x2 x3 x4 x5 x6 v5 T4 h)
set_option maxRecDepth 100000 in
theorem w_X12_plan_B109 (l : Launch) {r : Int32} {S1 : zS} (K61 : Int32 → Int32 → Int32 → Int32 → Int32 → Int32 → zS → Option (Int32 × zS)) (hK61 : ∀ (x1 : Int32) (x2 : Int32) (x3 : Int32) (x4 : Int32) (x5 : Int32) (x6 : Int32) (S : zS), K61 x1 x2 x3 x4 x5 x6 S = some (r, S1) → WA zLM l RX12 cX12_plan 9 (some .int) 6 (some (.int r)) S1 61 [(0, .ref 0), (1, .int x1), (2, .int x2), (3, .int x3), (4, .int x4), (5, .int x5), (6, .int x6)] [] S) (x1 : Int32) (x2 : Int32) (x3 : Int32) (x6 : Int32) (x7 : Int32) (S : zS) (h : f_X12_plan_B109 K61 x1 x2 x3 x6 x7 S = some (r, S1)) : WA zLM l RX12 cX12_plan 9 (some .int) 6 (some (.int r)) S1 109 [(0, .ref 0), (1, .int x1), (2, .int x2), (3, .int x3), (6, .int x6), (7, .int x7)] [] S := by
  unfold f_X12_plan_B109 at h
  refine z_iload (pc := 109) (q := 5) dX12_plan_109 rfl ?_
  refine z_istore (pc := 111) (lo' := [(4, .int x7), (0, .ref 0), (1, .int x1), (2, .int x2), (3, .int x3), (6, .int x6), (7, .int x7)]) dX12_plan_111 (by decide) rfl ?_
  refine z_aload_n (pc := 113) (q := 1) dX12_plan_113 rfl rfl ?_
  refine z_iload_n (pc := 114) (q := 2) dX12_plan_114 rfl rfl ?_
  obtain ⟨r3, T2, q1, h⟩ := zb_some h
  refine z_callVi (pc := 115) (st := []) [.int x1] dX12_plan_115 zm_X12_536 zM_X12_cutsOf (by decide) oM_0 rfl (w_X12_cutsOf l q1) rfl rfl (Nat.le_of_ble_eq_true rfl) ?_
  refine z_istore (pc := 118) (lo' := [(5, .int r3), (4, .int x7), (0, .ref 0), (1, .int x1), (2, .int x2), (3, .int x3), (6, .int x6), (7, .int x7)]) dX12_plan_118 (by decide) rfl ?_
  refine z_iconst (pc := 120) (v := 0) dX12_plan_120 zci_0 ?_
  refine z_istore (pc := 121) (lo' := [(8, .int 0), (5, .int r3), (4, .int x7), (0, .ref 0), (1, .int x1), (2, .int x2), (3, .int x3), (6, .int x6), (7, .int x7)]) dX12_plan_121 (by decide) rfl ?_
  exact z_sub [3, 4, 5, 6, 2, 1, 7, 0] rfl (w_X12_plan_L123 l K61 hK61 zN x1 x2 x3 x7 r3 x6 0 T2 h)
set_option maxRecDepth 100000 in
theorem w_X12_plan_L61 (l : Launch) {r : Int32} {S1 : zS} : ∀ (n : Nat) (x1 : Int32) (x2 : Int32) (x3 : Int32) (x4 : Int32) (x5 : Int32) (x6 : Int32) (S : zS), f_X12_plan_L61 n x1 x2 x3 x4 x5 x6 S = some (r, S1) → WA zLM l RX12 cX12_plan 9 (some .int) 6 (some (.int r)) S1 61 [(0, .ref 0), (1, .int x1), (2, .int x2), (3, .int x3), (4, .int x4), (5, .int x5), (6, .int x6)] [] S := by
  intro n
  induction n with
  | zero =>
    intro x1 x2 x3 x4 x5 x6 S h
    exact nomatch h
  | succ n ih =>
    intro x1 x2 x3 x4 x5 x6 S h
    rw [f_X12_plan_L61] at h
    refine z_iload (pc := 61) (q := 6) dX12_plan_61 rfl ?_
    refine z_iload_n (pc := 63) (q := 3) dX12_plan_63 rfl rfl ?_
    refine z_icmp_ge (pc := 64) (tgt := 155) dX12_plan_64 (by decide) (fun c1 => ?_) (fun c1 => ?_)
    · have h := ze_some c1 h
      refine z_aload_n (pc := 155) (q := 0) dX12_plan_155 rfl rfl ?_
      refine z_iload_n (pc := 156) (q := 1) dX12_plan_156 rfl rfl ?_
      obtain ⟨T2, eT2, h⟩ := zl_some h
      refine z_putI (pc := 157) dX12_plan_157 zp_X12_419 gM_0_60 rfl rfl eT2 ?_
      refine z_iload (pc := 160) (q := 4) dX12_plan_160 rfl ?_
      obtain ⟨rfl, rfl⟩ := zr_some h
      exact z_iret dX12_plan_162
    · have h := zt_some c1 h
      refine z_aload_n (pc := 67) (q := 0) dX12_plan_67 rfl rfl ?_
      refine z_iload (pc := 68) (q := 6) dX12_plan_68 rfl ?_
      refine z_iload_n (pc := 70) (q := 1) dX12_plan_70 rfl rfl ?_
      obtain ⟨T3, q2, h⟩ := zu_some h
      refine z_callVv (pc := 71) (st := []) [.int x6, .int x1] dX12_plan_71 zm_X12_530 zM_X12_layCuts (by decide) oM_0 rfl (w_X12_layCuts l q2) rfl rfl (Nat.le_of_ble_eq_true rfl) ?_
      refine z_aload_n (pc := 74) (q := 0) dX12_plan_74 rfl rfl ?_
      refine z_iload_n (pc := 75) (q := 1) dX12_plan_75 rfl rfl ?_
      refine z_iload_n (pc := 76) (q := 2) dX12_plan_76 rfl rfl ?_
      obtain ⟨r6, T5, q4, h⟩ := zb_some h
      refine z_callVi (pc := 77) (st := []) [.int x1, .int x2] dX12_plan_77 zm_X12_533 zM_X12_standBy (by decide) oM_0 rfl (w_X12_standBy l q4) rfl rfl (Nat.le_of_ble_eq_true rfl) ?_
      refine z_istore (pc := 80) (lo' := [(7, .int r6), (0, .ref 0), (1, .int x1), (2, .int x2), (3, .int x3), (4, .int x4), (5, .int x5), (6, .int x6)]) dX12_plan_80 (by decide) rfl ?_
      refine z_iload (pc := 82) (q := 0) dX12_plan_82 rfl ?_
      refine z_iload (pc := 84) (q := 5) dX12_plan_84 rfl ?_
      refine z_icmp_lt (pc := 86) (tgt := 149) dX12_plan_86 (by decide) (fun c7 => ?_) (fun c7 => ?_)
      · have h := zt_some c7 h
        obtain ⟨v8, ev8, h⟩ := zl_some h
        refine z_iinc (pc := 149) (q := 7) (v := v8) (lo' := [(6, .int v8), (7, .int r6), (0, .ref 0), (1, .int x1), (2, .int x2), (3, .int x3), (4, .int x4), (5, .int x5)]) dX12_plan_149 rfl (by rw [ev8, zci_1]) (by decide) rfl ?_
        refine z_goto (pc := 152) (tgt := 61) dX12_plan_152 (by decide) ?_
        exact z_sub [2, 3, 4, 5, 6, 7, 0] rfl (ih x1 x2 x3 x4 x5 v8 T5 h)
      · have h := ze_some c7 h
        refine z_iload (pc := 89) (q := 0) dX12_plan_89 rfl ?_
        refine z_iload (pc := 91) (q := 5) dX12_plan_91 rfl ?_
        refine z_icmp_ne (pc := 93) (tgt := 109) dX12_plan_93 (by decide) (fun c8 => ?_) (fun c8 => ?_)
        · have h := ze_some c8 h
          exact z_sub [1, 2, 3, 4, 7, 0] rfl (w_X12_plan_B109 l (f_X12_plan_L61 n) ih x1 x2 x3 x6 r6 T5 h)
        · have h := zt_some c8 h
          refine z_aload_n (pc := 96) (q := 1) dX12_plan_96 rfl rfl ?_
          refine z_iload_n (pc := 97) (q := 2) dX12_plan_97 rfl rfl ?_
          obtain ⟨r11, T10, q9, h⟩ := zb_some h
          refine z_callVi (pc := 98) (st := []) [.int x1] dX12_plan_98 zm_X12_536 zM_X12_cutsOf (by decide) oM_0 rfl (w_X12_cutsOf l q9) rfl rfl (Nat.le_of_ble_eq_true rfl) ?_
          refine z_iload (pc := 101) (q := 6) dX12_plan_101 rfl ?_
          refine z_icmp_lt (pc := 103) (tgt := 109) dX12_plan_103 (by decide) (fun c12 => ?_) (fun c12 => ?_)
          · have h := zt_some c12 h
            exact z_sub [1, 2, 3, 4, 7, 0] rfl (w_X12_plan_B109 l (f_X12_plan_L61 n) ih x1 x2 x3 x6 r6 T10 h)
          · have h := ze_some c12 h
            refine z_goto (pc := 106) (tgt := 149) dX12_plan_106 (by decide) ?_
            obtain ⟨v13, ev13, h⟩ := zl_some h
            refine z_iinc (pc := 149) (q := 7) (v := v13) (lo' := [(6, .int v13), (7, .int r6), (0, .ref 0), (1, .int x1), (2, .int x2), (3, .int x3), (4, .int x4), (5, .int x5)]) dX12_plan_149 rfl (by rw [ev13, zci_1]) (by decide) rfl ?_
            refine z_goto (pc := 152) (tgt := 61) dX12_plan_152 (by decide) ?_
            exact z_sub [2, 3, 4, 5, 6, 7, 0] rfl (ih x1 x2 x3 x4 x5 v13 T10 h)
set_option maxRecDepth 100000 in
theorem w_X12_plan_L31 (l : Launch) {r : Int32} {S1 : zS} : ∀ (n : Nat) (x1 : Int32) (x2 : Int32) (x3 : Int32) (x4 : Int32) (S : zS), f_X12_plan_L31 n x1 x2 x3 x4 S = some (r, S1) → WA zLM l RX12 cX12_plan 9 (some .int) 6 (some (.int r)) S1 31 [(0, .ref 0), (1, .int x1), (2, .int x2), (3, .int x3), (4, .int x4)] [] S := by
  intro n
  induction n with
  | zero =>
    intro x1 x2 x3 x4 S h
    exact nomatch h
  | succ n ih =>
    intro x1 x2 x3 x4 S h
    rw [f_X12_plan_L31] at h
    refine z_iload (pc := 31) (q := 4) dX12_plan_31 rfl ?_
    refine z_iload_n (pc := 33) (q := 1) dX12_plan_33 rfl rfl ?_
    refine z_icmp_ge (pc := 34) (tgt := 52) dX12_plan_34 (by decide) (fun c1 => ?_) (fun c1 => ?_)
    · have h := ze_some c1 h
      refine z_iconst (pc := 52) (v := (-1)) dX12_plan_52 zci_m1 ?_
      refine z_istore (pc := 53) (lo' := [(4, .int (-1)), (0, .ref 0), (1, .int x1), (2, .int x2), (3, .int x3)]) dX12_plan_53 (by decide) rfl ?_
      refine z_iconst (pc := 55) (v := 0) dX12_plan_55 zci_0 ?_
      refine z_istore (pc := 56) (lo' := [(5, .int 0), (4, .int (-1)), (0, .ref 0), (1, .int x1), (2, .int x2), (3, .int x3)]) dX12_plan_56 (by decide) rfl ?_
      refine z_iconst (pc := 58) (v := 0) dX12_plan_58 zci_0 ?_
      refine z_istore (pc := 59) (lo' := [(6, .int 0), (5, .int 0), (4, .int (-1)), (0, .ref 0), (1, .int x1), (2, .int x2), (3, .int x3)]) dX12_plan_59 (by decide) rfl ?_
      exact z_sub [3, 4, 5, 6, 2, 1, 0] rfl (w_X12_plan_L61 l zN x1 x2 x3 (-1) 0 0 S h)
    · have h := zt_some c1 h
      refine z_iload_n (pc := 37) (q := 3) dX12_plan_37 rfl rfl ?_
      refine z_aload_n (pc := 38) (q := 0) dX12_plan_38 rfl rfl ?_
      refine z_getI (pc := 39) dX12_plan_39 zf_X12_70 gM_0_42 ?_
      refine z_iconst (pc := 42) (v := 1) dX12_plan_42 zci_1 ?_
      refine z_iadd (pc := 43) dX12_plan_43 ?_
      refine z_imul (pc := 44) dX12_plan_44 ?_
      obtain ⟨v2, ev2, h⟩ := zl_some h
      refine z_top ev2 ?_
      refine z_istore_n (pc := 45) (lo' := [(3, .int v2), (0, .ref 0), (1, .int x1), (2, .int x2), (4, .int x4)]) dX12_plan_45 rfl (by decide) rfl ?_
      obtain ⟨v3, ev3, h⟩ := zl_some h
      refine z_iinc (pc := 46) (q := 4) (v := v3) (lo' := [(4, .int v3), (3, .int v2), (0, .ref 0), (1, .int x1), (2, .int x2)]) dX12_plan_46 rfl (by rw [ev3, zci_1]) (by decide) rfl ?_
      refine z_goto (pc := 49) (tgt := 31) dX12_plan_49 (by decide) ?_
      exact z_sub [2, 3, 4, 1, 0] rfl (ih x1 x2 v2 v3 S h)
set_option maxRecDepth 100000 in
theorem w_X12_plan (l : Launch) {x1 : Int32} {x2 : Int32} {S : zS} {r : Int32} {S1 : zS} (h : f_X12_plan x1 x2 S = some (r, S1)) : zMet zLM l yX12_plan cX12_plan 9 (some .int) 6 [.ref 0, .int x1, .int x2] S (some (.int r)) S1 := by
  unfold f_X12_plan at h
  refine zMet.of (by decide +kernel) (Nat.le_of_ble_eq_true rfl) ?_
  show WA zLM l RX12 cX12_plan 9 (some .int) 6 (some (.int r)) S1 0 [(0, .ref 0), (1, .int x1), (2, .int x2)] [] S
  refine z_aload_n (pc := 0) (q := 0) dX12_plan_0 rfl rfl ?_
  refine z_iconst (pc := 1) (v := 0) dX12_plan_1 zci_0 ?_
  obtain ⟨T1, eT1, h⟩ := zl_some h
  refine z_putI (pc := 2) dX12_plan_2 zp_X12_419 gM_0_60 rfl rfl eT1 ?_
  refine z_iload_n (pc := 5) (q := 1) dX12_plan_5 rfl rfl ?_
  refine z_iconst (pc := 6) (v := 1) dX12_plan_6 zci_1 ?_
  refine z_iconst (pc := 7) (v := 3) dX12_plan_7 zci_3 ?_
  obtain ⟨r4, T3, q2, h⟩ := zb_some h
  refine z_callSi (pc := 8) (st := []) [.int x1, .int 1, .int 3] dX12_plan_8 zm_X12_422 zM_X12_isIn (by decide) (w_X12_isIn l q2) rfl rfl (Nat.le_of_ble_eq_true rfl) ?_
  refine z_if_eq (pc := 11) (tgt := 24) dX12_plan_11 (by decide) (fun c5 => ?_) (fun c5 => ?_)
  · have h := zt_some c5 h
    refine z_iconst (pc := 24) (v := (-1)) dX12_plan_24 zci_m1 ?_
    obtain ⟨rfl, rfl⟩ := zr_some h
    exact z_iret dX12_plan_25
  · have h := ze_some c5 h
    refine z_iload_n (pc := 14) (q := 2) dX12_plan_14 rfl rfl ?_
    refine z_iconst (pc := 15) (v := 1) dX12_plan_15 zci_1 ?_
    refine z_bipush (pc := 16) (v := 99) dX12_plan_16 zcb_99 ?_
    obtain ⟨r8, T7, q6, h⟩ := zb_some h
    refine z_callSi (pc := 18) (st := []) [.int x2, .int 1, .int 99] dX12_plan_18 zm_X12_422 zM_X12_isIn (by decide) (w_X12_isIn l q6) rfl rfl (Nat.le_of_ble_eq_true rfl) ?_
    refine z_if_ne (pc := 21) (tgt := 26) dX12_plan_21 (by decide) (fun c9 => ?_) (fun c9 => ?_)
    · have h := ze_some c9 h
      refine z_iconst (pc := 26) (v := 1) dX12_plan_26 zci_1 ?_
      refine z_istore_n (pc := 27) (lo' := [(3, .int 1), (0, .ref 0), (1, .int x1), (2, .int x2)]) dX12_plan_27 rfl (by decide) rfl ?_
      refine z_iconst (pc := 28) (v := 0) dX12_plan_28 zci_0 ?_
      refine z_istore (pc := 29) (lo' := [(4, .int 0), (3, .int 1), (0, .ref 0), (1, .int x1), (2, .int x2)]) dX12_plan_29 (by decide) rfl ?_
      exact z_sub [2, 3, 4, 1, 0] rfl (w_X12_plan_L31 l zN x1 x2 1 0 T7 h)
    · have h := zt_some c9 h
      refine z_iconst (pc := 24) (v := (-1)) dX12_plan_24 zci_m1 ?_
      obtain ⟨rfl, rfl⟩ := zr_some h
      exact z_iret dX12_plan_25
def f_X12_joyOf_L4 : Nat → Int32 → Int32 → Int32 → zS → Option (Int32 × zS)
  | 0, _, _, _, _ => none
  | n + 1, x1, x2, x3, S =>
    if x3 < (S.1 0 44) then
      if zin ((4 * x1) + x3) 12 then
      if (S.1 15 ((4 * x1) + x3).toNatClampNeg) = 0 then
        zlet (x2 - 0) fun v4 =>
        zlet (x3 + 1) fun v5 =>
        (f_X12_joyOf_L4 n) x1 v4 v5 S
      else
        if zin ((4 * x1) + x3) 12 then
        zb (f_X12_lawOf x3 S) fun r7 T6 =>
        if zin ((4 * x1) + x3) 12 then
        zb (f_X12_apart r7 (T6.1 14 ((4 * x1) + x3).toNatClampNeg) T6) fun r11 T10 =>
        zlet (x2 - ((S.1 15 ((4 * x1) + x3).toNatClampNeg) * r11)) fun v12 =>
        zlet (x3 + 1) fun v13 =>
        (f_X12_joyOf_L4 n) x1 v12 v13 T10 else none else none else none
    else
      some (x2, S)
def f_X12_joyOf (x1 : Int32) (S : zS) : Option (Int32 × zS) :=
  f_X12_joyOf_L4 zN x1 0 0 S
set_option maxRecDepth 100000 in
theorem w_X12_joyOf_L4 (l : Launch) {r : Int32} {S1 : zS} : ∀ (n : Nat) (x1 : Int32) (x2 : Int32) (x3 : Int32) (S : zS), f_X12_joyOf_L4 n x1 x2 x3 S = some (r, S1) → WA zLM l RX12 cX12_joyOf 4 (some .int) 6 (some (.int r)) S1 4 [(0, .ref 0), (1, .int x1), (2, .int x2), (3, .int x3)] [] S := by
  intro n
  induction n with
  | zero =>
    intro x1 x2 x3 S h
    exact nomatch h
  | succ n ih =>
    intro x1 x2 x3 S h
    rw [f_X12_joyOf_L4] at h
    refine z_iload_n (pc := 4) (q := 3) dX12_joyOf_4 rfl rfl ?_
    refine z_aload_n (pc := 5) (q := 0) dX12_joyOf_5 rfl rfl ?_
    refine z_getI (pc := 6) dX12_joyOf_6 zf_X12_398 gM_0_44 ?_
    refine z_icmp_ge (pc := 9) (tgt := 67) dX12_joyOf_9 (by decide) (fun c1 => ?_) (fun c1 => ?_)
    · have h := ze_some c1 h
      refine z_iload_n (pc := 67) (q := 2) dX12_joyOf_67 rfl rfl ?_
      obtain ⟨rfl, rfl⟩ := zr_some h
      exact z_iret dX12_joyOf_68
    · have h := zt_some c1 h
      refine z_iload_n (pc := 12) (q := 2) dX12_joyOf_12 rfl rfl ?_
      refine z_aload_n (pc := 13) (q := 0) dX12_joyOf_13 rfl rfl ?_
      refine z_getR (pc := 14) dX12_joyOf_14 zf_X12_57 gM_0_30 ?_
      refine z_iconst (pc := 17) (v := 4) dX12_joyOf_17 zci_4 ?_
      refine z_iload_n (pc := 18) (q := 1) dX12_joyOf_18 rfl rfl ?_
      refine z_imul (pc := 19) dX12_joyOf_19 ?_
      refine z_iload_n (pc := 20) (q := 3) dX12_joyOf_20 rfl rfl ?_
      refine z_iadd (pc := 21) dX12_joyOf_21 ?_
      obtain ⟨c2, h⟩ := zg_some h
      refine z_iald (pc := 22) dX12_joyOf_22 aM_15 c2 ?_
      refine z_if_ne (pc := 23) (tgt := 30) dX12_joyOf_23 (by decide) (fun c3 => ?_) (fun c3 => ?_)
      · have h := ze_some c3 h
        refine z_aload_n (pc := 30) (q := 0) dX12_joyOf_30 rfl rfl ?_
        refine z_getR (pc := 31) dX12_joyOf_31 zf_X12_57 gM_0_30 ?_
        refine z_iconst (pc := 34) (v := 4) dX12_joyOf_34 zci_4 ?_
        refine z_iload_n (pc := 35) (q := 1) dX12_joyOf_35 rfl rfl ?_
        refine z_imul (pc := 36) dX12_joyOf_36 ?_
        refine z_iload_n (pc := 37) (q := 3) dX12_joyOf_37 rfl rfl ?_
        refine z_iadd (pc := 38) dX12_joyOf_38 ?_
        obtain ⟨c4, h⟩ := zg_some h
        refine z_iald (pc := 39) dX12_joyOf_39 aM_15 c4 ?_
        refine z_aload_n (pc := 40) (q := 0) dX12_joyOf_40 rfl rfl ?_
        refine z_iload_n (pc := 41) (q := 3) dX12_joyOf_41 rfl rfl ?_
        obtain ⟨r7, T6, q5, h⟩ := zb_some h
        refine z_callVi (pc := 42) (st := [.int (S.1 15 ((4 * x1) + x3).toNatClampNeg), .int x2]) [.int x3] dX12_joyOf_42 zm_X12_474 zM_X12_lawOf (by decide) oM_0 rfl (w_X12_lawOf l q5) rfl rfl (Nat.le_of_ble_eq_true rfl) ?_
        refine z_aload_n (pc := 45) (q := 0) dX12_joyOf_45 rfl rfl ?_
        refine z_getR (pc := 46) dX12_joyOf_46 zf_X12_54 gM_0_29 ?_
        refine z_iconst (pc := 49) (v := 4) dX12_joyOf_49 zci_4 ?_
        refine z_iload_n (pc := 50) (q := 1) dX12_joyOf_50 rfl rfl ?_
        refine z_imul (pc := 51) dX12_joyOf_51 ?_
        refine z_iload_n (pc := 52) (q := 3) dX12_joyOf_52 rfl rfl ?_
        refine z_iadd (pc := 53) dX12_joyOf_53 ?_
        obtain ⟨c8, h⟩ := zg_some h
        refine z_iald (pc := 54) dX12_joyOf_54 aM_14 c8 ?_
        obtain ⟨r11, T10, q9, h⟩ := zb_some h
        refine z_callSi (pc := 55) (st := [.int (S.1 15 ((4 * x1) + x3).toNatClampNeg), .int x2]) [.int r7, .int (T6.1 14 ((4 * x1) + x3).toNatClampNeg)] dX12_joyOf_55 zm_X12_444 zM_X12_apart (by decide) (w_X12_apart l q9) rfl rfl (Nat.le_of_ble_eq_true rfl) ?_
        refine z_imul (pc := 58) dX12_joyOf_58 ?_
        refine z_isub (pc := 59) dX12_joyOf_59 ?_
        obtain ⟨v12, ev12, h⟩ := zl_some h
        refine z_top ev12 ?_
        refine z_istore_n (pc := 60) (lo' := [(2, .int v12), (0, .ref 0), (1, .int x1), (3, .int x3)]) dX12_joyOf_60 rfl (by decide) rfl ?_
        obtain ⟨v13, ev13, h⟩ := zl_some h
        refine z_iinc (pc := 61) (q := 3) (v := v13) (lo' := [(3, .int v13), (2, .int v12), (0, .ref 0), (1, .int x1)]) dX12_joyOf_61 rfl (by rw [ev13, zci_1]) (by decide) rfl ?_
        refine z_goto (pc := 64) (tgt := 4) dX12_joyOf_64 (by decide) ?_
        exact z_sub [2, 3, 1, 0] rfl (ih x1 v12 v13 T10 h)
      · have h := zt_some c3 h
        refine z_iconst (pc := 26) (v := 0) dX12_joyOf_26 zci_0 ?_
        refine z_goto (pc := 27) (tgt := 59) dX12_joyOf_27 (by decide) ?_
        refine z_isub (pc := 59) dX12_joyOf_59 ?_
        obtain ⟨v4, ev4, h⟩ := zl_some h
        refine z_top ev4 ?_
        refine z_istore_n (pc := 60) (lo' := [(2, .int v4), (0, .ref 0), (1, .int x1), (3, .int x3)]) dX12_joyOf_60 rfl (by decide) rfl ?_
        obtain ⟨v5, ev5, h⟩ := zl_some h
        refine z_iinc (pc := 61) (q := 3) (v := v5) (lo' := [(3, .int v5), (2, .int v4), (0, .ref 0), (1, .int x1)]) dX12_joyOf_61 rfl (by rw [ev5, zci_1]) (by decide) rfl ?_
        refine z_goto (pc := 64) (tgt := 4) dX12_joyOf_64 (by decide) ?_
        exact z_sub [2, 3, 1, 0] rfl (ih x1 v4 v5 S h)
set_option maxRecDepth 100000 in
theorem w_X12_joyOf (l : Launch) {x1 : Int32} {S : zS} {r : Int32} {S1 : zS} (h : f_X12_joyOf x1 S = some (r, S1)) : zMet zLM l yX12_joyOf cX12_joyOf 4 (some .int) 6 [.ref 0, .int x1] S (some (.int r)) S1 := by
  unfold f_X12_joyOf at h
  refine zMet.of (by decide +kernel) (Nat.le_of_ble_eq_true rfl) ?_
  show WA zLM l RX12 cX12_joyOf 4 (some .int) 6 (some (.int r)) S1 0 [(0, .ref 0), (1, .int x1)] [] S
  refine z_iconst (pc := 0) (v := 0) dX12_joyOf_0 zci_0 ?_
  refine z_istore_n (pc := 1) (lo' := [(2, .int 0), (0, .ref 0), (1, .int x1)]) dX12_joyOf_1 rfl (by decide) rfl ?_
  refine z_iconst (pc := 2) (v := 0) dX12_joyOf_2 zci_0 ?_
  refine z_istore_n (pc := 3) (lo' := [(3, .int 0), (2, .int 0), (0, .ref 0), (1, .int x1)]) dX12_joyOf_3 rfl (by decide) rfl ?_
  exact z_sub [2, 3, 1, 0] rfl (w_X12_joyOf_L4 l zN x1 0 0 S h)
def f_X12_isParty (x1 : Int32) (S : zS) : Option (Int32 × zS) :=
  zb (f_X12_isIn x1 0 ((S.1 0 45) - 1) S) fun r3 T2 =>
  if znb r3 then some (r3, T2) else none
set_option maxRecDepth 100000 in
theorem w_X12_isParty (l : Launch) {x1 : Int32} {S : zS} {r : Int32} {S1 : zS} (h : f_X12_isParty x1 S = some (r, S1)) : zMet zLM l yX12_isParty cX12_isParty 2 (some .boolean) 2 [.ref 0, .int x1] S (some (.int r)) S1 := by
  unfold f_X12_isParty at h
  refine zMet.of (by decide +kernel) (Nat.le_of_ble_eq_true rfl) ?_
  show WA zLM l RX12 cX12_isParty 2 (some .boolean) 2 (some (.int r)) S1 0 [(0, .ref 0), (1, .int x1)] [] S
  refine z_iload_n (pc := 0) (q := 1) dX12_isParty_0 rfl rfl ?_
  refine z_iconst (pc := 1) (v := 0) dX12_isParty_1 zci_0 ?_
  refine z_aload_n (pc := 2) (q := 0) dX12_isParty_2 rfl rfl ?_
  refine z_getI (pc := 3) dX12_isParty_3 zf_X12_401 gM_0_45 ?_
  refine z_iconst (pc := 6) (v := 1) dX12_isParty_6 zci_1 ?_
  refine z_isub (pc := 7) dX12_isParty_7 ?_
  obtain ⟨r3, T2, q1, h⟩ := zb_some h
  refine z_callSi (pc := 8) (st := []) [.int x1, .int 0, .int ((S.1 0 45) - 1)] dX12_isParty_8 zm_X12_422 zM_X12_isIn (by decide) (w_X12_isIn l q1) rfl rfl (Nat.le_of_ble_eq_true rfl) ?_
  obtain ⟨c4, h⟩ := zg_some h
  obtain ⟨rfl, rfl⟩ := zr_some h
  exact z_zret dX12_isParty_11 (znb_n c4)
def f_X12_joy (x1 : Int32) (S : zS) : Option (Int32 × zS) :=
  zu (f_X12_load S) fun T2 =>
  zb (f_X12_isParty x1 T2) fun r5 T4 =>
  if r5 = 0 then
    some (1, T4)
  else
    zb (f_X12_joyOf x1 T4) fun r9 T8 =>
    some (r9, T8)
set_option maxRecDepth 100000 in
theorem w_X12_joy (l : Launch) {x1 : Int32} {S : zS} {r : Int32} {S1 : zS} (h : f_X12_joy x1 S = some (r, S1)) : zMet zLM l yX12_joy cX12_joy 2 (some .int) 7 [.ref 0, .int x1] S (some (.int r)) S1 := by
  unfold f_X12_joy at h
  refine zMet.of (by decide +kernel) (Nat.le_of_ble_eq_true rfl) ?_
  show WA zLM l RX12 cX12_joy 2 (some .int) 7 (some (.int r)) S1 0 [(0, .ref 0), (1, .int x1)] [] S
  refine z_aload_n (pc := 0) (q := 0) dX12_joy_0 rfl rfl ?_
  obtain ⟨T2, q1, h⟩ := zu_some h
  refine z_callVv (pc := 1) (st := []) [] dX12_joy_1 zm_X12_462 zM_X12_load (by decide) oM_0 rfl (w_X12_load l q1) rfl rfl (Nat.le_of_ble_eq_true rfl) ?_
  refine z_aload_n (pc := 4) (q := 0) dX12_joy_4 rfl rfl ?_
  refine z_iload_n (pc := 5) (q := 1) dX12_joy_5 rfl rfl ?_
  obtain ⟨r5, T4, q3, h⟩ := zb_some h
  refine z_callVi (pc := 6) (st := []) [.int x1] dX12_joy_6 zm_X12_539 zM_X12_isParty (by decide) oM_0 rfl (w_X12_isParty l q3) rfl rfl (Nat.le_of_ble_eq_true rfl) ?_
  refine z_if_eq (pc := 9) (tgt := 20) dX12_joy_9 (by decide) (fun c6 => ?_) (fun c6 => ?_)
  · have h := zt_some c6 h
    refine z_iconst (pc := 20) (v := 1) dX12_joy_20 zci_1 ?_
    obtain ⟨rfl, rfl⟩ := zr_some h
    exact z_iret dX12_joy_21
  · have h := ze_some c6 h
    refine z_aload_n (pc := 12) (q := 0) dX12_joy_12 rfl rfl ?_
    refine z_iload_n (pc := 13) (q := 1) dX12_joy_13 rfl rfl ?_
    obtain ⟨r9, T8, q7, h⟩ := zb_some h
    refine z_callVi (pc := 14) (st := []) [.int x1] dX12_joy_14 zm_X12_542 zM_X12_joyOf (by decide) oM_0 rfl (w_X12_joyOf l q7) rfl rfl (Nat.le_of_ble_eq_true rfl) ?_
    refine z_goto (pc := 17) (tgt := 21) dX12_joy_17 (by decide) ?_
    obtain ⟨rfl, rfl⟩ := zr_some h
    exact z_iret dX12_joy_21
def f_X12_saddest_L8 : Nat → Int32 → Int32 → zS → Option (Int32 × zS)
  | 0, _, _, _ => none
  | n + 1, x1, x2, S =>
    if x2 < (S.1 0 45) then
      if x1 < 0 then
        zlet (x2 + 1) fun v3 =>
        (f_X12_saddest_L8 n) x2 v3 S
      else
        zb (f_X12_joyOf x2 S) fun r5 T4 =>
        zb (f_X12_joyOf x1 T4) fun r8 T7 =>
        if r5 < r8 then
          zlet (x2 + 1) fun v10 =>
          (f_X12_saddest_L8 n) x2 v10 T7
        else
          zlet (x2 + 1) fun v10 =>
          (f_X12_saddest_L8 n) x1 v10 T7
    else
      some (x1, S)
def f_X12_saddest  (S : zS) : Option (Int32 × zS) :=
  zu (f_X12_load S) fun T2 =>
  f_X12_saddest_L8 zN (-1) 0 T2
set_option maxRecDepth 100000 in
theorem w_X12_saddest_L8 (l : Launch) {r : Int32} {S1 : zS} : ∀ (n : Nat) (x1 : Int32) (x2 : Int32) (S : zS), f_X12_saddest_L8 n x1 x2 S = some (r, S1) → WA zLM l RX12 cX12_saddest 3 (some .int) 7 (some (.int r)) S1 8 [(0, .ref 0), (1, .int x1), (2, .int x2)] [] S := by
  intro n
  induction n with
  | zero =>
    intro x1 x2 S h
    exact nomatch h
  | succ n ih =>
    intro x1 x2 S h
    rw [f_X12_saddest_L8] at h
    refine z_iload_n (pc := 8) (q := 2) dX12_saddest_8 rfl rfl ?_
    refine z_aload_n (pc := 9) (q := 0) dX12_saddest_9 rfl rfl ?_
    refine z_getI (pc := 10) dX12_saddest_10 zf_X12_401 gM_0_45 ?_
    refine z_icmp_ge (pc := 13) (tgt := 45) dX12_saddest_13 (by decide) (fun c1 => ?_) (fun c1 => ?_)
    · have h := ze_some c1 h
      refine z_iload_n (pc := 45) (q := 1) dX12_saddest_45 rfl rfl ?_
      obtain ⟨rfl, rfl⟩ := zr_some h
      exact z_iret dX12_saddest_46
    · have h := zt_some c1 h
      refine z_iload_n (pc := 16) (q := 1) dX12_saddest_16 rfl rfl ?_
      refine z_if_lt (pc := 17) (tgt := 33) dX12_saddest_17 (by decide) (fun c2 => ?_) (fun c2 => ?_)
      · have h := zt_some c2 h
        refine z_iload_n (pc := 33) (q := 2) dX12_saddest_33 rfl rfl ?_
        refine z_goto (pc := 34) (tgt := 38) dX12_saddest_34 (by decide) ?_
        refine z_istore_n (pc := 38) (lo' := [(1, .int x2), (0, .ref 0), (2, .int x2)]) dX12_saddest_38 rfl (by decide) rfl ?_
        obtain ⟨v3, ev3, h⟩ := zl_some h
        refine z_iinc (pc := 39) (q := 2) (v := v3) (lo' := [(2, .int v3), (1, .int x2), (0, .ref 0)]) dX12_saddest_39 rfl (by rw [ev3, zci_1]) (by decide) rfl ?_
        refine z_goto (pc := 42) (tgt := 8) dX12_saddest_42 (by decide) ?_
        exact z_sub [2, 1, 0] rfl (ih x2 v3 S h)
      · have h := ze_some c2 h
        refine z_aload_n (pc := 20) (q := 0) dX12_saddest_20 rfl rfl ?_
        refine z_iload_n (pc := 21) (q := 2) dX12_saddest_21 rfl rfl ?_
        obtain ⟨r5, T4, q3, h⟩ := zb_some h
        refine z_callVi (pc := 22) (st := []) [.int x2] dX12_saddest_22 zm_X12_542 zM_X12_joyOf (by decide) oM_0 rfl (w_X12_joyOf l q3) rfl rfl (Nat.le_of_ble_eq_true rfl) ?_
        refine z_aload_n (pc := 25) (q := 0) dX12_saddest_25 rfl rfl ?_
        refine z_iload_n (pc := 26) (q := 1) dX12_saddest_26 rfl rfl ?_
        obtain ⟨r8, T7, q6, h⟩ := zb_some h
        refine z_callVi (pc := 27) (st := [.int r5]) [.int x1] dX12_saddest_27 zm_X12_542 zM_X12_joyOf (by decide) oM_0 rfl (w_X12_joyOf l q6) rfl rfl (Nat.le_of_ble_eq_true rfl) ?_
        refine z_icmp_ge (pc := 30) (tgt := 37) dX12_saddest_30 (by decide) (fun c9 => ?_) (fun c9 => ?_)
        · have h := ze_some c9 h
          refine z_iload_n (pc := 37) (q := 1) dX12_saddest_37 rfl rfl ?_
          refine z_istore_n (pc := 38) (lo' := [(1, .int x1), (0, .ref 0), (2, .int x2)]) dX12_saddest_38 rfl (by decide) rfl ?_
          obtain ⟨v10, ev10, h⟩ := zl_some h
          refine z_iinc (pc := 39) (q := 2) (v := v10) (lo' := [(2, .int v10), (1, .int x1), (0, .ref 0)]) dX12_saddest_39 rfl (by rw [ev10, zci_1]) (by decide) rfl ?_
          refine z_goto (pc := 42) (tgt := 8) dX12_saddest_42 (by decide) ?_
          exact z_sub [2, 1, 0] rfl (ih x1 v10 T7 h)
        · have h := zt_some c9 h
          refine z_iload_n (pc := 33) (q := 2) dX12_saddest_33 rfl rfl ?_
          refine z_goto (pc := 34) (tgt := 38) dX12_saddest_34 (by decide) ?_
          refine z_istore_n (pc := 38) (lo' := [(1, .int x2), (0, .ref 0), (2, .int x2)]) dX12_saddest_38 rfl (by decide) rfl ?_
          obtain ⟨v10, ev10, h⟩ := zl_some h
          refine z_iinc (pc := 39) (q := 2) (v := v10) (lo' := [(2, .int v10), (1, .int x2), (0, .ref 0)]) dX12_saddest_39 rfl (by rw [ev10, zci_1]) (by decide) rfl ?_
          refine z_goto (pc := 42) (tgt := 8) dX12_saddest_42 (by decide) ?_
          exact z_sub [2, 1, 0] rfl (ih x2 v10 T7 h)
set_option maxRecDepth 100000 in
theorem w_X12_saddest (l : Launch)  {S : zS} {r : Int32} {S1 : zS} (h : f_X12_saddest S = some (r, S1)) : zMet zLM l yX12_saddest cX12_saddest 3 (some .int) 7 [.ref 0] S (some (.int r)) S1 := by
  unfold f_X12_saddest at h
  refine zMet.of (by decide +kernel) (Nat.le_of_ble_eq_true rfl) ?_
  show WA zLM l RX12 cX12_saddest 3 (some .int) 7 (some (.int r)) S1 0 [(0, .ref 0)] [] S
  refine z_aload_n (pc := 0) (q := 0) dX12_saddest_0 rfl rfl ?_
  obtain ⟨T2, q1, h⟩ := zu_some h
  refine z_callVv (pc := 1) (st := []) [] dX12_saddest_1 zm_X12_462 zM_X12_load (by decide) oM_0 rfl (w_X12_load l q1) rfl rfl (Nat.le_of_ble_eq_true rfl) ?_
  refine z_iconst (pc := 4) (v := (-1)) dX12_saddest_4 zci_m1 ?_
  refine z_istore_n (pc := 5) (lo' := [(1, .int (-1)), (0, .ref 0)]) dX12_saddest_5 rfl (by decide) rfl ?_
  refine z_iconst (pc := 6) (v := 0) dX12_saddest_6 zci_0 ?_
  refine z_istore_n (pc := 7) (lo' := [(2, .int 0), (1, .int (-1)), (0, .ref 0)]) dX12_saddest_7 rfl (by decide) rfl ?_
  exact z_sub [2, 1, 0] rfl (w_X12_saddest_L8 l zN (-1) 0 T2 h)
def f_X12_layEnd_L79 : Nat → Int32 → Int32 → zS → Option (Int32 × zS)
  | 0, _, _, _ => none
  | n + 1, x1, x2, S =>
    if x2 < (S.1 0 45) then
      if x1 = 0 then
        if znb x1 then some (x1, S) else none
      else
        zb (f_X12_joyOf x2 S) fun r5 T4 =>
        if zin x2 3 then
        zlet (zput T4 24 x2.toNatClampNeg r5) fun T7 =>
        zlet (x2 + 1) fun v8 =>
        (f_X12_layEnd_L79 n) x1 v8 T7 else none
    else
      if znb x1 then some (x1, S) else none
def f_X12_layEnd_B47 (K8 : Int32 → Int32 → zS → Option (Int32 × zS)) (x2 : Int32) (s0 : Int32) (S : zS) : Option (Int32 × zS) :=
  if s0 = 0 then
    zlet (x2 + 1) fun v2 =>
    K8 s0 v2 S
  else
    if zin x2 3 then
    if (S.1 26 x2.toNatClampNeg) < 0 then
      zlet (x2 + 1) fun v4 =>
      K8 s0 v4 S
    else
      if zin x2 3 then
      zu (f_X12_kill (S.1 26 x2.toNatClampNeg) S) fun T6 =>
      zlet (x2 + 1) fun v7 =>
      K8 s0 v7 T6 else none else none
def f_X12_layEnd_L8 : Nat → Int32 → Int32 → zS → Option (Int32 × zS)
  | 0, _, _, _ => none
  | n + 1, x1, x2, S =>
    if x2 < (S.1 0 45) then
      if x1 = 0 then
        f_X12_layEnd_L79 zN x1 0 S
      else
        if zin x2 3 then
        if (S.1 26 x2.toNatClampNeg) < 0 then
          f_X12_layEnd_B47 (f_X12_layEnd_L8 n) x2 1 S
        else
          if zin x2 3 then
          zb (f_X12_lives (S.1 26 x2.toNatClampNeg) S) fun r8 T7 =>
          if r8 = 0 then
            f_X12_layEnd_B47 (f_X12_layEnd_L8 n) x2 0 T7
          else
            f_X12_layEnd_B47 (f_X12_layEnd_L8 n) x2 1 T7 else none else none
    else
      f_X12_layEnd_L79 zN x1 0 S
def f_X12_layEnd  (S : zS) : Option (Int32 × zS) :=
  zu (f_X12_load S) fun T2 =>
  f_X12_layEnd_L8 zN 1 0 T2
set_option maxRecDepth 100000 in
theorem w_X12_layEnd_L79 (l : Launch) {r : Int32} {S1 : zS} : ∀ (n : Nat) (x1 : Int32) (x2 : Int32) (S : zS), f_X12_layEnd_L79 n x1 x2 S = some (r, S1) → WA zLM l RX12 cX12_layEnd 3 (some .boolean) 7 (some (.int r)) S1 79 [(0, .ref 0), (1, .int x1), (2, .int x2)] [] S := by
  intro n
  induction n with
  | zero =>
    intro x1 x2 S h
    exact nomatch h
  | succ n ih =>
    intro x1 x2 S h
    rw [f_X12_layEnd_L79] at h
    refine z_iload_n (pc := 79) (q := 2) dX12_layEnd_79 rfl rfl ?_
    refine z_aload_n (pc := 80) (q := 0) dX12_layEnd_80 rfl rfl ?_
    refine z_getI (pc := 81) dX12_layEnd_81 zf_X12_401 gM_0_45 ?_
    refine z_icmp_ge (pc := 84) (tgt := 108) dX12_layEnd_84 (by decide) (fun c1 => ?_) (fun c1 => ?_)
    · have h := ze_some c1 h
      refine z_iload_n (pc := 108) (q := 1) dX12_layEnd_108 rfl rfl ?_
      obtain ⟨c2, h⟩ := zg_some h
      obtain ⟨rfl, rfl⟩ := zr_some h
      exact z_zret dX12_layEnd_109 (znb_n c2)
    · have h := zt_some c1 h
      refine z_iload_n (pc := 87) (q := 1) dX12_layEnd_87 rfl rfl ?_
      refine z_if_eq (pc := 88) (tgt := 108) dX12_layEnd_88 (by decide) (fun c2 => ?_) (fun c2 => ?_)
      · have h := zt_some c2 h
        refine z_iload_n (pc := 108) (q := 1) dX12_layEnd_108 rfl rfl ?_
        obtain ⟨c3, h⟩ := zg_some h
        obtain ⟨rfl, rfl⟩ := zr_some h
        exact z_zret dX12_layEnd_109 (znb_n c3)
      · have h := ze_some c2 h
        refine z_aload_n (pc := 91) (q := 0) dX12_layEnd_91 rfl rfl ?_
        refine z_getR (pc := 92) dX12_layEnd_92 zf_X12_91 gM_0_61 ?_
        refine z_iload_n (pc := 95) (q := 2) dX12_layEnd_95 rfl rfl ?_
        refine z_aload_n (pc := 96) (q := 0) dX12_layEnd_96 rfl rfl ?_
        refine z_iload_n (pc := 97) (q := 2) dX12_layEnd_97 rfl rfl ?_
        obtain ⟨r5, T4, q3, h⟩ := zb_some h
        refine z_callVi (pc := 98) (st := [.int x2, .ref 24]) [.int x2] dX12_layEnd_98 zm_X12_542 zM_X12_joyOf (by decide) oM_0 rfl (w_X12_joyOf l q3) rfl rfl (Nat.le_of_ble_eq_true rfl) ?_
        obtain ⟨c6, h⟩ := zg_some h
        obtain ⟨T7, eT7, h⟩ := zl_some h
        refine z_iast (pc := 101) dX12_layEnd_101 aM_24 c6 eT7 ?_
        obtain ⟨v8, ev8, h⟩ := zl_some h
        refine z_iinc (pc := 102) (q := 2) (v := v8) (lo' := [(2, .int v8), (0, .ref 0), (1, .int x1)]) dX12_layEnd_102 rfl (by rw [ev8, zci_1]) (by decide) rfl ?_
        refine z_goto (pc := 105) (tgt := 79) dX12_layEnd_105 (by decide) ?_
        exact z_sub [1, 2, 0] rfl (ih x1 v8 T7 h)
set_option maxRecDepth 100000 in
theorem w_X12_layEnd_B47 (l : Launch) {r : Int32} {S1 : zS} (K8 : Int32 → Int32 → zS → Option (Int32 × zS)) (hK8 : ∀ (x1 : Int32) (x2 : Int32) (S : zS), K8 x1 x2 S = some (r, S1) → WA zLM l RX12 cX12_layEnd 3 (some .boolean) 7 (some (.int r)) S1 8 [(0, .ref 0), (1, .int x1), (2, .int x2)] [] S) (x2 : Int32) (s0 : Int32) (S : zS) (h : f_X12_layEnd_B47 K8 x2 s0 S = some (r, S1)) : WA zLM l RX12 cX12_layEnd 3 (some .boolean) 7 (some (.int r)) S1 47 [(0, .ref 0), (2, .int x2)] [.int s0] S := by
  unfold f_X12_layEnd_B47 at h
  refine z_istore_n (pc := 47) (lo' := [(1, .int s0), (0, .ref 0), (2, .int x2)]) dX12_layEnd_47 rfl (by decide) rfl ?_
  refine z_iload_n (pc := 48) (q := 0) dX12_layEnd_48 rfl rfl ?_
  refine z_if_eq (pc := 49) (tgt := 71) dX12_layEnd_49 (by decide) (fun c1 => ?_) (fun c1 => ?_)
  · have h := zt_some c1 h
    obtain ⟨v2, ev2, h⟩ := zl_some h
    refine z_iinc (pc := 71) (q := 2) (v := v2) (lo' := [(2, .int v2), (1, .int s0), (0, .ref 0)]) dX12_layEnd_71 rfl (by rw [ev2, zci_1]) (by decide) rfl ?_
    refine z_goto (pc := 74) (tgt := 8) dX12_layEnd_74 (by decide) ?_
    exact z_sub [2, 1, 0] rfl (hK8 s0 v2 S h)
  · have h := ze_some c1 h
    refine z_aload_n (pc := 52) (q := 1) dX12_layEnd_52 rfl rfl ?_
    refine z_getR (pc := 53) dX12_layEnd_53 zf_X12_97 gM_0_63 ?_
    refine z_iload_n (pc := 56) (q := 2) dX12_layEnd_56 rfl rfl ?_
    obtain ⟨c2, h⟩ := zg_some h
    refine z_iald (pc := 57) dX12_layEnd_57 aM_26 c2 ?_
    refine z_if_lt (pc := 58) (tgt := 71) dX12_layEnd_58 (by decide) (fun c3 => ?_) (fun c3 => ?_)
    · have h := zt_some c3 h
      obtain ⟨v4, ev4, h⟩ := zl_some h
      refine z_iinc (pc := 71) (q := 2) (v := v4) (lo' := [(2, .int v4), (1, .int s0), (0, .ref 0)]) dX12_layEnd_71 rfl (by rw [ev4, zci_1]) (by decide) rfl ?_
      refine z_goto (pc := 74) (tgt := 8) dX12_layEnd_74 (by decide) ?_
      exact z_sub [2, 1, 0] rfl (hK8 s0 v4 S h)
    · have h := ze_some c3 h
      refine z_aload_n (pc := 61) (q := 1) dX12_layEnd_61 rfl rfl ?_
      refine z_aload_n (pc := 62) (q := 1) dX12_layEnd_62 rfl rfl ?_
      refine z_getR (pc := 63) dX12_layEnd_63 zf_X12_97 gM_0_63 ?_
      refine z_iload_n (pc := 66) (q := 2) dX12_layEnd_66 rfl rfl ?_
      obtain ⟨c4, h⟩ := zg_some h
      refine z_iald (pc := 67) dX12_layEnd_67 aM_26 c4 ?_
      obtain ⟨T6, q5, h⟩ := zu_some h
      refine z_callVv (pc := 68) (st := []) [.int (S.1 26 x2.toNatClampNeg)] dX12_layEnd_68 zm_X12_480 zM_X12_kill (by decide) oM_0 rfl (w_X12_kill l q5) rfl rfl (Nat.le_of_ble_eq_true rfl) ?_
      obtain ⟨v7, ev7, h⟩ := zl_some h
      refine z_iinc (pc := 71) (q := 2) (v := v7) (lo' := [(2, .int v7), (1, .int s0), (0, .ref 0)]) dX12_layEnd_71 rfl (by rw [ev7, zci_1]) (by decide) rfl ?_
      refine z_goto (pc := 74) (tgt := 8) dX12_layEnd_74 (by decide) ?_
      exact z_sub [2, 1, 0] rfl (hK8 s0 v7 T6 h)
set_option maxRecDepth 100000 in
theorem w_X12_layEnd_L8 (l : Launch) {r : Int32} {S1 : zS} : ∀ (n : Nat) (x1 : Int32) (x2 : Int32) (S : zS), f_X12_layEnd_L8 n x1 x2 S = some (r, S1) → WA zLM l RX12 cX12_layEnd 3 (some .boolean) 7 (some (.int r)) S1 8 [(0, .ref 0), (1, .int x1), (2, .int x2)] [] S := by
  intro n
  induction n with
  | zero =>
    intro x1 x2 S h
    exact nomatch h
  | succ n ih =>
    intro x1 x2 S h
    rw [f_X12_layEnd_L8] at h
    refine z_iload_n (pc := 8) (q := 2) dX12_layEnd_8 rfl rfl ?_
    refine z_aload_n (pc := 9) (q := 0) dX12_layEnd_9 rfl rfl ?_
    refine z_getI (pc := 10) dX12_layEnd_10 zf_X12_401 gM_0_45 ?_
    refine z_icmp_ge (pc := 13) (tgt := 77) dX12_layEnd_13 (by decide) (fun c1 => ?_) (fun c1 => ?_)
    · have h := ze_some c1 h
      refine z_iconst (pc := 77) (v := 0) dX12_layEnd_77 zci_0 ?_
      refine z_istore_n (pc := 78) (lo' := [(2, .int 0), (0, .ref 0), (1, .int x1)]) dX12_layEnd_78 rfl (by decide) rfl ?_
      exact z_sub [1, 2, 0] rfl (w_X12_layEnd_L79 l zN x1 0 S h)
    · have h := zt_some c1 h
      refine z_iload_n (pc := 16) (q := 1) dX12_layEnd_16 rfl rfl ?_
      refine z_if_eq (pc := 17) (tgt := 77) dX12_layEnd_17 (by decide) (fun c2 => ?_) (fun c2 => ?_)
      · have h := zt_some c2 h
        refine z_iconst (pc := 77) (v := 0) dX12_layEnd_77 zci_0 ?_
        refine z_istore_n (pc := 78) (lo' := [(2, .int 0), (0, .ref 0), (1, .int x1)]) dX12_layEnd_78 rfl (by decide) rfl ?_
        exact z_sub [1, 2, 0] rfl (w_X12_layEnd_L79 l zN x1 0 S h)
      · have h := ze_some c2 h
        refine z_aload_n (pc := 20) (q := 0) dX12_layEnd_20 rfl rfl ?_
        refine z_getR (pc := 21) dX12_layEnd_21 zf_X12_97 gM_0_63 ?_
        refine z_iload_n (pc := 24) (q := 2) dX12_layEnd_24 rfl rfl ?_
        obtain ⟨c3, h⟩ := zg_some h
        refine z_iald (pc := 25) dX12_layEnd_25 aM_26 c3 ?_
        refine z_if_lt (pc := 26) (tgt := 42) dX12_layEnd_26 (by decide) (fun c4 => ?_) (fun c4 => ?_)
        · have h := zt_some c4 h
          refine z_iconst (pc := 42) (v := 1) dX12_layEnd_42 zci_1 ?_
          refine z_goto (pc := 43) (tgt := 47) dX12_layEnd_43 (by decide) ?_
          exact z_sub [0, 2] rfl (w_X12_layEnd_B47 l (f_X12_layEnd_L8 n) ih x2 1 S h)
        · have h := ze_some c4 h
          refine z_aload_n (pc := 29) (q := 0) dX12_layEnd_29 rfl rfl ?_
          refine z_aload_n (pc := 30) (q := 0) dX12_layEnd_30 rfl rfl ?_
          refine z_getR (pc := 31) dX12_layEnd_31 zf_X12_97 gM_0_63 ?_
          refine z_iload_n (pc := 34) (q := 2) dX12_layEnd_34 rfl rfl ?_
          obtain ⟨c5, h⟩ := zg_some h
          refine z_iald (pc := 35) dX12_layEnd_35 aM_26 c5 ?_
          obtain ⟨r8, T7, q6, h⟩ := zb_some h
          refine z_callVi (pc := 36) (st := []) [.int (S.1 26 x2.toNatClampNeg)] dX12_layEnd_36 zm_X12_432 zM_X12_lives (by decide) oM_0 rfl (w_X12_lives l q6) rfl rfl (Nat.le_of_ble_eq_true rfl) ?_
          refine z_if_eq (pc := 39) (tgt := 46) dX12_layEnd_39 (by decide) (fun c9 => ?_) (fun c9 => ?_)
          · have h := zt_some c9 h
            refine z_iconst (pc := 46) (v := 0) dX12_layEnd_46 zci_0 ?_
            exact z_sub [0, 2] rfl (w_X12_layEnd_B47 l (f_X12_layEnd_L8 n) ih x2 0 T7 h)
          · have h := ze_some c9 h
            refine z_iconst (pc := 42) (v := 1) dX12_layEnd_42 zci_1 ?_
            refine z_goto (pc := 43) (tgt := 47) dX12_layEnd_43 (by decide) ?_
            exact z_sub [0, 2] rfl (w_X12_layEnd_B47 l (f_X12_layEnd_L8 n) ih x2 1 T7 h)
set_option maxRecDepth 100000 in
theorem w_X12_layEnd (l : Launch)  {S : zS} {r : Int32} {S1 : zS} (h : f_X12_layEnd S = some (r, S1)) : zMet zLM l yX12_layEnd cX12_layEnd 3 (some .boolean) 7 [.ref 0] S (some (.int r)) S1 := by
  unfold f_X12_layEnd at h
  refine zMet.of (by decide +kernel) (Nat.le_of_ble_eq_true rfl) ?_
  show WA zLM l RX12 cX12_layEnd 3 (some .boolean) 7 (some (.int r)) S1 0 [(0, .ref 0)] [] S
  refine z_aload_n (pc := 0) (q := 0) dX12_layEnd_0 rfl rfl ?_
  obtain ⟨T2, q1, h⟩ := zu_some h
  refine z_callVv (pc := 1) (st := []) [] dX12_layEnd_1 zm_X12_462 zM_X12_load (by decide) oM_0 rfl (w_X12_load l q1) rfl rfl (Nat.le_of_ble_eq_true rfl) ?_
  refine z_iconst (pc := 4) (v := 1) dX12_layEnd_4 zci_1 ?_
  refine z_istore_n (pc := 5) (lo' := [(1, .int 1), (0, .ref 0)]) dX12_layEnd_5 rfl (by decide) rfl ?_
  refine z_iconst (pc := 6) (v := 0) dX12_layEnd_6 zci_0 ?_
  refine z_istore_n (pc := 7) (lo' := [(2, .int 0), (1, .int 1), (0, .ref 0)]) dX12_layEnd_7 rfl (by decide) rfl ?_
  exact z_sub [2, 1, 0] rfl (w_X12_layEnd_L8 l zN 1 0 T2 h)
def f_X12_layThird_L58 (K5 : Int32 → Int32 → zS → Option zS) : Nat → Int32 → Int32 → Int32 → zS → Option zS
  | 0, _, _, _, _ => none
  | n + 1, x1, x2, x3, S =>
    if x3 < (S.1 0 45) then
      if zin x3 3 then
      if zin x3 3 then
      zlet (zput S 25 x3.toNatClampNeg (S.1 24 x3.toNatClampNeg)) fun T4 =>
      zlet (x3 + 1) fun v5 =>
      (f_X12_layThird_L58 K5 n) x1 x2 v5 T4 else none else none
    else
      zlet (x2 + 1) fun v2 =>
      K5 x1 v2 S
def f_X12_layThird_L5 : Nat → Int32 → Int32 → zS → Option zS
  | 0, _, _, _ => none
  | n + 1, x1, x2, S =>
    if x2 < (S.1 19 (Int32.toNatClampNeg 96)) then
      zlet (zput S 26 (Int32.toNatClampNeg 2) x2) fun T2 =>
      zb (f_X12_layEnd T2) fun r5 T4 =>
      if r5 = 0 then
        zlet (x2 + 1) fun v7 =>
        (f_X12_layThird_L5 n) x1 v7 T4
      else
        if x1 = (-2) then
          f_X12_layThird_L58 (f_X12_layThird_L5 n) zN x2 x2 0 T4
        else
          if (T4.1 25 (Int32.toNatClampNeg 2)) < (T4.1 24 (Int32.toNatClampNeg 2)) then
            f_X12_layThird_L58 (f_X12_layThird_L5 n) zN x2 x2 0 T4
          else
            zlet (x2 + 1) fun v9 =>
            (f_X12_layThird_L5 n) x1 v9 T4
    else
      zlet (zput S 26 (Int32.toNatClampNeg 2) x1) fun T2 =>
      some T2
def f_X12_layThird  (S : zS) : Option zS :=
  f_X12_layThird_L5 zN (-2) (-1) S
set_option maxRecDepth 100000 in
theorem w_X12_layThird_L58 (l : Launch) {S1 : zS} (K5 : Int32 → Int32 → zS → Option zS) (hK5 : ∀ (x1 : Int32) (x2 : Int32) (S : zS), K5 x1 x2 S = some S1 → WA zLM l RX12 cX12_layThird 4 none 8 none S1 5 [(0, .ref 0), (1, .int x1), (2, .int x2)] [] S) : ∀ (n : Nat) (x1 : Int32) (x2 : Int32) (x3 : Int32) (S : zS), f_X12_layThird_L58 K5 n x1 x2 x3 S = some S1 → WA zLM l RX12 cX12_layThird 4 none 8 none S1 58 [(0, .ref 0), (1, .int x1), (2, .int x2), (3, .int x3)] [] S := by
  intro n
  induction n with
  | zero =>
    intro x1 x2 x3 S h
    exact nomatch h
  | succ n ih =>
    intro x1 x2 x3 S h
    rw [f_X12_layThird_L58] at h
    refine z_iload_n (pc := 58) (q := 3) dX12_layThird_58 rfl rfl ?_
    refine z_aload_n (pc := 59) (q := 0) dX12_layThird_59 rfl rfl ?_
    refine z_getI (pc := 60) dX12_layThird_60 zf_X12_401 gM_0_45 ?_
    refine z_icmp_ge (pc := 63) (tgt := 84) dX12_layThird_63 (by decide) (fun c1 => ?_) (fun c1 => ?_)
    · have h := ze_some c1 h
      obtain ⟨v2, ev2, h⟩ := zl_some h
      refine z_iinc (pc := 84) (q := 2) (v := v2) (lo' := [(2, .int v2), (0, .ref 0), (1, .int x1), (3, .int x3)]) dX12_layThird_84 rfl (by rw [ev2, zci_1]) (by decide) rfl ?_
      refine z_goto (pc := 87) (tgt := 5) dX12_layThird_87 (by decide) ?_
      exact z_sub [1, 2, 0] rfl (hK5 x1 v2 S h)
    · have h := zt_some c1 h
      refine z_aload_n (pc := 66) (q := 0) dX12_layThird_66 rfl rfl ?_
      refine z_getR (pc := 67) dX12_layThird_67 zf_X12_94 gM_0_62 ?_
      refine z_iload_n (pc := 70) (q := 3) dX12_layThird_70 rfl rfl ?_
      refine z_aload_n (pc := 71) (q := 0) dX12_layThird_71 rfl rfl ?_
      refine z_getR (pc := 72) dX12_layThird_72 zf_X12_91 gM_0_61 ?_
      refine z_iload_n (pc := 75) (q := 3) dX12_layThird_75 rfl rfl ?_
      obtain ⟨c2, h⟩ := zg_some h
      refine z_iald (pc := 76) dX12_layThird_76 aM_24 c2 ?_
      obtain ⟨c3, h⟩ := zg_some h
      obtain ⟨T4, eT4, h⟩ := zl_some h
      refine z_iast (pc := 77) dX12_layThird_77 aM_25 c3 eT4 ?_
      obtain ⟨v5, ev5, h⟩ := zl_some h
      refine z_iinc (pc := 78) (q := 3) (v := v5) (lo' := [(3, .int v5), (0, .ref 0), (1, .int x1), (2, .int x2)]) dX12_layThird_78 rfl (by rw [ev5, zci_1]) (by decide) rfl ?_
      refine z_goto (pc := 81) (tgt := 58) dX12_layThird_81 (by decide) ?_
      exact z_sub [1, 2, 3, 0] rfl (ih x1 x2 v5 T4 h)
set_option maxRecDepth 100000 in
theorem w_X12_layThird_L5 (l : Launch) {S1 : zS} : ∀ (n : Nat) (x1 : Int32) (x2 : Int32) (S : zS), f_X12_layThird_L5 n x1 x2 S = some S1 → WA zLM l RX12 cX12_layThird 4 none 8 none S1 5 [(0, .ref 0), (1, .int x1), (2, .int x2)] [] S := by
  intro n
  induction n with
  | zero =>
    intro x1 x2 S h
    exact nomatch h
  | succ n ih =>
    intro x1 x2 S h
    rw [f_X12_layThird_L5] at h
    refine z_iload_n (pc := 5) (q := 2) dX12_layThird_5 rfl rfl ?_
    refine z_aload_n (pc := 6) (q := 0) dX12_layThird_6 rfl rfl ?_
    refine z_getR (pc := 7) dX12_layThird_7 zf_X12_76 gM_0_53 ?_
    refine z_bipush (pc := 10) (v := 96) dX12_layThird_10 zcb_96 ?_
    refine z_iald (pc := 12) dX12_layThird_12 aM_19 (by decide) ?_
    refine z_icmp_ge (pc := 13) (tgt := 90) dX12_layThird_13 (by decide) (fun c1 => ?_) (fun c1 => ?_)
    · have h := ze_some c1 h
      refine z_aload_n (pc := 90) (q := 0) dX12_layThird_90 rfl rfl ?_
      refine z_getR (pc := 91) dX12_layThird_91 zf_X12_97 gM_0_63 ?_
      refine z_iconst (pc := 94) (v := 2) dX12_layThird_94 zci_2 ?_
      refine z_iload_n (pc := 95) (q := 1) dX12_layThird_95 rfl rfl ?_
      obtain ⟨T2, eT2, h⟩ := zl_some h
      refine z_iast (pc := 96) dX12_layThird_96 aM_26 (by decide) eT2 ?_
      cases h
      exact z_vret dX12_layThird_97
    · have h := zt_some c1 h
      refine z_aload_n (pc := 16) (q := 0) dX12_layThird_16 rfl rfl ?_
      refine z_getR (pc := 17) dX12_layThird_17 zf_X12_97 gM_0_63 ?_
      refine z_iconst (pc := 20) (v := 2) dX12_layThird_20 zci_2 ?_
      refine z_iload_n (pc := 21) (q := 2) dX12_layThird_21 rfl rfl ?_
      obtain ⟨T2, eT2, h⟩ := zl_some h
      refine z_iast (pc := 22) dX12_layThird_22 aM_26 (by decide) eT2 ?_
      refine z_aload_n (pc := 23) (q := 0) dX12_layThird_23 rfl rfl ?_
      obtain ⟨r5, T4, q3, h⟩ := zb_some h
      refine z_callVi (pc := 24) (st := []) [] dX12_layThird_24 zm_X12_545 zM_X12_layEnd (by decide) oM_0 rfl (w_X12_layEnd l q3) rfl rfl (Nat.le_of_ble_eq_true rfl) ?_
      refine z_if_eq (pc := 27) (tgt := 84) dX12_layThird_27 (by decide) (fun c6 => ?_) (fun c6 => ?_)
      · have h := zt_some c6 h
        obtain ⟨v7, ev7, h⟩ := zl_some h
        refine z_iinc (pc := 84) (q := 2) (v := v7) (lo' := [(2, .int v7), (0, .ref 0), (1, .int x1)]) dX12_layThird_84 rfl (by rw [ev7, zci_1]) (by decide) rfl ?_
        refine z_goto (pc := 87) (tgt := 5) dX12_layThird_87 (by decide) ?_
        exact z_sub [1, 2, 0] rfl (ih x1 v7 T4 h)
      · have h := ze_some c6 h
        refine z_iload_n (pc := 30) (q := 1) dX12_layThird_30 rfl rfl ?_
        refine z_bipush (pc := 31) (v := (-2)) dX12_layThird_31 zcb_m2 ?_
        refine z_icmp_eq (pc := 33) (tgt := 54) dX12_layThird_33 (by decide) (fun c7 => ?_) (fun c7 => ?_)
        · have h := zt_some c7 h
          refine z_iload_n (pc := 54) (q := 2) dX12_layThird_54 rfl rfl ?_
          refine z_istore_n (pc := 55) (lo' := [(1, .int x2), (0, .ref 0), (2, .int x2)]) dX12_layThird_55 rfl (by decide) rfl ?_
          refine z_iconst (pc := 56) (v := 0) dX12_layThird_56 zci_0 ?_
          refine z_istore_n (pc := 57) (lo' := [(3, .int 0), (1, .int x2), (0, .ref 0), (2, .int x2)]) dX12_layThird_57 rfl (by decide) rfl ?_
          exact z_sub [2, 1, 3, 0] rfl (w_X12_layThird_L58 l (f_X12_layThird_L5 n) ih zN x2 x2 0 T4 h)
        · have h := ze_some c7 h
          refine z_aload_n (pc := 36) (q := 0) dX12_layThird_36 rfl rfl ?_
          refine z_getR (pc := 37) dX12_layThird_37 zf_X12_91 gM_0_61 ?_
          refine z_iconst (pc := 40) (v := 2) dX12_layThird_40 zci_2 ?_
          refine z_iald (pc := 41) dX12_layThird_41 aM_24 (by decide) ?_
          refine z_aload_n (pc := 42) (q := 0) dX12_layThird_42 rfl rfl ?_
          refine z_getR (pc := 43) dX12_layThird_43 zf_X12_94 gM_0_62 ?_
          refine z_iconst (pc := 46) (v := 2) dX12_layThird_46 zci_2 ?_
          refine z_iald (pc := 47) dX12_layThird_47 aM_25 (by decide) ?_
          refine z_icmp_gt (pc := 48) (tgt := 54) dX12_layThird_48 (by decide) (fun c8 => ?_) (fun c8 => ?_)
          · have h := zt_some c8 h
            refine z_iload_n (pc := 54) (q := 2) dX12_layThird_54 rfl rfl ?_
            refine z_istore_n (pc := 55) (lo' := [(1, .int x2), (0, .ref 0), (2, .int x2)]) dX12_layThird_55 rfl (by decide) rfl ?_
            refine z_iconst (pc := 56) (v := 0) dX12_layThird_56 zci_0 ?_
            refine z_istore_n (pc := 57) (lo' := [(3, .int 0), (1, .int x2), (0, .ref 0), (2, .int x2)]) dX12_layThird_57 rfl (by decide) rfl ?_
            exact z_sub [2, 1, 3, 0] rfl (w_X12_layThird_L58 l (f_X12_layThird_L5 n) ih zN x2 x2 0 T4 h)
          · have h := ze_some c8 h
            refine z_goto (pc := 51) (tgt := 84) dX12_layThird_51 (by decide) ?_
            obtain ⟨v9, ev9, h⟩ := zl_some h
            refine z_iinc (pc := 84) (q := 2) (v := v9) (lo' := [(2, .int v9), (0, .ref 0), (1, .int x1)]) dX12_layThird_84 rfl (by rw [ev9, zci_1]) (by decide) rfl ?_
            refine z_goto (pc := 87) (tgt := 5) dX12_layThird_87 (by decide) ?_
            exact z_sub [1, 2, 0] rfl (ih x1 v9 T4 h)
set_option maxRecDepth 100000 in
theorem w_X12_layThird (l : Launch)  {S : zS} {S1 : zS} (h : f_X12_layThird S = some S1) : zMet zLM l yX12_layThird cX12_layThird 4 none 8 [.ref 0] S none S1 := by
  unfold f_X12_layThird at h
  refine zMet.of (by decide +kernel) (Nat.le_of_ble_eq_true rfl) ?_
  show WA zLM l RX12 cX12_layThird 4 none 8 none S1 0 [(0, .ref 0)] [] S
  refine z_bipush (pc := 0) (v := (-2)) dX12_layThird_0 zcb_m2 ?_
  refine z_istore_n (pc := 2) (lo' := [(1, .int (-2)), (0, .ref 0)]) dX12_layThird_2 rfl (by decide) rfl ?_
  refine z_iconst (pc := 3) (v := (-1)) dX12_layThird_3 zci_m1 ?_
  refine z_istore_n (pc := 4) (lo' := [(2, .int (-1)), (1, .int (-2)), (0, .ref 0)]) dX12_layThird_4 rfl (by decide) rfl ?_
  exact z_sub [2, 1, 0] rfl (w_X12_layThird_L5 l zN (-2) (-1) S h)
def f_X12_canPull (x1 : Int32) (x2 : Int32) (S : zS) : Option (Int32 × zS) :=
  if x1 < (S.1 0 45) then
    if x2 < 0 then
      some (1, S)
    else
      if zin ((8 * x2) + 0) 99 then
      if (0 : Int32) < (S.1 19 ((8 * x2) + 0).toNatClampNeg) then
        some (1, S)
      else
        some (0, S) else none
  else
    if x2 < 0 then
      some (1, S)
    else
      some (0, S)
set_option maxRecDepth 100000 in
theorem w_X12_canPull (l : Launch) {x1 : Int32} {x2 : Int32} {S : zS} {r : Int32} {S1 : zS} (h : f_X12_canPull x1 x2 S = some (r, S1)) : zMet zLM l yX12_canPull cX12_canPull 3 (some .boolean) 1 [.ref 0, .int x1, .int x2] S (some (.int r)) S1 := by
  unfold f_X12_canPull at h
  refine zMet.of (by decide +kernel) (Nat.le_of_ble_eq_true rfl) ?_
  show WA zLM l RX12 cX12_canPull 3 (some .boolean) 1 (some (.int r)) S1 0 [(0, .ref 0), (1, .int x1), (2, .int x2)] [] S
  refine z_iload_n (pc := 0) (q := 1) dX12_canPull_0 rfl rfl ?_
  refine z_aload_n (pc := 1) (q := 0) dX12_canPull_1 rfl rfl ?_
  refine z_getI (pc := 2) dX12_canPull_2 zf_X12_401 gM_0_45 ?_
  refine z_icmp_lt (pc := 5) (tgt := 20) dX12_canPull_5 (by decide) (fun c1 => ?_) (fun c1 => ?_)
  · have h := zt_some c1 h
    refine z_iload_n (pc := 20) (q := 2) dX12_canPull_20 rfl rfl ?_
    refine z_if_lt (pc := 21) (tgt := 38) dX12_canPull_21 (by decide) (fun c2 => ?_) (fun c2 => ?_)
    · have h := zt_some c2 h
      refine z_iconst (pc := 38) (v := 1) dX12_canPull_38 zci_1 ?_
      refine z_goto (pc := 39) (tgt := 43) dX12_canPull_39 (by decide) ?_
      obtain ⟨rfl, rfl⟩ := zr_some h
      exact z_zret dX12_canPull_43 rfl
    · have h := ze_some c2 h
      refine z_aload_n (pc := 24) (q := 0) dX12_canPull_24 rfl rfl ?_
      refine z_getR (pc := 25) dX12_canPull_25 zf_X12_76 gM_0_53 ?_
      refine z_bipush (pc := 28) (v := 8) dX12_canPull_28 zcb_8 ?_
      refine z_iload_n (pc := 30) (q := 2) dX12_canPull_30 rfl rfl ?_
      refine z_imul (pc := 31) dX12_canPull_31 ?_
      refine z_iconst (pc := 32) (v := 0) dX12_canPull_32 zci_0 ?_
      refine z_iadd (pc := 33) dX12_canPull_33 ?_
      obtain ⟨c3, h⟩ := zg_some h
      refine z_iald (pc := 34) dX12_canPull_34 aM_19 c3 ?_
      refine z_if_le (pc := 35) (tgt := 42) dX12_canPull_35 (by decide) (fun c4 => ?_) (fun c4 => ?_)
      · have h := ze_some c4 h
        refine z_iconst (pc := 42) (v := 0) dX12_canPull_42 zci_0 ?_
        obtain ⟨rfl, rfl⟩ := zr_some h
        exact z_zret dX12_canPull_43 rfl
      · have h := zt_some c4 h
        refine z_iconst (pc := 38) (v := 1) dX12_canPull_38 zci_1 ?_
        refine z_goto (pc := 39) (tgt := 43) dX12_canPull_39 (by decide) ?_
        obtain ⟨rfl, rfl⟩ := zr_some h
        exact z_zret dX12_canPull_43 rfl
  · have h := ze_some c1 h
    refine z_iload_n (pc := 8) (q := 2) dX12_canPull_8 rfl rfl ?_
    refine z_if_ge (pc := 9) (tgt := 16) dX12_canPull_9 (by decide) (fun c2 => ?_) (fun c2 => ?_)
    · have h := ze_some c2 h
      refine z_iconst (pc := 16) (v := 0) dX12_canPull_16 zci_0 ?_
      refine z_goto (pc := 17) (tgt := 43) dX12_canPull_17 (by decide) ?_
      obtain ⟨rfl, rfl⟩ := zr_some h
      exact z_zret dX12_canPull_43 rfl
    · have h := zt_some c2 h
      refine z_iconst (pc := 12) (v := 1) dX12_canPull_12 zci_1 ?_
      refine z_goto (pc := 13) (tgt := 43) dX12_canPull_13 (by decide) ?_
      obtain ⟨rfl, rfl⟩ := zr_some h
      exact z_zret dX12_canPull_43 rfl
def f_X12_layLast_L29 : Nat → Int32 → zS → Option zS
  | 0, _, _ => none
  | n + 1, x1, S =>
    if x1 < (S.1 0 45) then
      if zin x1 3 then
      if zin x1 3 then
      zlet (zput S 25 x1.toNatClampNeg (S.1 24 x1.toNatClampNeg)) fun T4 =>
      zlet (x1 + 1) fun v5 =>
      (f_X12_layLast_L29 n) v5 T4 else none else none
    else
      some S
def f_X12_layLast  (S : zS) : Option zS :=
  zlet (zput S 26 (Int32.toNatClampNeg 2) (-1)) fun T1 =>
  if (T1.1 0 45) = 3 then
    zu (f_X12_layThird T1) fun T4 =>
    some T4
  else
    zb (f_X12_layEnd T1) fun r5 T4 =>
    if r5 = 0 then
      some T4
    else
      f_X12_layLast_L29 zN 0 T4
set_option maxRecDepth 100000 in
theorem w_X12_layLast_L29 (l : Launch) {S1 : zS} : ∀ (n : Nat) (x1 : Int32) (S : zS), f_X12_layLast_L29 n x1 S = some S1 → WA zLM l RX12 cX12_layLast 2 none 9 none S1 29 [(0, .ref 0), (1, .int x1)] [] S := by
  intro n
  induction n with
  | zero =>
    intro x1 S h
    exact nomatch h
  | succ n ih =>
    intro x1 S h
    rw [f_X12_layLast_L29] at h
    refine z_iload_n (pc := 29) (q := 1) dX12_layLast_29 rfl rfl ?_
    refine z_aload_n (pc := 30) (q := 0) dX12_layLast_30 rfl rfl ?_
    refine z_getI (pc := 31) dX12_layLast_31 zf_X12_401 gM_0_45 ?_
    refine z_icmp_ge (pc := 34) (tgt := 55) dX12_layLast_34 (by decide) (fun c1 => ?_) (fun c1 => ?_)
    · have h := ze_some c1 h
      cases h
      exact z_vret dX12_layLast_55
    · have h := zt_some c1 h
      refine z_aload_n (pc := 37) (q := 0) dX12_layLast_37 rfl rfl ?_
      refine z_getR (pc := 38) dX12_layLast_38 zf_X12_94 gM_0_62 ?_
      refine z_iload_n (pc := 41) (q := 1) dX12_layLast_41 rfl rfl ?_
      refine z_aload_n (pc := 42) (q := 0) dX12_layLast_42 rfl rfl ?_
      refine z_getR (pc := 43) dX12_layLast_43 zf_X12_91 gM_0_61 ?_
      refine z_iload_n (pc := 46) (q := 1) dX12_layLast_46 rfl rfl ?_
      obtain ⟨c2, h⟩ := zg_some h
      refine z_iald (pc := 47) dX12_layLast_47 aM_24 c2 ?_
      obtain ⟨c3, h⟩ := zg_some h
      obtain ⟨T4, eT4, h⟩ := zl_some h
      refine z_iast (pc := 48) dX12_layLast_48 aM_25 c3 eT4 ?_
      obtain ⟨v5, ev5, h⟩ := zl_some h
      refine z_iinc (pc := 49) (q := 1) (v := v5) (lo' := [(1, .int v5), (0, .ref 0)]) dX12_layLast_49 rfl (by rw [ev5, zci_1]) (by decide) rfl ?_
      refine z_goto (pc := 52) (tgt := 29) dX12_layLast_52 (by decide) ?_
      exact z_sub [1, 0] rfl (ih v5 T4 h)
set_option maxRecDepth 100000 in
theorem w_X12_layLast (l : Launch)  {S : zS} {S1 : zS} (h : f_X12_layLast S = some S1) : zMet zLM l yX12_layLast cX12_layLast 2 none 9 [.ref 0] S none S1 := by
  unfold f_X12_layLast at h
  refine zMet.of (by decide +kernel) (Nat.le_of_ble_eq_true rfl) ?_
  show WA zLM l RX12 cX12_layLast 2 none 9 none S1 0 [(0, .ref 0)] [] S
  refine z_aload_n (pc := 0) (q := 0) dX12_layLast_0 rfl rfl ?_
  refine z_getR (pc := 1) dX12_layLast_1 zf_X12_97 gM_0_63 ?_
  refine z_iconst (pc := 4) (v := 2) dX12_layLast_4 zci_2 ?_
  refine z_iconst (pc := 5) (v := (-1)) dX12_layLast_5 zci_m1 ?_
  obtain ⟨T1, eT1, h⟩ := zl_some h
  refine z_iast (pc := 6) dX12_layLast_6 aM_26 (by decide) eT1 ?_
  refine z_aload_n (pc := 7) (q := 0) dX12_layLast_7 rfl rfl ?_
  refine z_getI (pc := 8) dX12_layLast_8 zf_X12_401 gM_0_45 ?_
  refine z_iconst (pc := 11) (v := 3) dX12_layLast_11 zci_3 ?_
  refine z_icmp_ne (pc := 12) (tgt := 20) dX12_layLast_12 (by decide) (fun c2 => ?_) (fun c2 => ?_)
  · have h := ze_some c2 h
    refine z_aload_n (pc := 20) (q := 0) dX12_layLast_20 rfl rfl ?_
    obtain ⟨r5, T4, q3, h⟩ := zb_some h
    refine z_callVi (pc := 21) (st := []) [] dX12_layLast_21 zm_X12_545 zM_X12_layEnd (by decide) oM_0 rfl (w_X12_layEnd l q3) rfl rfl (Nat.le_of_ble_eq_true rfl) ?_
    refine z_if_eq (pc := 24) (tgt := 55) dX12_layLast_24 (by decide) (fun c6 => ?_) (fun c6 => ?_)
    · have h := zt_some c6 h
      cases h
      exact z_vret dX12_layLast_55
    · have h := ze_some c6 h
      refine z_iconst (pc := 27) (v := 0) dX12_layLast_27 zci_0 ?_
      refine z_istore_n (pc := 28) (lo' := [(1, .int 0), (0, .ref 0)]) dX12_layLast_28 rfl (by decide) rfl ?_
      exact z_sub [1, 0] rfl (w_X12_layLast_L29 l zN 0 T4 h)
  · have h := zt_some c2 h
    refine z_aload_n (pc := 15) (q := 0) dX12_layLast_15 rfl rfl ?_
    obtain ⟨T4, q3, h⟩ := zu_some h
    refine z_callVv (pc := 16) (st := []) [] dX12_layLast_16 zm_X12_560 zM_X12_layThird (by decide) oM_0 rfl (w_X12_layThird l q3) rfl rfl (Nat.le_of_ble_eq_true rfl) ?_
    cases h
    exact z_vret dX12_layLast_19
def f_X12_laySecond_L100 (K8 : Int32 → zS → Option zS) : Nat → Int32 → Int32 → zS → Option zS
  | 0, _, _, _ => none
  | n + 1, x1, x2, S =>
    if x2 < 3 then
      if zin x2 3 then
      if zin x2 3 then
      zlet (zput S 27 x2.toNatClampNeg (S.1 25 x2.toNatClampNeg)) fun T4 =>
      zlet (x2 + 1) fun v5 =>
      (f_X12_laySecond_L100 K8 n) x1 v5 T4 else none else none
    else
      zlet (x1 + 1) fun v2 =>
      K8 v2 S
def f_X12_laySecond_B83 (K8 : Int32 → zS → Option zS) (x1 : Int32) (S : zS) : Option zS :=
  zlet (zput S 0 65 x1) fun T1 =>
  zlet (zput T1 0 66 (T1.1 26 (Int32.toNatClampNeg 2))) fun T2 =>
  f_X12_laySecond_L100 K8 zN x1 0 T2
def f_X12_laySecond_B45 (K8 : Int32 → zS → Option zS) (x1 : Int32) (S : zS) : Option zS :=
  zlet (zput S 26 (Int32.toNatClampNeg 1) x1) fun T1 =>
  zu (f_X12_layLast T1) fun T3 =>
  if (T3.1 0 65) = (-2) then
    f_X12_laySecond_B83 K8 x1 T3
  else
    if (T3.1 27 (Int32.toNatClampNeg 1)) < (T3.1 25 (Int32.toNatClampNeg 1)) then
      f_X12_laySecond_B83 K8 x1 T3
    else
      zlet (x1 + 1) fun v6 =>
      K8 v6 T3
def f_X12_laySecond_L8 : Nat → Int32 → zS → Option zS
  | 0, _, _ => none
  | n + 1, x1, S =>
    if x1 < (S.1 19 (Int32.toNatClampNeg 96)) then
      zb (f_X12_canPull 1 x1 S) fun r4 T3 =>
      if r4 = 0 then
        zlet (x1 + 1) fun v6 =>
        (f_X12_laySecond_L8 n) v6 T3
      else
        if x1 < 0 then
          f_X12_laySecond_B45 (f_X12_laySecond_L8 n) x1 T3
        else
          if x1 = (T3.1 26 (Int32.toNatClampNeg 0)) then
            zlet (x1 + 1) fun v8 =>
            (f_X12_laySecond_L8 n) v8 T3
          else
            f_X12_laySecond_B45 (f_X12_laySecond_L8 n) x1 T3
    else
      some S
def f_X12_laySecond  (S : zS) : Option zS :=
  zlet (zput S 0 65 (-2)) fun T1 =>
  f_X12_laySecond_L8 zN (-1) T1
set_option maxRecDepth 100000 in
theorem w_X12_laySecond_L100 (l : Launch) {S1 : zS} (K8 : Int32 → zS → Option zS) (hK8 : ∀ (x1 : Int32) (S : zS), K8 x1 S = some S1 → WA zLM l RX12 cX12_laySecond 3 none 10 none S1 8 [(0, .ref 0), (1, .int x1)] [] S) : ∀ (n : Nat) (x1 : Int32) (x2 : Int32) (S : zS), f_X12_laySecond_L100 K8 n x1 x2 S = some S1 → WA zLM l RX12 cX12_laySecond 3 none 10 none S1 100 [(0, .ref 0), (1, .int x1), (2, .int x2)] [] S := by
  intro n
  induction n with
  | zero =>
    intro x1 x2 S h
    exact nomatch h
  | succ n ih =>
    intro x1 x2 S h
    rw [f_X12_laySecond_L100] at h
    refine z_iload_n (pc := 100) (q := 2) dX12_laySecond_100 rfl rfl ?_
    refine z_iconst (pc := 101) (v := 3) dX12_laySecond_101 zci_3 ?_
    refine z_icmp_ge (pc := 102) (tgt := 123) dX12_laySecond_102 (by decide) (fun c1 => ?_) (fun c1 => ?_)
    · have h := ze_some c1 h
      obtain ⟨v2, ev2, h⟩ := zl_some h
      refine z_iinc (pc := 123) (q := 1) (v := v2) (lo' := [(1, .int v2), (0, .ref 0), (2, .int x2)]) dX12_laySecond_123 rfl (by rw [ev2, zci_1]) (by decide) rfl ?_
      refine z_goto (pc := 126) (tgt := 8) dX12_laySecond_126 (by decide) ?_
      exact z_sub [1, 0] rfl (hK8 v2 S h)
    · have h := zt_some c1 h
      refine z_aload_n (pc := 105) (q := 0) dX12_laySecond_105 rfl rfl ?_
      refine z_getR (pc := 106) dX12_laySecond_106 zf_X12_100 gM_0_64 ?_
      refine z_iload_n (pc := 109) (q := 2) dX12_laySecond_109 rfl rfl ?_
      refine z_aload_n (pc := 110) (q := 0) dX12_laySecond_110 rfl rfl ?_
      refine z_getR (pc := 111) dX12_laySecond_111 zf_X12_94 gM_0_62 ?_
      refine z_iload_n (pc := 114) (q := 2) dX12_laySecond_114 rfl rfl ?_
      obtain ⟨c2, h⟩ := zg_some h
      refine z_iald (pc := 115) dX12_laySecond_115 aM_25 c2 ?_
      obtain ⟨c3, h⟩ := zg_some h
      obtain ⟨T4, eT4, h⟩ := zl_some h
      refine z_iast (pc := 116) dX12_laySecond_116 aM_27 c3 eT4 ?_
      obtain ⟨v5, ev5, h⟩ := zl_some h
      refine z_iinc (pc := 117) (q := 2) (v := v5) (lo' := [(2, .int v5), (0, .ref 0), (1, .int x1)]) dX12_laySecond_117 rfl (by rw [ev5, zci_1]) (by decide) rfl ?_
      refine z_goto (pc := 120) (tgt := 100) dX12_laySecond_120 (by decide) ?_
      exact z_sub [1, 2, 0] rfl (ih x1 v5 T4 h)
set_option maxRecDepth 100000 in
theorem w_X12_laySecond_B83 (l : Launch) {S1 : zS} (K8 : Int32 → zS → Option zS) (hK8 : ∀ (x1 : Int32) (S : zS), K8 x1 S = some S1 → WA zLM l RX12 cX12_laySecond 3 none 10 none S1 8 [(0, .ref 0), (1, .int x1)] [] S) (x1 : Int32) (S : zS) (h : f_X12_laySecond_B83 K8 x1 S = some S1) : WA zLM l RX12 cX12_laySecond 3 none 10 none S1 83 [(0, .ref 0), (1, .int x1)] [] S := by
  unfold f_X12_laySecond_B83 at h
  refine z_aload_n (pc := 83) (q := 0) dX12_laySecond_83 rfl rfl ?_
  refine z_iload_n (pc := 84) (q := 1) dX12_laySecond_84 rfl rfl ?_
  obtain ⟨T1, eT1, h⟩ := zl_some h
  refine z_putI (pc := 85) dX12_laySecond_85 zp_X12_548 gM_0_65 rfl rfl eT1 ?_
  refine z_aload_n (pc := 88) (q := 0) dX12_laySecond_88 rfl rfl ?_
  refine z_aload_n (pc := 89) (q := 0) dX12_laySecond_89 rfl rfl ?_
  refine z_getR (pc := 90) dX12_laySecond_90 zf_X12_97 gM_0_63 ?_
  refine z_iconst (pc := 93) (v := 2) dX12_laySecond_93 zci_2 ?_
  refine z_iald (pc := 94) dX12_laySecond_94 aM_26 (by decide) ?_
  obtain ⟨T2, eT2, h⟩ := zl_some h
  refine z_putI (pc := 95) dX12_laySecond_95 zp_X12_557 gM_0_66 rfl rfl eT2 ?_
  refine z_iconst (pc := 98) (v := 0) dX12_laySecond_98 zci_0 ?_
  refine z_istore_n (pc := 99) (lo' := [(2, .int 0), (0, .ref 0), (1, .int x1)]) dX12_laySecond_99 rfl (by decide) rfl ?_
  exact z_sub [1, 2, 0] rfl (w_X12_laySecond_L100 l K8 hK8 zN x1 0 T2 h)
set_option maxRecDepth 100000 in
theorem w_X12_laySecond_B45 (l : Launch) {S1 : zS} (K8 : Int32 → zS → Option zS) (hK8 : ∀ (x1 : Int32) (S : zS), K8 x1 S = some S1 → WA zLM l RX12 cX12_laySecond 3 none 10 none S1 8 [(0, .ref 0), (1, .int x1)] [] S) (x1 : Int32) (S : zS) (h : f_X12_laySecond_B45 K8 x1 S = some S1) : WA zLM l RX12 cX12_laySecond 3 none 10 none S1 45 [(0, .ref 0), (1, .int x1)] [] S := by
  unfold f_X12_laySecond_B45 at h
  refine z_aload_n (pc := 45) (q := 0) dX12_laySecond_45 rfl rfl ?_
  refine z_getR (pc := 46) dX12_laySecond_46 zf_X12_97 gM_0_63 ?_
  refine z_iconst (pc := 49) (v := 1) dX12_laySecond_49 zci_1 ?_
  refine z_iload_n (pc := 50) (q := 1) dX12_laySecond_50 rfl rfl ?_
  obtain ⟨T1, eT1, h⟩ := zl_some h
  refine z_iast (pc := 51) dX12_laySecond_51 aM_26 (by decide) eT1 ?_
  refine z_aload_n (pc := 52) (q := 0) dX12_laySecond_52 rfl rfl ?_
  obtain ⟨T3, q2, h⟩ := zu_some h
  refine z_callVv (pc := 53) (st := []) [] dX12_laySecond_53 zm_X12_554 zM_X12_layLast (by decide) oM_0 rfl (w_X12_layLast l q2) rfl rfl (Nat.le_of_ble_eq_true rfl) ?_
  refine z_aload_n (pc := 56) (q := 0) dX12_laySecond_56 rfl rfl ?_
  refine z_getI (pc := 57) dX12_laySecond_57 zf_X12_548 gM_0_65 ?_
  refine z_bipush (pc := 60) (v := (-2)) dX12_laySecond_60 zcb_m2 ?_
  refine z_icmp_eq (pc := 62) (tgt := 83) dX12_laySecond_62 (by decide) (fun c4 => ?_) (fun c4 => ?_)
  · have h := zt_some c4 h
    exact w_X12_laySecond_B83 l K8 hK8 x1 T3 h
  · have h := ze_some c4 h
    refine z_aload_n (pc := 65) (q := 0) dX12_laySecond_65 rfl rfl ?_
    refine z_getR (pc := 66) dX12_laySecond_66 zf_X12_94 gM_0_62 ?_
    refine z_iconst (pc := 69) (v := 1) dX12_laySecond_69 zci_1 ?_
    refine z_iald (pc := 70) dX12_laySecond_70 aM_25 (by decide) ?_
    refine z_aload_n (pc := 71) (q := 0) dX12_laySecond_71 rfl rfl ?_
    refine z_getR (pc := 72) dX12_laySecond_72 zf_X12_100 gM_0_64 ?_
    refine z_iconst (pc := 75) (v := 1) dX12_laySecond_75 zci_1 ?_
    refine z_iald (pc := 76) dX12_laySecond_76 aM_27 (by decide) ?_
    refine z_icmp_gt (pc := 77) (tgt := 83) dX12_laySecond_77 (by decide) (fun c5 => ?_) (fun c5 => ?_)
    · have h := zt_some c5 h
      exact w_X12_laySecond_B83 l K8 hK8 x1 T3 h
    · have h := ze_some c5 h
      refine z_goto (pc := 80) (tgt := 123) dX12_laySecond_80 (by decide) ?_
      obtain ⟨v6, ev6, h⟩ := zl_some h
      refine z_iinc (pc := 123) (q := 1) (v := v6) (lo' := [(1, .int v6), (0, .ref 0)]) dX12_laySecond_123 rfl (by rw [ev6, zci_1]) (by decide) rfl ?_
      refine z_goto (pc := 126) (tgt := 8) dX12_laySecond_126 (by decide) ?_
      exact z_sub [1, 0] rfl (hK8 v6 T3 h)
set_option maxRecDepth 100000 in
theorem w_X12_laySecond_L8 (l : Launch) {S1 : zS} : ∀ (n : Nat) (x1 : Int32) (S : zS), f_X12_laySecond_L8 n x1 S = some S1 → WA zLM l RX12 cX12_laySecond 3 none 10 none S1 8 [(0, .ref 0), (1, .int x1)] [] S := by
  intro n
  induction n with
  | zero =>
    intro x1 S h
    exact nomatch h
  | succ n ih =>
    intro x1 S h
    rw [f_X12_laySecond_L8] at h
    refine z_iload_n (pc := 8) (q := 1) dX12_laySecond_8 rfl rfl ?_
    refine z_aload_n (pc := 9) (q := 0) dX12_laySecond_9 rfl rfl ?_
    refine z_getR (pc := 10) dX12_laySecond_10 zf_X12_76 gM_0_53 ?_
    refine z_bipush (pc := 13) (v := 96) dX12_laySecond_13 zcb_96 ?_
    refine z_iald (pc := 15) dX12_laySecond_15 aM_19 (by decide) ?_
    refine z_icmp_ge (pc := 16) (tgt := 129) dX12_laySecond_16 (by decide) (fun c1 => ?_) (fun c1 => ?_)
    · have h := ze_some c1 h
      cases h
      exact z_vret dX12_laySecond_129
    · have h := zt_some c1 h
      refine z_aload_n (pc := 19) (q := 0) dX12_laySecond_19 rfl rfl ?_
      refine z_iconst (pc := 20) (v := 1) dX12_laySecond_20 zci_1 ?_
      refine z_iload_n (pc := 21) (q := 1) dX12_laySecond_21 rfl rfl ?_
      obtain ⟨r4, T3, q2, h⟩ := zb_some h
      refine z_callVi (pc := 22) (st := []) [.int 1, .int x1] dX12_laySecond_22 zm_X12_551 zM_X12_canPull (by decide) oM_0 rfl (w_X12_canPull l q2) rfl rfl (Nat.le_of_ble_eq_true rfl) ?_
      refine z_if_eq (pc := 25) (tgt := 123) dX12_laySecond_25 (by decide) (fun c5 => ?_) (fun c5 => ?_)
      · have h := zt_some c5 h
        obtain ⟨v6, ev6, h⟩ := zl_some h
        refine z_iinc (pc := 123) (q := 1) (v := v6) (lo' := [(1, .int v6), (0, .ref 0)]) dX12_laySecond_123 rfl (by rw [ev6, zci_1]) (by decide) rfl ?_
        refine z_goto (pc := 126) (tgt := 8) dX12_laySecond_126 (by decide) ?_
        exact z_sub [1, 0] rfl (ih v6 T3 h)
      · have h := ze_some c5 h
        refine z_iload_n (pc := 28) (q := 1) dX12_laySecond_28 rfl rfl ?_
        refine z_if_lt (pc := 29) (tgt := 45) dX12_laySecond_29 (by decide) (fun c6 => ?_) (fun c6 => ?_)
        · have h := zt_some c6 h
          exact w_X12_laySecond_B45 l (f_X12_laySecond_L8 n) ih x1 T3 h
        · have h := ze_some c6 h
          refine z_iload_n (pc := 32) (q := 1) dX12_laySecond_32 rfl rfl ?_
          refine z_aload_n (pc := 33) (q := 0) dX12_laySecond_33 rfl rfl ?_
          refine z_getR (pc := 34) dX12_laySecond_34 zf_X12_97 gM_0_63 ?_
          refine z_iconst (pc := 37) (v := 0) dX12_laySecond_37 zci_0 ?_
          refine z_iald (pc := 38) dX12_laySecond_38 aM_26 (by decide) ?_
          refine z_icmp_ne (pc := 39) (tgt := 45) dX12_laySecond_39 (by decide) (fun c7 => ?_) (fun c7 => ?_)
          · have h := ze_some c7 h
            exact w_X12_laySecond_B45 l (f_X12_laySecond_L8 n) ih x1 T3 h
          · have h := zt_some c7 h
            refine z_goto (pc := 42) (tgt := 123) dX12_laySecond_42 (by decide) ?_
            obtain ⟨v8, ev8, h⟩ := zl_some h
            refine z_iinc (pc := 123) (q := 1) (v := v8) (lo' := [(1, .int v8), (0, .ref 0)]) dX12_laySecond_123 rfl (by rw [ev8, zci_1]) (by decide) rfl ?_
            refine z_goto (pc := 126) (tgt := 8) dX12_laySecond_126 (by decide) ?_
            exact z_sub [1, 0] rfl (ih v8 T3 h)
set_option maxRecDepth 100000 in
theorem w_X12_laySecond (l : Launch)  {S : zS} {S1 : zS} (h : f_X12_laySecond S = some S1) : zMet zLM l yX12_laySecond cX12_laySecond 3 none 10 [.ref 0] S none S1 := by
  unfold f_X12_laySecond at h
  refine zMet.of (by decide +kernel) (Nat.le_of_ble_eq_true rfl) ?_
  show WA zLM l RX12 cX12_laySecond 3 none 10 none S1 0 [(0, .ref 0)] [] S
  refine z_aload_n (pc := 0) (q := 0) dX12_laySecond_0 rfl rfl ?_
  refine z_bipush (pc := 1) (v := (-2)) dX12_laySecond_1 zcb_m2 ?_
  obtain ⟨T1, eT1, h⟩ := zl_some h
  refine z_putI (pc := 3) dX12_laySecond_3 zp_X12_548 gM_0_65 rfl rfl eT1 ?_
  refine z_iconst (pc := 6) (v := (-1)) dX12_laySecond_6 zci_m1 ?_
  refine z_istore_n (pc := 7) (lo' := [(1, .int (-1)), (0, .ref 0)]) dX12_laySecond_7 rfl (by decide) rfl ?_
  exact z_sub [1, 0] rfl (w_X12_laySecond_L8 l zN (-1) T1 h)
