def f_X12_four_L3 : Nat → Int32 → Int32 → zS → Option zS
  | 0, _, _, _ => none
  | n + 1, x1, x2, S =>
    if x2 < 0 then
      some S
    else
      if zin (S.1 0 1) 1600 then
      zlet (zput S 1 (S.1 0 1).toNatClampNeg ((x1 >>> (x2 &&& 31)) &&& 255)) fun T3 =>
      zlet (zput T3 0 1 ((T3.1 0 1) + 1)) fun T4 =>
      zlet (x2 + (-8)) fun v5 =>
      (f_X12_four_L3 n) x1 v5 T4 else none
def f_X12_four (x1 : Int32) (S : zS) : Option zS :=
  f_X12_four_L3 zN x1 24 S
set_option maxRecDepth 100000 in
theorem w_X12_four_L3 (l : Launch) {S1 : zS} : ∀ (n : Nat) (x1 : Int32) (x2 : Int32) (S : zS), f_X12_four_L3 n x1 x2 S = some S1 → WA zLM l RX12 cX12_four 3 none 1 none S1 3 [(0, .ref 0), (1, .int x1), (2, .int x2)] [] S := by
  intro n
  induction n with
  | zero =>
    intro x1 x2 S h
    exact nomatch h
  | succ n ih =>
    intro x1 x2 S h
    rw [f_X12_four_L3] at h
    refine z_iload_n (pc := 3) (q := 2) dX12_four_3 rfl rfl ?_
    refine z_if_lt (pc := 4) (tgt := 39) dX12_four_4 (by decide) (fun c1 => ?_) (fun c1 => ?_)
    · have h := zt_some c1 h
      cases h
      exact z_vret dX12_four_39
    · have h := ze_some c1 h
      refine z_aload_n (pc := 7) (q := 0) dX12_four_7 rfl rfl ?_
      refine z_getR (pc := 8) dX12_four_8 zf_X12_7 gM_0_0 ?_
      refine z_aload_n (pc := 11) (q := 0) dX12_four_11 rfl rfl ?_
      refine z_getI (pc := 12) dX12_four_12 zf_X12_133 gM_0_1 ?_
      refine z_iload_n (pc := 15) (q := 1) dX12_four_15 rfl rfl ?_
      refine z_iload_n (pc := 16) (q := 2) dX12_four_16 rfl rfl ?_
      refine z_ishr (pc := 17) dX12_four_17 ?_
      refine z_sipush (pc := 18) (v := 255) dX12_four_18 zcs_255 ?_
      refine z_iand (pc := 21) dX12_four_21 ?_
      obtain ⟨c2, h⟩ := zg_some h
      obtain ⟨T3, eT3, h⟩ := zl_some h
      refine z_iast (pc := 22) dX12_four_22 aM_1 c2 eT3 ?_
      refine z_aload_n (pc := 23) (q := 0) dX12_four_23 rfl rfl ?_
      refine z_dup (pc := 24) dX12_four_24 rfl ?_
      refine z_getI (pc := 25) dX12_four_25 zf_X12_133 gM_0_1 ?_
      refine z_iconst (pc := 28) (v := 1) dX12_four_28 zci_1 ?_
      refine z_iadd (pc := 29) dX12_four_29 ?_
      obtain ⟨T4, eT4, h⟩ := zl_some h
      refine z_putI (pc := 30) dX12_four_30 zp_X12_133 gM_0_1 rfl rfl eT4 ?_
      obtain ⟨v5, ev5, h⟩ := zl_some h
      refine z_iinc (pc := 33) (q := 2) (v := v5) (lo' := [(2, .int v5), (0, .ref 0), (1, .int x1)]) dX12_four_33 rfl (by rw [ev5, zci_m8]) (by decide) rfl ?_
      refine z_goto (pc := 36) (tgt := 3) dX12_four_36 (by decide) ?_
      exact z_sub [1, 2, 0] rfl (ih x1 v5 T4 h)
set_option maxRecDepth 100000 in
theorem w_X12_four (l : Launch) {x1 : Int32} {S : zS} {S1 : zS} (h : f_X12_four x1 S = some S1) : zMet zLM l yX12_four cX12_four 3 none 1 [.ref 0, .int x1] S none S1 := by
  unfold f_X12_four at h
  refine zMet.of (by decide +kernel) (Nat.le_of_ble_eq_true rfl) ?_
  show WA zLM l RX12 cX12_four 3 none 1 none S1 0 [(0, .ref 0), (1, .int x1)] [] S
  refine z_bipush (pc := 0) (v := 24) dX12_four_0 zcb_24 ?_
  refine z_istore_n (pc := 2) (lo' := [(2, .int 24), (0, .ref 0), (1, .int x1)]) dX12_four_2 rfl (by decide) rfl ?_
  exact z_sub [1, 2, 0] rfl (w_X12_four_L3 l zN x1 24 S h)
def f_X12_feed (x1 : Int32) (x2 : Int32) (x3 : Int32) (x4 : Int32) (x5 : Int32) (S : zS) : Option (Int32 × zS) :=
  if (1600 : Int32) < ((S.1 0 1) + 20) then
    some ((-1), S)
  else
    zu (f_X12_four x1 S) fun T3 =>
    zu (f_X12_four x2 T3) fun T5 =>
    zu (f_X12_four x3 T5) fun T7 =>
    zu (f_X12_four x4 T7) fun T9 =>
    zu (f_X12_four x5 T9) fun T11 =>
    some (T11.1 0 1, T11)
set_option maxRecDepth 100000 in
theorem w_X12_feed (l : Launch) {x1 : Int32} {x2 : Int32} {x3 : Int32} {x4 : Int32} {x5 : Int32} {S : zS} {r : Int32} {S1 : zS} (h : f_X12_feed x1 x2 x3 x4 x5 S = some (r, S1)) : zMet zLM l yX12_feed cX12_feed 6 (some .int) 2 [.ref 0, .int x1, .int x2, .int x3, .int x4, .int x5] S (some (.int r)) S1 := by
  unfold f_X12_feed at h
  refine zMet.of (by decide +kernel) (Nat.le_of_ble_eq_true rfl) ?_
  show WA zLM l RX12 cX12_feed 6 (some .int) 2 (some (.int r)) S1 0 [(0, .ref 0), (1, .int x1), (2, .int x2), (3, .int x3), (4, .int x4), (5, .int x5)] [] S
  refine z_aload_n (pc := 0) (q := 0) dX12_feed_0 rfl rfl ?_
  refine z_getI (pc := 1) dX12_feed_1 zf_X12_133 gM_0_1 ?_
  refine z_bipush (pc := 4) (v := 20) dX12_feed_4 zcb_20 ?_
  refine z_iadd (pc := 6) dX12_feed_6 ?_
  refine z_sipush (pc := 7) (v := 1600) dX12_feed_7 zcs_1600 ?_
  refine z_icmp_le (pc := 10) (tgt := 15) dX12_feed_10 (by decide) (fun c1 => ?_) (fun c1 => ?_)
  · have h := ze_some c1 h
    refine z_aload_n (pc := 15) (q := 0) dX12_feed_15 rfl rfl ?_
    refine z_iload_n (pc := 16) (q := 1) dX12_feed_16 rfl rfl ?_
    obtain ⟨T3, q2, h⟩ := zu_some h
    refine z_callVv (pc := 17) (st := []) [.int x1] dX12_feed_17 zm_X12_136 zM_X12_four (by decide) oM_0 rfl (w_X12_four l q2) rfl rfl (Nat.le_of_ble_eq_true rfl) ?_
    refine z_aload_n (pc := 20) (q := 0) dX12_feed_20 rfl rfl ?_
    refine z_iload_n (pc := 21) (q := 2) dX12_feed_21 rfl rfl ?_
    obtain ⟨T5, q4, h⟩ := zu_some h
    refine z_callVv (pc := 22) (st := []) [.int x2] dX12_feed_22 zm_X12_136 zM_X12_four (by decide) oM_0 rfl (w_X12_four l q4) rfl rfl (Nat.le_of_ble_eq_true rfl) ?_
    refine z_aload_n (pc := 25) (q := 0) dX12_feed_25 rfl rfl ?_
    refine z_iload_n (pc := 26) (q := 3) dX12_feed_26 rfl rfl ?_
    obtain ⟨T7, q6, h⟩ := zu_some h
    refine z_callVv (pc := 27) (st := []) [.int x3] dX12_feed_27 zm_X12_136 zM_X12_four (by decide) oM_0 rfl (w_X12_four l q6) rfl rfl (Nat.le_of_ble_eq_true rfl) ?_
    refine z_aload_n (pc := 30) (q := 0) dX12_feed_30 rfl rfl ?_
    refine z_iload (pc := 31) (q := 4) dX12_feed_31 rfl ?_
    obtain ⟨T9, q8, h⟩ := zu_some h
    refine z_callVv (pc := 33) (st := []) [.int x4] dX12_feed_33 zm_X12_136 zM_X12_four (by decide) oM_0 rfl (w_X12_four l q8) rfl rfl (Nat.le_of_ble_eq_true rfl) ?_
    refine z_aload_n (pc := 36) (q := 0) dX12_feed_36 rfl rfl ?_
    refine z_iload (pc := 37) (q := 5) dX12_feed_37 rfl ?_
    obtain ⟨T11, q10, h⟩ := zu_some h
    refine z_callVv (pc := 39) (st := []) [.int x5] dX12_feed_39 zm_X12_136 zM_X12_four (by decide) oM_0 rfl (w_X12_four l q10) rfl rfl (Nat.le_of_ble_eq_true rfl) ?_
    refine z_aload_n (pc := 42) (q := 0) dX12_feed_42 rfl rfl ?_
    refine z_getI (pc := 43) dX12_feed_43 zf_X12_133 gM_0_1 ?_
    obtain ⟨rfl, rfl⟩ := zr_some h
    exact z_iret dX12_feed_46
  · have h := zt_some c1 h
    refine z_iconst (pc := 13) (v := (-1)) dX12_feed_13 zci_m1 ?_
    obtain ⟨rfl, rfl⟩ := zr_some h
    exact z_iret dX12_feed_14
def f_X12_end (x1 : Int32) (S : zS) : Option (Int32 × zS) :=
  if x1 < 0 then
    some ((-1), S)
  else
    if (S.1 0 1) < x1 then
      some ((-1), S)
    else
      zlet (zput S 0 1 x1) fun T3 =>
      some (x1, T3)
set_option maxRecDepth 100000 in
theorem w_X12_end (l : Launch) {x1 : Int32} {S : zS} {r : Int32} {S1 : zS} (h : f_X12_end x1 S = some (r, S1)) : zMet zLM l yX12_end cX12_end 2 (some .int) 1 [.ref 0, .int x1] S (some (.int r)) S1 := by
  unfold f_X12_end at h
  refine zMet.of (by decide +kernel) (Nat.le_of_ble_eq_true rfl) ?_
  show WA zLM l RX12 cX12_end 2 (some .int) 1 (some (.int r)) S1 0 [(0, .ref 0), (1, .int x1)] [] S
  refine z_iload_n (pc := 0) (q := 1) dX12_end_0 rfl rfl ?_
  refine z_if_lt (pc := 1) (tgt := 12) dX12_end_1 (by decide) (fun c1 => ?_) (fun c1 => ?_)
  · have h := zt_some c1 h
    refine z_iconst (pc := 12) (v := (-1)) dX12_end_12 zci_m1 ?_
    obtain ⟨rfl, rfl⟩ := zr_some h
    exact z_iret dX12_end_13
  · have h := ze_some c1 h
    refine z_iload_n (pc := 4) (q := 1) dX12_end_4 rfl rfl ?_
    refine z_aload_n (pc := 5) (q := 0) dX12_end_5 rfl rfl ?_
    refine z_getI (pc := 6) dX12_end_6 zf_X12_133 gM_0_1 ?_
    refine z_icmp_le (pc := 9) (tgt := 14) dX12_end_9 (by decide) (fun c2 => ?_) (fun c2 => ?_)
    · have h := ze_some c2 h
      refine z_aload_n (pc := 14) (q := 0) dX12_end_14 rfl rfl ?_
      refine z_iload_n (pc := 15) (q := 1) dX12_end_15 rfl rfl ?_
      obtain ⟨T3, eT3, h⟩ := zl_some h
      refine z_putI (pc := 16) dX12_end_16 zp_X12_133 gM_0_1 rfl rfl eT3 ?_
      refine z_iload_n (pc := 19) (q := 1) dX12_end_19 rfl rfl ?_
      obtain ⟨rfl, rfl⟩ := zr_some h
      exact z_iret dX12_end_20
    · have h := zt_some c2 h
      refine z_iconst (pc := 12) (v := (-1)) dX12_end_12 zci_m1 ?_
      obtain ⟨rfl, rfl⟩ := zr_some h
      exact z_iret dX12_end_13
def f_X12_here (x1 : Int32) (S : zS) : Option (Int32 × zS) :=
  if ((S.1 0 4) + x1) < (S.1 0 5) then
    if zin ((S.1 0 4) + x1) 1600 then
    some (S.1 1 ((S.1 0 4) + x1).toNatClampNeg, S) else none
  else
    some ((-1), S)
set_option maxRecDepth 100000 in
theorem w_X12_here (l : Launch) {x1 : Int32} {S : zS} {r : Int32} {S1 : zS} (h : f_X12_here x1 S = some (r, S1)) : zMet zLM l yX12_here cX12_here 2 (some .int) 1 [.ref 0, .int x1] S (some (.int r)) S1 := by
  unfold f_X12_here at h
  refine zMet.of (by decide +kernel) (Nat.le_of_ble_eq_true rfl) ?_
  show WA zLM l RX12 cX12_here 2 (some .int) 1 (some (.int r)) S1 0 [(0, .ref 0), (1, .int x1)] [] S
  refine z_aload_n (pc := 0) (q := 0) dX12_here_0 rfl rfl ?_
  refine z_getI (pc := 1) dX12_here_1 zf_X12_140 gM_0_4 ?_
  refine z_iload_n (pc := 4) (q := 1) dX12_here_4 rfl rfl ?_
  refine z_iadd (pc := 5) dX12_here_5 ?_
  refine z_aload_n (pc := 6) (q := 0) dX12_here_6 rfl rfl ?_
  refine z_getI (pc := 7) dX12_here_7 zf_X12_143 gM_0_5 ?_
  refine z_icmp_ge (pc := 10) (tgt := 27) dX12_here_10 (by decide) (fun c1 => ?_) (fun c1 => ?_)
  · have h := ze_some c1 h
    refine z_iconst (pc := 27) (v := (-1)) dX12_here_27 zci_m1 ?_
    obtain ⟨rfl, rfl⟩ := zr_some h
    exact z_iret dX12_here_28
  · have h := zt_some c1 h
    refine z_aload_n (pc := 13) (q := 0) dX12_here_13 rfl rfl ?_
    refine z_getR (pc := 14) dX12_here_14 zf_X12_7 gM_0_0 ?_
    refine z_aload_n (pc := 17) (q := 0) dX12_here_17 rfl rfl ?_
    refine z_getI (pc := 18) dX12_here_18 zf_X12_140 gM_0_4 ?_
    refine z_iload_n (pc := 21) (q := 1) dX12_here_21 rfl rfl ?_
    refine z_iadd (pc := 22) dX12_here_22 ?_
    obtain ⟨c2, h⟩ := zg_some h
    refine z_iald (pc := 23) dX12_here_23 aM_1 c2 ?_
    refine z_goto (pc := 24) (tgt := 28) dX12_here_24 (by decide) ?_
    obtain ⟨rfl, rfl⟩ := zr_some h
    exact z_iret dX12_here_28
def f_X12_isLetter (x0 : Int32) (S : zS) : Option (Int32 × zS) :=
  if x0 < 97 then
    some (0, S)
  else
    if (122 : Int32) < x0 then
      some (0, S)
    else
      some (1, S)
set_option maxRecDepth 100000 in
theorem w_X12_isLetter (l : Launch) {x0 : Int32} {S : zS} {r : Int32} {S1 : zS} (h : f_X12_isLetter x0 S = some (r, S1)) : zMet zLM l yX12_isLetter cX12_isLetter 1 (some .boolean) 1 [.int x0] S (some (.int r)) S1 := by
  unfold f_X12_isLetter at h
  refine zMet.of (by decide +kernel) (Nat.le_of_ble_eq_true rfl) ?_
  show WA zLM l RX12 cX12_isLetter 1 (some .boolean) 1 (some (.int r)) S1 0 [(0, .int x0)] [] S
  refine z_iload_n (pc := 0) (q := 0) dX12_isLetter_0 rfl rfl ?_
  refine z_bipush (pc := 1) (v := 97) dX12_isLetter_1 zcb_97 ?_
  refine z_icmp_lt (pc := 3) (tgt := 16) dX12_isLetter_3 (by decide) (fun c1 => ?_) (fun c1 => ?_)
  · have h := zt_some c1 h
    refine z_iconst (pc := 16) (v := 0) dX12_isLetter_16 zci_0 ?_
    obtain ⟨rfl, rfl⟩ := zr_some h
    exact z_zret dX12_isLetter_17 rfl
  · have h := ze_some c1 h
    refine z_iload_n (pc := 6) (q := 0) dX12_isLetter_6 rfl rfl ?_
    refine z_bipush (pc := 7) (v := 122) dX12_isLetter_7 zcb_122 ?_
    refine z_icmp_gt (pc := 9) (tgt := 16) dX12_isLetter_9 (by decide) (fun c2 => ?_) (fun c2 => ?_)
    · have h := zt_some c2 h
      refine z_iconst (pc := 16) (v := 0) dX12_isLetter_16 zci_0 ?_
      obtain ⟨rfl, rfl⟩ := zr_some h
      exact z_zret dX12_isLetter_17 rfl
    · have h := ze_some c2 h
      refine z_iconst (pc := 12) (v := 1) dX12_isLetter_12 zci_1 ?_
      refine z_goto (pc := 13) (tgt := 17) dX12_isLetter_13 (by decide) ?_
      obtain ⟨rfl, rfl⟩ := zr_some h
      exact z_zret dX12_isLetter_17 rfl
def f_X12_isDigit (x0 : Int32) (S : zS) : Option (Int32 × zS) :=
  if x0 < 48 then
    some (0, S)
  else
    if (57 : Int32) < x0 then
      some (0, S)
    else
      some (1, S)
set_option maxRecDepth 100000 in
theorem w_X12_isDigit (l : Launch) {x0 : Int32} {S : zS} {r : Int32} {S1 : zS} (h : f_X12_isDigit x0 S = some (r, S1)) : zMet zLM l yX12_isDigit cX12_isDigit 1 (some .boolean) 1 [.int x0] S (some (.int r)) S1 := by
  unfold f_X12_isDigit at h
  refine zMet.of (by decide +kernel) (Nat.le_of_ble_eq_true rfl) ?_
  show WA zLM l RX12 cX12_isDigit 1 (some .boolean) 1 (some (.int r)) S1 0 [(0, .int x0)] [] S
  refine z_iload_n (pc := 0) (q := 0) dX12_isDigit_0 rfl rfl ?_
  refine z_bipush (pc := 1) (v := 48) dX12_isDigit_1 zcb_48 ?_
  refine z_icmp_lt (pc := 3) (tgt := 16) dX12_isDigit_3 (by decide) (fun c1 => ?_) (fun c1 => ?_)
  · have h := zt_some c1 h
    refine z_iconst (pc := 16) (v := 0) dX12_isDigit_16 zci_0 ?_
    obtain ⟨rfl, rfl⟩ := zr_some h
    exact z_zret dX12_isDigit_17 rfl
  · have h := ze_some c1 h
    refine z_iload_n (pc := 6) (q := 0) dX12_isDigit_6 rfl rfl ?_
    refine z_bipush (pc := 7) (v := 57) dX12_isDigit_7 zcb_57 ?_
    refine z_icmp_gt (pc := 9) (tgt := 16) dX12_isDigit_9 (by decide) (fun c2 => ?_) (fun c2 => ?_)
    · have h := zt_some c2 h
      refine z_iconst (pc := 16) (v := 0) dX12_isDigit_16 zci_0 ?_
      obtain ⟨rfl, rfl⟩ := zr_some h
      exact z_zret dX12_isDigit_17 rfl
    · have h := ze_some c2 h
      refine z_iconst (pc := 12) (v := 1) dX12_isDigit_12 zci_1 ?_
      refine z_goto (pc := 13) (tgt := 17) dX12_isDigit_13 (by decide) ?_
      obtain ⟨rfl, rfl⟩ := zr_some h
      exact z_zret dX12_isDigit_17 rfl
def f_X12_isSign (x0 : Int32) (S : zS) : Option (Int32 × zS) :=
  if x0 = 59 then
    some (1, S)
  else
    if x0 = 40 then
      some (1, S)
    else
      if x0 = 41 then
        some (1, S)
      else
        if x0 = 60 then
          some (1, S)
        else
          if x0 = 62 then
            some (1, S)
          else
            if x0 = 61 then
              some (1, S)
            else
              if x0 = 43 then
                some (1, S)
              else
                if x0 = 45 then
                  some (1, S)
                else
                  if x0 = 42 then
                    some (1, S)
                  else
                    if x0 = 47 then
                      some (1, S)
                    else
                      if x0 = 37 then
                        some (1, S)
                      else
                        some (0, S)
set_option maxRecDepth 100000 in
theorem w_X12_isSign (l : Launch) {x0 : Int32} {S : zS} {r : Int32} {S1 : zS} (h : f_X12_isSign x0 S = some (r, S1)) : zMet zLM l yX12_isSign cX12_isSign 1 (some .boolean) 1 [.int x0] S (some (.int r)) S1 := by
  unfold f_X12_isSign at h
  refine zMet.of (by decide +kernel) (Nat.le_of_ble_eq_true rfl) ?_
  show WA zLM l RX12 cX12_isSign 1 (some .boolean) 1 (some (.int r)) S1 0 [(0, .int x0)] [] S
  refine z_iload_n (pc := 0) (q := 0) dX12_isSign_0 rfl rfl ?_
  refine z_bipush (pc := 1) (v := 59) dX12_isSign_1 zcb_59 ?_
  refine z_icmp_eq (pc := 3) (tgt := 66) dX12_isSign_3 (by decide) (fun c1 => ?_) (fun c1 => ?_)
  · have h := zt_some c1 h
    refine z_iconst (pc := 66) (v := 1) dX12_isSign_66 zci_1 ?_
    refine z_goto (pc := 67) (tgt := 71) dX12_isSign_67 (by decide) ?_
    obtain ⟨rfl, rfl⟩ := zr_some h
    exact z_zret dX12_isSign_71 rfl
  · have h := ze_some c1 h
    refine z_iload_n (pc := 6) (q := 0) dX12_isSign_6 rfl rfl ?_
    refine z_bipush (pc := 7) (v := 40) dX12_isSign_7 zcb_40 ?_
    refine z_icmp_eq (pc := 9) (tgt := 66) dX12_isSign_9 (by decide) (fun c2 => ?_) (fun c2 => ?_)
    · have h := zt_some c2 h
      refine z_iconst (pc := 66) (v := 1) dX12_isSign_66 zci_1 ?_
      refine z_goto (pc := 67) (tgt := 71) dX12_isSign_67 (by decide) ?_
      obtain ⟨rfl, rfl⟩ := zr_some h
      exact z_zret dX12_isSign_71 rfl
    · have h := ze_some c2 h
      refine z_iload_n (pc := 12) (q := 0) dX12_isSign_12 rfl rfl ?_
      refine z_bipush (pc := 13) (v := 41) dX12_isSign_13 zcb_41 ?_
      refine z_icmp_eq (pc := 15) (tgt := 66) dX12_isSign_15 (by decide) (fun c3 => ?_) (fun c3 => ?_)
      · have h := zt_some c3 h
        refine z_iconst (pc := 66) (v := 1) dX12_isSign_66 zci_1 ?_
        refine z_goto (pc := 67) (tgt := 71) dX12_isSign_67 (by decide) ?_
        obtain ⟨rfl, rfl⟩ := zr_some h
        exact z_zret dX12_isSign_71 rfl
      · have h := ze_some c3 h
        refine z_iload_n (pc := 18) (q := 0) dX12_isSign_18 rfl rfl ?_
        refine z_bipush (pc := 19) (v := 60) dX12_isSign_19 zcb_60 ?_
        refine z_icmp_eq (pc := 21) (tgt := 66) dX12_isSign_21 (by decide) (fun c4 => ?_) (fun c4 => ?_)
        · have h := zt_some c4 h
          refine z_iconst (pc := 66) (v := 1) dX12_isSign_66 zci_1 ?_
          refine z_goto (pc := 67) (tgt := 71) dX12_isSign_67 (by decide) ?_
          obtain ⟨rfl, rfl⟩ := zr_some h
          exact z_zret dX12_isSign_71 rfl
        · have h := ze_some c4 h
          refine z_iload_n (pc := 24) (q := 0) dX12_isSign_24 rfl rfl ?_
          refine z_bipush (pc := 25) (v := 62) dX12_isSign_25 zcb_62 ?_
          refine z_icmp_eq (pc := 27) (tgt := 66) dX12_isSign_27 (by decide) (fun c5 => ?_) (fun c5 => ?_)
          · have h := zt_some c5 h
            refine z_iconst (pc := 66) (v := 1) dX12_isSign_66 zci_1 ?_
            refine z_goto (pc := 67) (tgt := 71) dX12_isSign_67 (by decide) ?_
            obtain ⟨rfl, rfl⟩ := zr_some h
            exact z_zret dX12_isSign_71 rfl
          · have h := ze_some c5 h
            refine z_iload_n (pc := 30) (q := 0) dX12_isSign_30 rfl rfl ?_
            refine z_bipush (pc := 31) (v := 61) dX12_isSign_31 zcb_61 ?_
            refine z_icmp_eq (pc := 33) (tgt := 66) dX12_isSign_33 (by decide) (fun c6 => ?_) (fun c6 => ?_)
            · have h := zt_some c6 h
              refine z_iconst (pc := 66) (v := 1) dX12_isSign_66 zci_1 ?_
              refine z_goto (pc := 67) (tgt := 71) dX12_isSign_67 (by decide) ?_
              obtain ⟨rfl, rfl⟩ := zr_some h
              exact z_zret dX12_isSign_71 rfl
            · have h := ze_some c6 h
              refine z_iload_n (pc := 36) (q := 0) dX12_isSign_36 rfl rfl ?_
              refine z_bipush (pc := 37) (v := 43) dX12_isSign_37 zcb_43 ?_
              refine z_icmp_eq (pc := 39) (tgt := 66) dX12_isSign_39 (by decide) (fun c7 => ?_) (fun c7 => ?_)
              · have h := zt_some c7 h
                refine z_iconst (pc := 66) (v := 1) dX12_isSign_66 zci_1 ?_
                refine z_goto (pc := 67) (tgt := 71) dX12_isSign_67 (by decide) ?_
                obtain ⟨rfl, rfl⟩ := zr_some h
                exact z_zret dX12_isSign_71 rfl
              · have h := ze_some c7 h
                refine z_iload_n (pc := 42) (q := 0) dX12_isSign_42 rfl rfl ?_
                refine z_bipush (pc := 43) (v := 45) dX12_isSign_43 zcb_45 ?_
                refine z_icmp_eq (pc := 45) (tgt := 66) dX12_isSign_45 (by decide) (fun c8 => ?_) (fun c8 => ?_)
                · have h := zt_some c8 h
                  refine z_iconst (pc := 66) (v := 1) dX12_isSign_66 zci_1 ?_
                  refine z_goto (pc := 67) (tgt := 71) dX12_isSign_67 (by decide) ?_
                  obtain ⟨rfl, rfl⟩ := zr_some h
                  exact z_zret dX12_isSign_71 rfl
                · have h := ze_some c8 h
                  refine z_iload_n (pc := 48) (q := 0) dX12_isSign_48 rfl rfl ?_
                  refine z_bipush (pc := 49) (v := 42) dX12_isSign_49 zcb_42 ?_
                  refine z_icmp_eq (pc := 51) (tgt := 66) dX12_isSign_51 (by decide) (fun c9 => ?_) (fun c9 => ?_)
                  · have h := zt_some c9 h
                    refine z_iconst (pc := 66) (v := 1) dX12_isSign_66 zci_1 ?_
                    refine z_goto (pc := 67) (tgt := 71) dX12_isSign_67 (by decide) ?_
                    obtain ⟨rfl, rfl⟩ := zr_some h
                    exact z_zret dX12_isSign_71 rfl
                  · have h := ze_some c9 h
                    refine z_iload_n (pc := 54) (q := 0) dX12_isSign_54 rfl rfl ?_
                    refine z_bipush (pc := 55) (v := 47) dX12_isSign_55 zcb_47 ?_
                    refine z_icmp_eq (pc := 57) (tgt := 66) dX12_isSign_57 (by decide) (fun c10 => ?_) (fun c10 => ?_)
                    · have h := zt_some c10 h
                      refine z_iconst (pc := 66) (v := 1) dX12_isSign_66 zci_1 ?_
                      refine z_goto (pc := 67) (tgt := 71) dX12_isSign_67 (by decide) ?_
                      obtain ⟨rfl, rfl⟩ := zr_some h
                      exact z_zret dX12_isSign_71 rfl
                    · have h := ze_some c10 h
                      refine z_iload_n (pc := 60) (q := 0) dX12_isSign_60 rfl rfl ?_
                      refine z_bipush (pc := 61) (v := 37) dX12_isSign_61 zcb_37 ?_
                      refine z_icmp_ne (pc := 63) (tgt := 70) dX12_isSign_63 (by decide) (fun c11 => ?_) (fun c11 => ?_)
                      · have h := ze_some c11 h
                        refine z_iconst (pc := 70) (v := 0) dX12_isSign_70 zci_0 ?_
                        obtain ⟨rfl, rfl⟩ := zr_some h
                        exact z_zret dX12_isSign_71 rfl
                      · have h := zt_some c11 h
                        refine z_iconst (pc := 66) (v := 1) dX12_isSign_66 zci_1 ?_
                        refine z_goto (pc := 67) (tgt := 71) dX12_isSign_67 (by decide) ?_
                        obtain ⟨rfl, rfl⟩ := zr_some h
                        exact z_zret dX12_isSign_71 rfl
def f_X12_token_B20 (K0 : zS → Option zS)  (S : zS) : Option zS :=
  zlet (zput S 0 4 ((S.1 0 4) + 1)) fun T1 =>
  K0 T1
def f_X12_token_B232 (x2 : Int32) (S : zS) : Option zS :=
  if (S.1 0 6) = 3 then
    some S
  else
    zlet (zput S 0 4 ((S.1 0 4) + x2)) fun T2 =>
    some T2
def f_X12_token_B229 (x2 : Int32) (s0 : Int32) (S : zS) : Option zS :=
  zlet (zput S 0 6 s0) fun T1 =>
  f_X12_token_B232 x2 T1
def f_X12_token_B208 (x2 : Int32) (s0 : Int32) (S : zS) : Option zS :=
  zlet (zput S 0 6 s0) fun T1 =>
  f_X12_token_B232 x2 T1
def f_X12_token_L144 : Nat → Int32 → zS → Option zS
  | 0, _, _ => none
  | n + 1, x2, S =>
    zb (f_X12_here x2 S) fun r3 T2 =>
    zb (f_X12_isDigit r3 T2) fun r6 T5 =>
    if r6 = 0 then
      if (4 : Int32) < x2 then
        f_X12_token_B208 x2 3 T5
      else
        zb (f_X12_here x2 T5) fun r11 T10 =>
        zb (f_X12_isLetter r11 T10) fun r14 T13 =>
        if r14 = 0 then
          f_X12_token_B208 x2 2 T13
        else
          f_X12_token_B208 x2 3 T13
    else
      if x2 < 4 then
        zb (f_X12_here x2 T5) fun r11 T10 =>
        zlet (zput T10 0 8 (((10 * (T5.1 0 8)) + r11) - 48)) fun T12 =>
        zlet (x2 + 1) fun v13 =>
        (f_X12_token_L144 n) v13 T12
      else
        zlet (x2 + 1) fun v9 =>
        (f_X12_token_L144 n) v9 T5
def f_X12_token_B131 (x2 : Int32) (s0 : Int32) (S : zS) : Option zS :=
  zlet (zput S 0 6 s0) fun T1 =>
  f_X12_token_B232 x2 T1
def f_X12_token_L78 : Nat → Int32 → zS → Option zS
  | 0, _, _ => none
  | n + 1, x2, S =>
    zb (f_X12_here x2 S) fun r3 T2 =>
    zb (f_X12_isLetter r3 T2) fun r6 T5 =>
    if r6 = 0 then
      if (8 : Int32) < x2 then
        f_X12_token_B131 x2 3 T5
      else
        f_X12_token_B131 x2 1 T5
    else
      if x2 < 8 then
        zb (f_X12_here x2 T5) fun r11 T10 =>
        zlet (zputL T10 0 9 (((T5.2 0 9) <<< (Int32.toInt64 8 &&& 63)) ||| (Int32.toInt64 r11))) fun T12 =>
        zlet (x2 + 1) fun v13 =>
        (f_X12_token_L78 n) v13 T12
      else
        zlet (x2 + 1) fun v9 =>
        (f_X12_token_L78 n) v9 T5
def f_X12_token_L0 : Nat → zS → Option zS
  | 0, _ => none
  | n + 1, S =>
    zb (f_X12_here 0 S) fun r3 T2 =>
    if r3 = 32 then
      f_X12_token_B20 (f_X12_token_L0 n) T2
    else
      zb (f_X12_here 0 T2) fun r7 T6 =>
      if r7 = 10 then
        f_X12_token_B20 (f_X12_token_L0 n) T6
      else
        zlet (zput T6 0 7 (T6.1 0 4)) fun T9 =>
        zb (f_X12_here 0 T9) fun r12 T11 =>
        zlet (zputL T11 0 9 0) fun T13 =>
        zlet (zput T13 0 8 0) fun T14 =>
        if r12 < 0 then
          zlet (zput T14 0 6 0) fun T16 =>
          f_X12_token_B232 0 T16
        else
          zb (f_X12_isLetter r12 T14) fun r18 T17 =>
          if r18 = 0 then
            zb (f_X12_isDigit r12 T17) fun r22 T21 =>
            if r22 = 0 then
              zb (f_X12_isSign r12 T21) fun r26 T25 =>
              if r26 = 0 then
                f_X12_token_B229 1 3 T25
              else
                f_X12_token_B229 1 r12 T25
            else
              f_X12_token_L144 zN 0 T21
          else
            f_X12_token_L78 zN 0 T17
def f_X12_token  (S : zS) : Option zS :=
  f_X12_token_L0 zN S
set_option maxRecDepth 100000 in
theorem w_X12_token_B20 (l : Launch) {S1 : zS} (K0 : zS → Option zS) (hK0 : ∀  (S : zS), K0  S = some S1 → WA zLM l RX12 cX12_token 3 none 2 none S1 0 [(0, .ref 0)] [] S)  (S : zS) (h : f_X12_token_B20 K0 S = some S1) : WA zLM l RX12 cX12_token 3 none 2 none S1 20 [(0, .ref 0)] [] S := by
  unfold f_X12_token_B20 at h
  refine z_aload_n (pc := 20) (q := 0) dX12_token_20 rfl rfl ?_
  refine z_dup (pc := 21) dX12_token_21 rfl ?_
  refine z_getI (pc := 22) dX12_token_22 zf_X12_140 gM_0_4 ?_
  refine z_iconst (pc := 25) (v := 1) dX12_token_25 zci_1 ?_
  refine z_iadd (pc := 26) dX12_token_26 ?_
  obtain ⟨T1, eT1, h⟩ := zl_some h
  refine z_putI (pc := 27) dX12_token_27 zp_X12_140 gM_0_4 rfl rfl eT1 ?_
  refine z_goto (pc := 30) (tgt := 0) dX12_token_30 (by decide) ?_
  exact hK0 T1 h
set_option maxRecDepth 100000 in
theorem w_X12_token_B232 (l : Launch) {S1 : zS} (x2 : Int32) (S : zS) (h : f_X12_token_B232 x2 S = some S1) : WA zLM l RX12 cX12_token 3 none 2 none S1 232 [(0, .ref 0), (2, .int x2)] [] S := by
  unfold f_X12_token_B232 at h
  refine z_aload_n (pc := 232) (q := 0) dX12_token_232 rfl rfl ?_
  refine z_getI (pc := 233) dX12_token_233 zf_X12_160 gM_0_6 ?_
  refine z_iconst (pc := 236) (v := 3) dX12_token_236 zci_3 ?_
  refine z_icmp_eq (pc := 237) (tgt := 250) dX12_token_237 (by decide) (fun c1 => ?_) (fun c1 => ?_)
  · have h := zt_some c1 h
    cases h
    exact z_vret dX12_token_250
  · have h := ze_some c1 h
    refine z_aload_n (pc := 240) (q := 0) dX12_token_240 rfl rfl ?_
    refine z_dup (pc := 241) dX12_token_241 rfl ?_
    refine z_getI (pc := 242) dX12_token_242 zf_X12_140 gM_0_4 ?_
    refine z_iload_n (pc := 245) (q := 1) dX12_token_245 rfl rfl ?_
    refine z_iadd (pc := 246) dX12_token_246 ?_
    obtain ⟨T2, eT2, h⟩ := zl_some h
    refine z_putI (pc := 247) dX12_token_247 zp_X12_140 gM_0_4 rfl rfl eT2 ?_
    cases h
    exact z_vret dX12_token_250
set_option maxRecDepth 100000 in
theorem w_X12_token_B229 (l : Launch) {S1 : zS} (x2 : Int32) (s0 : Int32) (S : zS) (h : f_X12_token_B229 x2 s0 S = some S1) : WA zLM l RX12 cX12_token 3 none 2 none S1 229 [(0, .ref 0), (2, .int x2)] [.int s0, .ref 0] S := by
  unfold f_X12_token_B229 at h
  obtain ⟨T1, eT1, h⟩ := zl_some h
  refine z_putI (pc := 229) dX12_token_229 zp_X12_160 gM_0_6 rfl rfl eT1 ?_
  exact w_X12_token_B232 l x2 T1 h
set_option maxRecDepth 100000 in
theorem w_X12_token_B208 (l : Launch) {S1 : zS} (x2 : Int32) (s0 : Int32) (S : zS) (h : f_X12_token_B208 x2 s0 S = some S1) : WA zLM l RX12 cX12_token 3 none 2 none S1 208 [(0, .ref 0), (2, .int x2)] [.int s0, .ref 0] S := by
  unfold f_X12_token_B208 at h
  obtain ⟨T1, eT1, h⟩ := zl_some h
  refine z_putI (pc := 208) dX12_token_208 zp_X12_160 gM_0_6 rfl rfl eT1 ?_
  refine z_goto (pc := 211) (tgt := 232) dX12_token_211 (by decide) ?_
  exact w_X12_token_B232 l x2 T1 h
set_option maxRecDepth 100000 in
theorem w_X12_token_L144 (l : Launch) {S1 : zS} : ∀ (n : Nat) (x2 : Int32) (S : zS), f_X12_token_L144 n x2 S = some S1 → WA zLM l RX12 cX12_token 3 none 2 none S1 144 [(0, .ref 0), (2, .int x2)] [] S := by
  intro n
  induction n with
  | zero =>
    intro x2 S h
    exact nomatch h
  | succ n ih =>
    intro x2 S h
    rw [f_X12_token_L144] at h
    refine z_aload_n (pc := 144) (q := 0) dX12_token_144 rfl rfl ?_
    refine z_iload_n (pc := 145) (q := 1) dX12_token_145 rfl rfl ?_
    obtain ⟨r3, T2, q1, h⟩ := zb_some h
    refine z_callVi (pc := 146) (st := []) [.int x2] dX12_token_146 zm_X12_146 zM_X12_here (by decide) oM_0 rfl (w_X12_here l q1) rfl rfl (Nat.le_of_ble_eq_true rfl) ?_
    obtain ⟨r6, T5, q4, h⟩ := zb_some h
    refine z_callSi (pc := 149) (st := []) [.int r3] dX12_token_149 zm_X12_167 zM_X12_isDigit (by decide) (w_X12_isDigit l q4) rfl rfl (Nat.le_of_ble_eq_true rfl) ?_
    refine z_if_eq (pc := 152) (tgt := 186) dX12_token_152 (by decide) (fun c7 => ?_) (fun c7 => ?_)
    · have h := zt_some c7 h
      refine z_aload_n (pc := 186) (q := 0) dX12_token_186 rfl rfl ?_
      refine z_iload_n (pc := 187) (q := 1) dX12_token_187 rfl rfl ?_
      refine z_iconst (pc := 188) (v := 4) dX12_token_188 zci_4 ?_
      refine z_icmp_gt (pc := 189) (tgt := 203) dX12_token_189 (by decide) (fun c8 => ?_) (fun c8 => ?_)
      · have h := zt_some c8 h
        refine z_iconst (pc := 203) (v := 3) dX12_token_203 zci_3 ?_
        refine z_goto (pc := 204) (tgt := 208) dX12_token_204 (by decide) ?_
        exact w_X12_token_B208 l x2 3 T5 h
      · have h := ze_some c8 h
        refine z_aload_n (pc := 192) (q := 0) dX12_token_192 rfl rfl ?_
        refine z_iload_n (pc := 193) (q := 1) dX12_token_193 rfl rfl ?_
        obtain ⟨r11, T10, q9, h⟩ := zb_some h
        refine z_callVi (pc := 194) (st := [.ref 0]) [.int x2] dX12_token_194 zm_X12_146 zM_X12_here (by decide) oM_0 rfl (w_X12_here l q9) rfl rfl (Nat.le_of_ble_eq_true rfl) ?_
        obtain ⟨r14, T13, q12, h⟩ := zb_some h
        refine z_callSi (pc := 197) (st := [.ref 0]) [.int r11] dX12_token_197 zm_X12_163 zM_X12_isLetter (by decide) (w_X12_isLetter l q12) rfl rfl (Nat.le_of_ble_eq_true rfl) ?_
        refine z_if_eq (pc := 200) (tgt := 207) dX12_token_200 (by decide) (fun c15 => ?_) (fun c15 => ?_)
        · have h := zt_some c15 h
          refine z_iconst (pc := 207) (v := 2) dX12_token_207 zci_2 ?_
          exact w_X12_token_B208 l x2 2 T13 h
        · have h := ze_some c15 h
          refine z_iconst (pc := 203) (v := 3) dX12_token_203 zci_3 ?_
          refine z_goto (pc := 204) (tgt := 208) dX12_token_204 (by decide) ?_
          exact w_X12_token_B208 l x2 3 T13 h
    · have h := ze_some c7 h
      refine z_iload_n (pc := 155) (q := 1) dX12_token_155 rfl rfl ?_
      refine z_iconst (pc := 156) (v := 4) dX12_token_156 zci_4 ?_
      refine z_icmp_ge (pc := 157) (tgt := 180) dX12_token_157 (by decide) (fun c8 => ?_) (fun c8 => ?_)
      · have h := ze_some c8 h
        obtain ⟨v9, ev9, h⟩ := zl_some h
        refine z_iinc (pc := 180) (q := 1) (v := v9) (lo' := [(2, .int v9), (0, .ref 0)]) dX12_token_180 rfl (by rw [ev9, zci_1]) (by decide) rfl ?_
        refine z_goto (pc := 183) (tgt := 144) dX12_token_183 (by decide) ?_
        exact z_sub [1, 0] rfl (ih v9 T5 h)
      · have h := zt_some c8 h
        refine z_aload_n (pc := 160) (q := 0) dX12_token_160 rfl rfl ?_
        refine z_bipush (pc := 161) (v := 10) dX12_token_161 zcb_10 ?_
        refine z_aload_n (pc := 163) (q := 0) dX12_token_163 rfl rfl ?_
        refine z_getI (pc := 164) dX12_token_164 zf_X12_157 gM_0_8 ?_
        refine z_imul (pc := 167) dX12_token_167 ?_
        refine z_aload_n (pc := 168) (q := 0) dX12_token_168 rfl rfl ?_
        refine z_iload_n (pc := 169) (q := 1) dX12_token_169 rfl rfl ?_
        obtain ⟨r11, T10, q9, h⟩ := zb_some h
        refine z_callVi (pc := 170) (st := [.int (10 * (T5.1 0 8)), .ref 0]) [.int x2] dX12_token_170 zm_X12_146 zM_X12_here (by decide) oM_0 rfl (w_X12_here l q9) rfl rfl (Nat.le_of_ble_eq_true rfl) ?_
        refine z_iadd (pc := 173) dX12_token_173 ?_
        refine z_bipush (pc := 174) (v := 48) dX12_token_174 zcb_48 ?_
        refine z_isub (pc := 176) dX12_token_176 ?_
        obtain ⟨T12, eT12, h⟩ := zl_some h
        refine z_putI (pc := 177) dX12_token_177 zp_X12_157 gM_0_8 rfl rfl eT12 ?_
        obtain ⟨v13, ev13, h⟩ := zl_some h
        refine z_iinc (pc := 180) (q := 1) (v := v13) (lo' := [(2, .int v13), (0, .ref 0)]) dX12_token_180 rfl (by rw [ev13, zci_1]) (by decide) rfl ?_
        refine z_goto (pc := 183) (tgt := 144) dX12_token_183 (by decide) ?_
        exact z_sub [1, 0] rfl (ih v13 T12 h)
set_option maxRecDepth 100000 in
theorem w_X12_token_B131 (l : Launch) {S1 : zS} (x2 : Int32) (s0 : Int32) (S : zS) (h : f_X12_token_B131 x2 s0 S = some S1) : WA zLM l RX12 cX12_token 3 none 2 none S1 131 [(0, .ref 0), (2, .int x2)] [.int s0, .ref 0] S := by
  unfold f_X12_token_B131 at h
  obtain ⟨T1, eT1, h⟩ := zl_some h
  refine z_putI (pc := 131) dX12_token_131 zp_X12_160 gM_0_6 rfl rfl eT1 ?_
  refine z_goto (pc := 134) (tgt := 232) dX12_token_134 (by decide) ?_
  exact w_X12_token_B232 l x2 T1 h
set_option maxRecDepth 100000 in
theorem w_X12_token_L78 (l : Launch) {S1 : zS} : ∀ (n : Nat) (x2 : Int32) (S : zS), f_X12_token_L78 n x2 S = some S1 → WA zLM l RX12 cX12_token 3 none 2 none S1 78 [(0, .ref 0), (2, .int x2)] [] S := by
  intro n
  induction n with
  | zero =>
    intro x2 S h
    exact nomatch h
  | succ n ih =>
    intro x2 S h
    rw [f_X12_token_L78] at h
    refine z_aload_n (pc := 78) (q := 0) dX12_token_78 rfl rfl ?_
    refine z_iload_n (pc := 79) (q := 1) dX12_token_79 rfl rfl ?_
    obtain ⟨r3, T2, q1, h⟩ := zb_some h
    refine z_callVi (pc := 80) (st := []) [.int x2] dX12_token_80 zm_X12_146 zM_X12_here (by decide) oM_0 rfl (w_X12_here l q1) rfl rfl (Nat.le_of_ble_eq_true rfl) ?_
    obtain ⟨r6, T5, q4, h⟩ := zb_some h
    refine z_callSi (pc := 83) (st := []) [.int r3] dX12_token_83 zm_X12_163 zM_X12_isLetter (by decide) (w_X12_isLetter l q4) rfl rfl (Nat.le_of_ble_eq_true rfl) ?_
    refine z_if_eq (pc := 86) (tgt := 119) dX12_token_86 (by decide) (fun c7 => ?_) (fun c7 => ?_)
    · have h := zt_some c7 h
      refine z_aload_n (pc := 119) (q := 0) dX12_token_119 rfl rfl ?_
      refine z_iload_n (pc := 120) (q := 1) dX12_token_120 rfl rfl ?_
      refine z_bipush (pc := 121) (v := 8) dX12_token_121 zcb_8 ?_
      refine z_icmp_le (pc := 123) (tgt := 130) dX12_token_123 (by decide) (fun c8 => ?_) (fun c8 => ?_)
      · have h := ze_some c8 h
        refine z_iconst (pc := 130) (v := 1) dX12_token_130 zci_1 ?_
        exact w_X12_token_B131 l x2 1 T5 h
      · have h := zt_some c8 h
        refine z_iconst (pc := 126) (v := 3) dX12_token_126 zci_3 ?_
        refine z_goto (pc := 127) (tgt := 131) dX12_token_127 (by decide) ?_
        exact w_X12_token_B131 l x2 3 T5 h
    · have h := ze_some c7 h
      refine z_iload_n (pc := 89) (q := 1) dX12_token_89 rfl rfl ?_
      refine z_bipush (pc := 90) (v := 8) dX12_token_90 zcb_8 ?_
      refine z_icmp_ge (pc := 92) (tgt := 113) dX12_token_92 (by decide) (fun c8 => ?_) (fun c8 => ?_)
      · have h := ze_some c8 h
        obtain ⟨v9, ev9, h⟩ := zl_some h
        refine z_iinc (pc := 113) (q := 1) (v := v9) (lo' := [(2, .int v9), (0, .ref 0)]) dX12_token_113 rfl (by rw [ev9, zci_1]) (by decide) rfl ?_
        refine z_goto (pc := 116) (tgt := 78) dX12_token_116 (by decide) ?_
        exact z_sub [1, 0] rfl (ih v9 T5 h)
      · have h := zt_some c8 h
        refine z_aload_n (pc := 95) (q := 0) dX12_token_95 rfl rfl ?_
        refine z_aload_n (pc := 96) (q := 0) dX12_token_96 rfl rfl ?_
        refine z_getJ (pc := 97) dX12_token_97 zf_X12_153 gM_0_9 ?_
        refine z_bipush (pc := 100) (v := 8) dX12_token_100 zcb_8 ?_
        refine z_lshl (pc := 102) dX12_token_102 ?_
        refine z_aload_n (pc := 103) (q := 0) dX12_token_103 rfl rfl ?_
        refine z_iload_n (pc := 104) (q := 1) dX12_token_104 rfl rfl ?_
        obtain ⟨r11, T10, q9, h⟩ := zb_some h
        refine z_callVi (pc := 105) (st := [.long ((T5.2 0 9) <<< (Int32.toInt64 8 &&& 63)), .ref 0]) [.int x2] dX12_token_105 zm_X12_146 zM_X12_here (by decide) oM_0 rfl (w_X12_here l q9) rfl rfl (Nat.le_of_ble_eq_true rfl) ?_
        refine z_i2l (pc := 108) dX12_token_108 ?_
        refine z_lor (pc := 109) dX12_token_109 ?_
        obtain ⟨T12, eT12, h⟩ := zl_some h
        refine z_putJ (pc := 110) dX12_token_110 zp_X12_153 gM_0_9 eT12 ?_
        obtain ⟨v13, ev13, h⟩ := zl_some h
        refine z_iinc (pc := 113) (q := 1) (v := v13) (lo' := [(2, .int v13), (0, .ref 0)]) dX12_token_113 rfl (by rw [ev13, zci_1]) (by decide) rfl ?_
        refine z_goto (pc := 116) (tgt := 78) dX12_token_116 (by decide) ?_
        exact z_sub [1, 0] rfl (ih v13 T12 h)
set_option maxRecDepth 100000 in
theorem w_X12_token_L0 (l : Launch) {S1 : zS} : ∀ (n : Nat)  (S : zS), f_X12_token_L0 n S = some S1 → WA zLM l RX12 cX12_token 3 none 2 none S1 0 [(0, .ref 0)] [] S := by
  intro n
  induction n with
  | zero =>
    intro  S h
    exact nomatch h
  | succ n ih =>
    intro  S h
    rw [f_X12_token_L0] at h
    refine z_aload_n (pc := 0) (q := 0) dX12_token_0 rfl rfl ?_
    refine z_iconst (pc := 1) (v := 0) dX12_token_1 zci_0 ?_
    obtain ⟨r3, T2, q1, h⟩ := zb_some h
    refine z_callVi (pc := 2) (st := []) [.int 0] dX12_token_2 zm_X12_146 zM_X12_here (by decide) oM_0 rfl (w_X12_here l q1) rfl rfl (Nat.le_of_ble_eq_true rfl) ?_
    refine z_bipush (pc := 5) (v := 32) dX12_token_5 zcb_32 ?_
    refine z_icmp_eq (pc := 7) (tgt := 20) dX12_token_7 (by decide) (fun c4 => ?_) (fun c4 => ?_)
    · have h := zt_some c4 h
      exact w_X12_token_B20 l (f_X12_token_L0 n) ih T2 h
    · have h := ze_some c4 h
      refine z_aload_n (pc := 10) (q := 0) dX12_token_10 rfl rfl ?_
      refine z_iconst (pc := 11) (v := 0) dX12_token_11 zci_0 ?_
      obtain ⟨r7, T6, q5, h⟩ := zb_some h
      refine z_callVi (pc := 12) (st := []) [.int 0] dX12_token_12 zm_X12_146 zM_X12_here (by decide) oM_0 rfl (w_X12_here l q5) rfl rfl (Nat.le_of_ble_eq_true rfl) ?_
      refine z_bipush (pc := 15) (v := 10) dX12_token_15 zcb_10 ?_
      refine z_icmp_ne (pc := 17) (tgt := 33) dX12_token_17 (by decide) (fun c8 => ?_) (fun c8 => ?_)
      · have h := ze_some c8 h
        refine z_aload_n (pc := 33) (q := 0) dX12_token_33 rfl rfl ?_
        refine z_aload_n (pc := 34) (q := 0) dX12_token_34 rfl rfl ?_
        refine z_getI (pc := 35) dX12_token_35 zf_X12_140 gM_0_4 ?_
        obtain ⟨T9, eT9, h⟩ := zl_some h
        refine z_putI (pc := 38) dX12_token_38 zp_X12_150 gM_0_7 rfl rfl eT9 ?_
        refine z_aload_n (pc := 41) (q := 0) dX12_token_41 rfl rfl ?_
        refine z_iconst (pc := 42) (v := 0) dX12_token_42 zci_0 ?_
        obtain ⟨r12, T11, q10, h⟩ := zb_some h
        refine z_callVi (pc := 43) (st := []) [.int 0] dX12_token_43 zm_X12_146 zM_X12_here (by decide) oM_0 rfl (w_X12_here l q10) rfl rfl (Nat.le_of_ble_eq_true rfl) ?_
        refine z_istore_n (pc := 46) (lo' := [(1, .int r12), (0, .ref 0)]) dX12_token_46 rfl (by decide) rfl ?_
        refine z_iconst (pc := 47) (v := 0) dX12_token_47 zci_0 ?_
        refine z_istore_n (pc := 48) (lo' := [(2, .int 0), (1, .int r12), (0, .ref 0)]) dX12_token_48 rfl (by decide) rfl ?_
        refine z_aload_n (pc := 49) (q := 2) dX12_token_49 rfl rfl ?_
        refine z_lconst (pc := 50) (v := 0) dX12_token_50 (by decide) ?_
        obtain ⟨T13, eT13, h⟩ := zl_some h
        refine z_putJ (pc := 51) dX12_token_51 zp_X12_153 gM_0_9 eT13 ?_
        refine z_aload_n (pc := 54) (q := 2) dX12_token_54 rfl rfl ?_
        refine z_iconst (pc := 55) (v := 0) dX12_token_55 zci_0 ?_
        obtain ⟨T14, eT14, h⟩ := zl_some h
        refine z_putI (pc := 56) dX12_token_56 zp_X12_157 gM_0_8 rfl rfl eT14 ?_
        refine z_iload_n (pc := 59) (q := 1) dX12_token_59 rfl rfl ?_
        refine z_if_ge (pc := 60) (tgt := 71) dX12_token_60 (by decide) (fun c15 => ?_) (fun c15 => ?_)
        · have h := ze_some c15 h
          refine z_iload_n (pc := 71) (q := 1) dX12_token_71 rfl rfl ?_
          obtain ⟨r18, T17, q16, h⟩ := zb_some h
          refine z_callSi (pc := 72) (st := []) [.int r12] dX12_token_72 zm_X12_163 zM_X12_isLetter (by decide) (w_X12_isLetter l q16) rfl rfl (Nat.le_of_ble_eq_true rfl) ?_
          refine z_if_eq (pc := 75) (tgt := 137) dX12_token_75 (by decide) (fun c19 => ?_) (fun c19 => ?_)
          · have h := zt_some c19 h
            refine z_iload_n (pc := 137) (q := 1) dX12_token_137 rfl rfl ?_
            obtain ⟨r22, T21, q20, h⟩ := zb_some h
            refine z_callSi (pc := 138) (st := []) [.int r12] dX12_token_138 zm_X12_167 zM_X12_isDigit (by decide) (w_X12_isDigit l q20) rfl rfl (Nat.le_of_ble_eq_true rfl) ?_
            refine z_if_eq (pc := 141) (tgt := 214) dX12_token_141 (by decide) (fun c23 => ?_) (fun c23 => ?_)
            · have h := zt_some c23 h
              refine z_iconst (pc := 214) (v := 1) dX12_token_214 zci_1 ?_
              refine z_istore_n (pc := 215) (lo' := [(2, .int 1), (1, .int r12), (0, .ref 0)]) dX12_token_215 rfl (by decide) rfl ?_
              refine z_aload_n (pc := 216) (q := 2) dX12_token_216 rfl rfl ?_
              refine z_iload_n (pc := 217) (q := 1) dX12_token_217 rfl rfl ?_
              obtain ⟨r26, T25, q24, h⟩ := zb_some h
              refine z_callSi (pc := 218) (st := [.ref 0]) [.int r12] dX12_token_218 zm_X12_170 zM_X12_isSign (by decide) (w_X12_isSign l q24) rfl rfl (Nat.le_of_ble_eq_true rfl) ?_
              refine z_if_eq (pc := 221) (tgt := 228) dX12_token_221 (by decide) (fun c27 => ?_) (fun c27 => ?_)
              · have h := zt_some c27 h
                refine z_iconst (pc := 228) (v := 3) dX12_token_228 zci_3 ?_
                exact z_sub [2, 0] rfl (w_X12_token_B229 l 1 3 T25 h)
              · have h := ze_some c27 h
                refine z_iload_n (pc := 224) (q := 1) dX12_token_224 rfl rfl ?_
                refine z_goto (pc := 225) (tgt := 229) dX12_token_225 (by decide) ?_
                exact z_sub [2, 0] rfl (w_X12_token_B229 l 1 r12 T25 h)
            · have h := ze_some c23 h
              exact z_sub [2, 0] rfl (w_X12_token_L144 l zN 0 T21 h)
          · have h := ze_some c19 h
            exact z_sub [2, 0] rfl (w_X12_token_L78 l zN 0 T17 h)
        · have h := zt_some c15 h
          refine z_aload_n (pc := 63) (q := 2) dX12_token_63 rfl rfl ?_
          refine z_iconst (pc := 64) (v := 0) dX12_token_64 zci_0 ?_
          obtain ⟨T16, eT16, h⟩ := zl_some h
          refine z_putI (pc := 65) dX12_token_65 zp_X12_160 gM_0_6 rfl rfl eT16 ?_
          refine z_goto (pc := 68) (tgt := 232) dX12_token_68 (by decide) ?_
          exact z_sub [2, 0] rfl (w_X12_token_B232 l 0 T16 h)
      · have h := zt_some c8 h
        exact w_X12_token_B20 l (f_X12_token_L0 n) ih T6 h
set_option maxRecDepth 100000 in
theorem w_X12_token (l : Launch)  {S : zS} {S1 : zS} (h : f_X12_token S = some S1) : zMet zLM l yX12_token cX12_token 3 none 2 [.ref 0] S none S1 := by
  unfold f_X12_token at h
  refine zMet.of (by decide +kernel) (Nat.le_of_ble_eq_true rfl) ?_
  show WA zLM l RX12 cX12_token 3 none 2 none S1 0 [(0, .ref 0)] [] S
  exact w_X12_token_L0 l zN S h
def f_X12_wrong_B22 (s0 : Int32) (S : zS) : Option zS :=
  zlet (zput S 0 2 s0) fun T1 =>
  zlet (zput T1 0 3 (T1.1 0 7)) fun T2 =>
  some T2
def f_X12_wrong (x1 : Int32) (S : zS) : Option zS :=
  if (0 : Int32) < (S.1 0 2) then
    some S
  else
    if (S.1 0 6) = 3 then
      f_X12_wrong_B22 1 S
    else
      f_X12_wrong_B22 x1 S
set_option maxRecDepth 100000 in
theorem w_X12_wrong_B22 (l : Launch) {S1 : zS} (s0 : Int32) (S : zS) (h : f_X12_wrong_B22 s0 S = some S1) : WA zLM l RX12 cX12_wrong 2 none 1 none S1 22 [(0, .ref 0)] [.int s0, .ref 0] S := by
  unfold f_X12_wrong_B22 at h
  obtain ⟨T1, eT1, h⟩ := zl_some h
  refine z_putI (pc := 22) dX12_wrong_22 zp_X12_173 gM_0_2 rfl rfl eT1 ?_
  refine z_aload_n (pc := 25) (q := 0) dX12_wrong_25 rfl rfl ?_
  refine z_aload_n (pc := 26) (q := 0) dX12_wrong_26 rfl rfl ?_
  refine z_getI (pc := 27) dX12_wrong_27 zf_X12_150 gM_0_7 ?_
  obtain ⟨T2, eT2, h⟩ := zl_some h
  refine z_putI (pc := 30) dX12_wrong_30 zp_X12_13 gM_0_3 rfl rfl eT2 ?_
  cases h
  exact z_vret dX12_wrong_33
set_option maxRecDepth 100000 in
theorem w_X12_wrong (l : Launch) {x1 : Int32} {S : zS} {S1 : zS} (h : f_X12_wrong x1 S = some S1) : zMet zLM l yX12_wrong cX12_wrong 2 none 1 [.ref 0, .int x1] S none S1 := by
  unfold f_X12_wrong at h
  refine zMet.of (by decide +kernel) (Nat.le_of_ble_eq_true rfl) ?_
  show WA zLM l RX12 cX12_wrong 2 none 1 none S1 0 [(0, .ref 0), (1, .int x1)] [] S
  refine z_aload_n (pc := 0) (q := 0) dX12_wrong_0 rfl rfl ?_
  refine z_getI (pc := 1) dX12_wrong_1 zf_X12_173 gM_0_2 ?_
  refine z_if_le (pc := 4) (tgt := 8) dX12_wrong_4 (by decide) (fun c1 => ?_) (fun c1 => ?_)
  · have h := ze_some c1 h
    refine z_aload_n (pc := 8) (q := 0) dX12_wrong_8 rfl rfl ?_
    refine z_aload_n (pc := 9) (q := 0) dX12_wrong_9 rfl rfl ?_
    refine z_getI (pc := 10) dX12_wrong_10 zf_X12_160 gM_0_6 ?_
    refine z_iconst (pc := 13) (v := 3) dX12_wrong_13 zci_3 ?_
    refine z_icmp_ne (pc := 14) (tgt := 21) dX12_wrong_14 (by decide) (fun c2 => ?_) (fun c2 => ?_)
    · have h := ze_some c2 h
      refine z_iload_n (pc := 21) (q := 1) dX12_wrong_21 rfl rfl ?_
      exact z_sub [0] rfl (w_X12_wrong_B22 l x1 S h)
    · have h := zt_some c2 h
      refine z_iconst (pc := 17) (v := 1) dX12_wrong_17 zci_1 ?_
      refine z_goto (pc := 18) (tgt := 22) dX12_wrong_18 (by decide) ?_
      exact z_sub [0] rfl (w_X12_wrong_B22 l 1 S h)
  · have h := zt_some c1 h
    cases h
    exact z_vret dX12_wrong_7
def f_X12_isWord (x1 : Int64) (S : zS) : Option (Int32 × zS) :=
  if (S.1 0 6) = 1 then
    if (lg_cmp (S.2 0 9) x1) = 0 then
      some (1, S)
    else
      some (0, S)
  else
    some (0, S)
set_option maxRecDepth 100000 in
theorem w_X12_isWord (l : Launch) {x1 : Int64} {S : zS} {r : Int32} {S1 : zS} (h : f_X12_isWord x1 S = some (r, S1)) : zMet zLM l yX12_isWord cX12_isWord 3 (some .boolean) 1 [.ref 0, .long x1] S (some (.int r)) S1 := by
  unfold f_X12_isWord at h
  refine zMet.of (by decide +kernel) (Nat.le_of_ble_eq_true rfl) ?_
  show WA zLM l RX12 cX12_isWord 3 (some .boolean) 1 (some (.int r)) S1 0 [(0, .ref 0), (1, .long x1)] [] S
  refine z_aload_n (pc := 0) (q := 0) dX12_isWord_0 rfl rfl ?_
  refine z_getI (pc := 1) dX12_isWord_1 zf_X12_160 gM_0_6 ?_
  refine z_iconst (pc := 4) (v := 1) dX12_isWord_4 zci_1 ?_
  refine z_icmp_ne (pc := 5) (tgt := 21) dX12_isWord_5 (by decide) (fun c1 => ?_) (fun c1 => ?_)
  · have h := ze_some c1 h
    refine z_iconst (pc := 21) (v := 0) dX12_isWord_21 zci_0 ?_
    obtain ⟨rfl, rfl⟩ := zr_some h
    exact z_zret dX12_isWord_22 rfl
  · have h := zt_some c1 h
    refine z_aload_n (pc := 8) (q := 0) dX12_isWord_8 rfl rfl ?_
    refine z_getJ (pc := 9) dX12_isWord_9 zf_X12_153 gM_0_9 ?_
    refine z_lload_n (pc := 12) (q := 1) dX12_isWord_12 rfl rfl ?_
    refine z_lcmp (pc := 13) dX12_isWord_13 ?_
    refine z_if_ne (pc := 14) (tgt := 21) dX12_isWord_14 (by decide) (fun c2 => ?_) (fun c2 => ?_)
    · have h := ze_some c2 h
      refine z_iconst (pc := 21) (v := 0) dX12_isWord_21 zci_0 ?_
      obtain ⟨rfl, rfl⟩ := zr_some h
      exact z_zret dX12_isWord_22 rfl
    · have h := zt_some c2 h
      refine z_iconst (pc := 17) (v := 1) dX12_isWord_17 zci_1 ?_
      refine z_goto (pc := 18) (tgt := 22) dX12_isWord_18 (by decide) ?_
      obtain ⟨rfl, rfl⟩ := zr_some h
      exact z_zret dX12_isWord_22 rfl
def f_X12_isOwn  (S : zS) : Option (Int32 × zS) :=
  if (lg_cmp (S.2 0 9) 126943687828851) = 0 then
    some (1, S)
  else
    if (lg_cmp (S.2 0 9) 482854661748) = 0 then
      some (1, S)
    else
      if (lg_cmp (S.2 0 9) 1818846821) = 0 then
        some (1, S)
      else
        if (lg_cmp (S.2 0 9) 448311485561) = 0 then
          some (1, S)
        else
          if (lg_cmp (S.2 0 9) 500085844323) = 0 then
            some (1, S)
          else
            if (lg_cmp (S.2 0 9) 1651076204) = 0 then
              some (1, S)
            else
              if (lg_cmp (S.2 0 9) 28518) = 0 then
                some (1, S)
              else
                if (lg_cmp (S.2 0 9) 24948) = 0 then
                  some (1, S)
                else
                  if (lg_cmp (S.2 0 9) 1935767923) = 0 then
                    some (1, S)
                  else
                    if (lg_cmp (S.2 0 9) 107122481063027) = 0 then
                      some (1, S)
                    else
                      if (lg_cmp (S.2 0 9) 32199680756640883) = 0 then
                        some (1, S)
                      else
                        if (lg_cmp (S.2 0 9) 482671228025) = 0 then
                          some (1, S)
                        else
                          if (lg_cmp (S.2 0 9) 512735736947) = 0 then
                            some (1, S)
                          else
                            if (lg_cmp (S.2 0 9) 25209) = 0 then
                              some (1, S)
                            else
                              if (lg_cmp (S.2 0 9) 1735552887) = 0 then
                                some (1, S)
                              else
                                if (lg_cmp (S.2 0 9) 440006570868) = 0 then
                                  some (1, S)
                                else
                                  if (lg_cmp (S.2 0 9) 1685217655) = 0 then
                                    some (1, S)
                                  else
                                    if (lg_cmp (S.2 0 9) 6383461) = 0 then
                                      some (1, S)
                                    else
                                      if (lg_cmp (S.2 0 9) 495873780581) = 0 then
                                        some (1, S)
                                      else
                                        if (lg_cmp (S.2 0 9) 1852137842) = 0 then
                                          some (1, S)
                                        else
                                          if (lg_cmp (S.2 0 9) 2036687218) = 0 then
                                            some (1, S)
                                          else
                                            if (lg_cmp (S.2 0 9) 6385252) = 0 then
                                              some (1, S)
                                            else
                                              if (lg_cmp (S.2 0 9) 28530) = 0 then
                                                some (1, S)
                                              else
                                                if (lg_cmp (S.2 0 9) 7237492) = 0 then
                                                  some (1, S)
                                                else
                                                  some (0, S)
set_option maxRecDepth 100000 in
theorem w_X12_isOwn (l : Launch)  {S : zS} {r : Int32} {S1 : zS} (h : f_X12_isOwn S = some (r, S1)) : zMet zLM l yX12_isOwn cX12_isOwn 1 (some .boolean) 1 [.ref 0] S (some (.int r)) S1 := by
  unfold f_X12_isOwn at h
  refine zMet.of (by decide +kernel) (Nat.le_of_ble_eq_true rfl) ?_
  show WA zLM l RX12 cX12_isOwn 1 (some .boolean) 1 (some (.int r)) S1 0 [(0, .ref 0)] [] S
  refine z_aload_n (pc := 0) (q := 0) dX12_isOwn_0 rfl rfl ?_
  refine z_getJ (pc := 1) dX12_isOwn_1 zf_X12_153 gM_0_9 ?_
  refine z_ldc2 (pc := 4) dX12_isOwn_4 zk_X12_176 ?_
  refine z_lcmp (pc := 7) dX12_isOwn_7 ?_
  refine z_if_eq (pc := 8) (tgt := 264) dX12_isOwn_8 (by decide) (fun c1 => ?_) (fun c1 => ?_)
  · have h := zt_some c1 h
    refine z_iconst (pc := 264) (v := 1) dX12_isOwn_264 zci_1 ?_
    refine z_goto (pc := 265) (tgt := 269) dX12_isOwn_265 (by decide) ?_
    obtain ⟨rfl, rfl⟩ := zr_some h
    exact z_zret dX12_isOwn_269 rfl
  · have h := ze_some c1 h
    refine z_aload_n (pc := 11) (q := 0) dX12_isOwn_11 rfl rfl ?_
    refine z_getJ (pc := 12) dX12_isOwn_12 zf_X12_153 gM_0_9 ?_
    refine z_ldc2 (pc := 15) dX12_isOwn_15 zk_X12_178 ?_
    refine z_lcmp (pc := 18) dX12_isOwn_18 ?_
    refine z_if_eq (pc := 19) (tgt := 264) dX12_isOwn_19 (by decide) (fun c2 => ?_) (fun c2 => ?_)
    · have h := zt_some c2 h
      refine z_iconst (pc := 264) (v := 1) dX12_isOwn_264 zci_1 ?_
      refine z_goto (pc := 265) (tgt := 269) dX12_isOwn_265 (by decide) ?_
      obtain ⟨rfl, rfl⟩ := zr_some h
      exact z_zret dX12_isOwn_269 rfl
    · have h := ze_some c2 h
      refine z_aload_n (pc := 22) (q := 0) dX12_isOwn_22 rfl rfl ?_
      refine z_getJ (pc := 23) dX12_isOwn_23 zf_X12_153 gM_0_9 ?_
      refine z_ldc2 (pc := 26) dX12_isOwn_26 zk_X12_180 ?_
      refine z_lcmp (pc := 29) dX12_isOwn_29 ?_
      refine z_if_eq (pc := 30) (tgt := 264) dX12_isOwn_30 (by decide) (fun c3 => ?_) (fun c3 => ?_)
      · have h := zt_some c3 h
        refine z_iconst (pc := 264) (v := 1) dX12_isOwn_264 zci_1 ?_
        refine z_goto (pc := 265) (tgt := 269) dX12_isOwn_265 (by decide) ?_
        obtain ⟨rfl, rfl⟩ := zr_some h
        exact z_zret dX12_isOwn_269 rfl
      · have h := ze_some c3 h
        refine z_aload_n (pc := 33) (q := 0) dX12_isOwn_33 rfl rfl ?_
        refine z_getJ (pc := 34) dX12_isOwn_34 zf_X12_153 gM_0_9 ?_
        refine z_ldc2 (pc := 37) dX12_isOwn_37 zk_X12_182 ?_
        refine z_lcmp (pc := 40) dX12_isOwn_40 ?_
        refine z_if_eq (pc := 41) (tgt := 264) dX12_isOwn_41 (by decide) (fun c4 => ?_) (fun c4 => ?_)
        · have h := zt_some c4 h
          refine z_iconst (pc := 264) (v := 1) dX12_isOwn_264 zci_1 ?_
          refine z_goto (pc := 265) (tgt := 269) dX12_isOwn_265 (by decide) ?_
          obtain ⟨rfl, rfl⟩ := zr_some h
          exact z_zret dX12_isOwn_269 rfl
        · have h := ze_some c4 h
          refine z_aload_n (pc := 44) (q := 0) dX12_isOwn_44 rfl rfl ?_
          refine z_getJ (pc := 45) dX12_isOwn_45 zf_X12_153 gM_0_9 ?_
          refine z_ldc2 (pc := 48) dX12_isOwn_48 zk_X12_184 ?_
          refine z_lcmp (pc := 51) dX12_isOwn_51 ?_
          refine z_if_eq (pc := 52) (tgt := 264) dX12_isOwn_52 (by decide) (fun c5 => ?_) (fun c5 => ?_)
          · have h := zt_some c5 h
            refine z_iconst (pc := 264) (v := 1) dX12_isOwn_264 zci_1 ?_
            refine z_goto (pc := 265) (tgt := 269) dX12_isOwn_265 (by decide) ?_
            obtain ⟨rfl, rfl⟩ := zr_some h
            exact z_zret dX12_isOwn_269 rfl
          · have h := ze_some c5 h
            refine z_aload_n (pc := 55) (q := 0) dX12_isOwn_55 rfl rfl ?_
            refine z_getJ (pc := 56) dX12_isOwn_56 zf_X12_153 gM_0_9 ?_
            refine z_ldc2 (pc := 59) dX12_isOwn_59 zk_X12_186 ?_
            refine z_lcmp (pc := 62) dX12_isOwn_62 ?_
            refine z_if_eq (pc := 63) (tgt := 264) dX12_isOwn_63 (by decide) (fun c6 => ?_) (fun c6 => ?_)
            · have h := zt_some c6 h
              refine z_iconst (pc := 264) (v := 1) dX12_isOwn_264 zci_1 ?_
              refine z_goto (pc := 265) (tgt := 269) dX12_isOwn_265 (by decide) ?_
              obtain ⟨rfl, rfl⟩ := zr_some h
              exact z_zret dX12_isOwn_269 rfl
            · have h := ze_some c6 h
              refine z_aload_n (pc := 66) (q := 0) dX12_isOwn_66 rfl rfl ?_
              refine z_getJ (pc := 67) dX12_isOwn_67 zf_X12_153 gM_0_9 ?_
              refine z_ldc2 (pc := 70) dX12_isOwn_70 zk_X12_188 ?_
              refine z_lcmp (pc := 73) dX12_isOwn_73 ?_
              refine z_if_eq (pc := 74) (tgt := 264) dX12_isOwn_74 (by decide) (fun c7 => ?_) (fun c7 => ?_)
              · have h := zt_some c7 h
                refine z_iconst (pc := 264) (v := 1) dX12_isOwn_264 zci_1 ?_
                refine z_goto (pc := 265) (tgt := 269) dX12_isOwn_265 (by decide) ?_
                obtain ⟨rfl, rfl⟩ := zr_some h
                exact z_zret dX12_isOwn_269 rfl
              · have h := ze_some c7 h
                refine z_aload_n (pc := 77) (q := 0) dX12_isOwn_77 rfl rfl ?_
                refine z_getJ (pc := 78) dX12_isOwn_78 zf_X12_153 gM_0_9 ?_
                refine z_ldc2 (pc := 81) dX12_isOwn_81 zk_X12_190 ?_
                refine z_lcmp (pc := 84) dX12_isOwn_84 ?_
                refine z_if_eq (pc := 85) (tgt := 264) dX12_isOwn_85 (by decide) (fun c8 => ?_) (fun c8 => ?_)
                · have h := zt_some c8 h
                  refine z_iconst (pc := 264) (v := 1) dX12_isOwn_264 zci_1 ?_
                  refine z_goto (pc := 265) (tgt := 269) dX12_isOwn_265 (by decide) ?_
                  obtain ⟨rfl, rfl⟩ := zr_some h
                  exact z_zret dX12_isOwn_269 rfl
                · have h := ze_some c8 h
                  refine z_aload_n (pc := 88) (q := 0) dX12_isOwn_88 rfl rfl ?_
                  refine z_getJ (pc := 89) dX12_isOwn_89 zf_X12_153 gM_0_9 ?_
                  refine z_ldc2 (pc := 92) dX12_isOwn_92 zk_X12_192 ?_
                  refine z_lcmp (pc := 95) dX12_isOwn_95 ?_
                  refine z_if_eq (pc := 96) (tgt := 264) dX12_isOwn_96 (by decide) (fun c9 => ?_) (fun c9 => ?_)
                  · have h := zt_some c9 h
                    refine z_iconst (pc := 264) (v := 1) dX12_isOwn_264 zci_1 ?_
                    refine z_goto (pc := 265) (tgt := 269) dX12_isOwn_265 (by decide) ?_
                    obtain ⟨rfl, rfl⟩ := zr_some h
                    exact z_zret dX12_isOwn_269 rfl
                  · have h := ze_some c9 h
                    refine z_aload_n (pc := 99) (q := 0) dX12_isOwn_99 rfl rfl ?_
                    refine z_getJ (pc := 100) dX12_isOwn_100 zf_X12_153 gM_0_9 ?_
                    refine z_ldc2 (pc := 103) dX12_isOwn_103 zk_X12_194 ?_
                    refine z_lcmp (pc := 106) dX12_isOwn_106 ?_
                    refine z_if_eq (pc := 107) (tgt := 264) dX12_isOwn_107 (by decide) (fun c10 => ?_) (fun c10 => ?_)
                    · have h := zt_some c10 h
                      refine z_iconst (pc := 264) (v := 1) dX12_isOwn_264 zci_1 ?_
                      refine z_goto (pc := 265) (tgt := 269) dX12_isOwn_265 (by decide) ?_
                      obtain ⟨rfl, rfl⟩ := zr_some h
                      exact z_zret dX12_isOwn_269 rfl
                    · have h := ze_some c10 h
                      refine z_aload_n (pc := 110) (q := 0) dX12_isOwn_110 rfl rfl ?_
                      refine z_getJ (pc := 111) dX12_isOwn_111 zf_X12_153 gM_0_9 ?_
                      refine z_ldc2 (pc := 114) dX12_isOwn_114 zk_X12_196 ?_
                      refine z_lcmp (pc := 117) dX12_isOwn_117 ?_
                      refine z_if_eq (pc := 118) (tgt := 264) dX12_isOwn_118 (by decide) (fun c11 => ?_) (fun c11 => ?_)
                      · have h := zt_some c11 h
                        refine z_iconst (pc := 264) (v := 1) dX12_isOwn_264 zci_1 ?_
                        refine z_goto (pc := 265) (tgt := 269) dX12_isOwn_265 (by decide) ?_
                        obtain ⟨rfl, rfl⟩ := zr_some h
                        exact z_zret dX12_isOwn_269 rfl
                      · have h := ze_some c11 h
                        refine z_aload_n (pc := 121) (q := 0) dX12_isOwn_121 rfl rfl ?_
                        refine z_getJ (pc := 122) dX12_isOwn_122 zf_X12_153 gM_0_9 ?_
                        refine z_ldc2 (pc := 125) dX12_isOwn_125 zk_X12_198 ?_
                        refine z_lcmp (pc := 128) dX12_isOwn_128 ?_
                        refine z_if_eq (pc := 129) (tgt := 264) dX12_isOwn_129 (by decide) (fun c12 => ?_) (fun c12 => ?_)
                        · have h := zt_some c12 h
                          refine z_iconst (pc := 264) (v := 1) dX12_isOwn_264 zci_1 ?_
                          refine z_goto (pc := 265) (tgt := 269) dX12_isOwn_265 (by decide) ?_
                          obtain ⟨rfl, rfl⟩ := zr_some h
                          exact z_zret dX12_isOwn_269 rfl
                        · have h := ze_some c12 h
                          refine z_aload_n (pc := 132) (q := 0) dX12_isOwn_132 rfl rfl ?_
                          refine z_getJ (pc := 133) dX12_isOwn_133 zf_X12_153 gM_0_9 ?_
                          refine z_ldc2 (pc := 136) dX12_isOwn_136 zk_X12_200 ?_
                          refine z_lcmp (pc := 139) dX12_isOwn_139 ?_
                          refine z_if_eq (pc := 140) (tgt := 264) dX12_isOwn_140 (by decide) (fun c13 => ?_) (fun c13 => ?_)
                          · have h := zt_some c13 h
                            refine z_iconst (pc := 264) (v := 1) dX12_isOwn_264 zci_1 ?_
                            refine z_goto (pc := 265) (tgt := 269) dX12_isOwn_265 (by decide) ?_
                            obtain ⟨rfl, rfl⟩ := zr_some h
                            exact z_zret dX12_isOwn_269 rfl
                          · have h := ze_some c13 h
                            refine z_aload_n (pc := 143) (q := 0) dX12_isOwn_143 rfl rfl ?_
                            refine z_getJ (pc := 144) dX12_isOwn_144 zf_X12_153 gM_0_9 ?_
                            refine z_ldc2 (pc := 147) dX12_isOwn_147 zk_X12_202 ?_
                            refine z_lcmp (pc := 150) dX12_isOwn_150 ?_
                            refine z_if_eq (pc := 151) (tgt := 264) dX12_isOwn_151 (by decide) (fun c14 => ?_) (fun c14 => ?_)
                            · have h := zt_some c14 h
                              refine z_iconst (pc := 264) (v := 1) dX12_isOwn_264 zci_1 ?_
                              refine z_goto (pc := 265) (tgt := 269) dX12_isOwn_265 (by decide) ?_
                              obtain ⟨rfl, rfl⟩ := zr_some h
                              exact z_zret dX12_isOwn_269 rfl
                            · have h := ze_some c14 h
                              refine z_aload_n (pc := 154) (q := 0) dX12_isOwn_154 rfl rfl ?_
                              refine z_getJ (pc := 155) dX12_isOwn_155 zf_X12_153 gM_0_9 ?_
                              refine z_ldc2 (pc := 158) dX12_isOwn_158 zk_X12_204 ?_
                              refine z_lcmp (pc := 161) dX12_isOwn_161 ?_
                              refine z_if_eq (pc := 162) (tgt := 264) dX12_isOwn_162 (by decide) (fun c15 => ?_) (fun c15 => ?_)
                              · have h := zt_some c15 h
                                refine z_iconst (pc := 264) (v := 1) dX12_isOwn_264 zci_1 ?_
                                refine z_goto (pc := 265) (tgt := 269) dX12_isOwn_265 (by decide) ?_
                                obtain ⟨rfl, rfl⟩ := zr_some h
                                exact z_zret dX12_isOwn_269 rfl
                              · have h := ze_some c15 h
                                refine z_aload_n (pc := 165) (q := 0) dX12_isOwn_165 rfl rfl ?_
                                refine z_getJ (pc := 166) dX12_isOwn_166 zf_X12_153 gM_0_9 ?_
                                refine z_ldc2 (pc := 169) dX12_isOwn_169 zk_X12_206 ?_
                                refine z_lcmp (pc := 172) dX12_isOwn_172 ?_
                                refine z_if_eq (pc := 173) (tgt := 264) dX12_isOwn_173 (by decide) (fun c16 => ?_) (fun c16 => ?_)
                                · have h := zt_some c16 h
                                  refine z_iconst (pc := 264) (v := 1) dX12_isOwn_264 zci_1 ?_
                                  refine z_goto (pc := 265) (tgt := 269) dX12_isOwn_265 (by decide) ?_
                                  obtain ⟨rfl, rfl⟩ := zr_some h
                                  exact z_zret dX12_isOwn_269 rfl
                                · have h := ze_some c16 h
                                  refine z_aload_n (pc := 176) (q := 0) dX12_isOwn_176 rfl rfl ?_
                                  refine z_getJ (pc := 177) dX12_isOwn_177 zf_X12_153 gM_0_9 ?_
                                  refine z_ldc2 (pc := 180) dX12_isOwn_180 zk_X12_208 ?_
                                  refine z_lcmp (pc := 183) dX12_isOwn_183 ?_
                                  refine z_if_eq (pc := 184) (tgt := 264) dX12_isOwn_184 (by decide) (fun c17 => ?_) (fun c17 => ?_)
                                  · have h := zt_some c17 h
                                    refine z_iconst (pc := 264) (v := 1) dX12_isOwn_264 zci_1 ?_
                                    refine z_goto (pc := 265) (tgt := 269) dX12_isOwn_265 (by decide) ?_
                                    obtain ⟨rfl, rfl⟩ := zr_some h
                                    exact z_zret dX12_isOwn_269 rfl
                                  · have h := ze_some c17 h
                                    refine z_aload_n (pc := 187) (q := 0) dX12_isOwn_187 rfl rfl ?_
                                    refine z_getJ (pc := 188) dX12_isOwn_188 zf_X12_153 gM_0_9 ?_
                                    refine z_ldc2 (pc := 191) dX12_isOwn_191 zk_X12_210 ?_
                                    refine z_lcmp (pc := 194) dX12_isOwn_194 ?_
                                    refine z_if_eq (pc := 195) (tgt := 264) dX12_isOwn_195 (by decide) (fun c18 => ?_) (fun c18 => ?_)
                                    · have h := zt_some c18 h
                                      refine z_iconst (pc := 264) (v := 1) dX12_isOwn_264 zci_1 ?_
                                      refine z_goto (pc := 265) (tgt := 269) dX12_isOwn_265 (by decide) ?_
                                      obtain ⟨rfl, rfl⟩ := zr_some h
                                      exact z_zret dX12_isOwn_269 rfl
                                    · have h := ze_some c18 h
                                      refine z_aload_n (pc := 198) (q := 0) dX12_isOwn_198 rfl rfl ?_
                                      refine z_getJ (pc := 199) dX12_isOwn_199 zf_X12_153 gM_0_9 ?_
                                      refine z_ldc2 (pc := 202) dX12_isOwn_202 zk_X12_212 ?_
                                      refine z_lcmp (pc := 205) dX12_isOwn_205 ?_
                                      refine z_if_eq (pc := 206) (tgt := 264) dX12_isOwn_206 (by decide) (fun c19 => ?_) (fun c19 => ?_)
                                      · have h := zt_some c19 h
                                        refine z_iconst (pc := 264) (v := 1) dX12_isOwn_264 zci_1 ?_
                                        refine z_goto (pc := 265) (tgt := 269) dX12_isOwn_265 (by decide) ?_
                                        obtain ⟨rfl, rfl⟩ := zr_some h
                                        exact z_zret dX12_isOwn_269 rfl
                                      · have h := ze_some c19 h
                                        refine z_aload_n (pc := 209) (q := 0) dX12_isOwn_209 rfl rfl ?_
                                        refine z_getJ (pc := 210) dX12_isOwn_210 zf_X12_153 gM_0_9 ?_
                                        refine z_ldc2 (pc := 213) dX12_isOwn_213 zk_X12_214 ?_
                                        refine z_lcmp (pc := 216) dX12_isOwn_216 ?_
                                        refine z_if_eq (pc := 217) (tgt := 264) dX12_isOwn_217 (by decide) (fun c20 => ?_) (fun c20 => ?_)
                                        · have h := zt_some c20 h
                                          refine z_iconst (pc := 264) (v := 1) dX12_isOwn_264 zci_1 ?_
                                          refine z_goto (pc := 265) (tgt := 269) dX12_isOwn_265 (by decide) ?_
                                          obtain ⟨rfl, rfl⟩ := zr_some h
                                          exact z_zret dX12_isOwn_269 rfl
                                        · have h := ze_some c20 h
                                          refine z_aload_n (pc := 220) (q := 0) dX12_isOwn_220 rfl rfl ?_
                                          refine z_getJ (pc := 221) dX12_isOwn_221 zf_X12_153 gM_0_9 ?_
                                          refine z_ldc2 (pc := 224) dX12_isOwn_224 zk_X12_216 ?_
                                          refine z_lcmp (pc := 227) dX12_isOwn_227 ?_
                                          refine z_if_eq (pc := 228) (tgt := 264) dX12_isOwn_228 (by decide) (fun c21 => ?_) (fun c21 => ?_)
                                          · have h := zt_some c21 h
                                            refine z_iconst (pc := 264) (v := 1) dX12_isOwn_264 zci_1 ?_
                                            refine z_goto (pc := 265) (tgt := 269) dX12_isOwn_265 (by decide) ?_
                                            obtain ⟨rfl, rfl⟩ := zr_some h
                                            exact z_zret dX12_isOwn_269 rfl
                                          · have h := ze_some c21 h
                                            refine z_aload_n (pc := 231) (q := 0) dX12_isOwn_231 rfl rfl ?_
                                            refine z_getJ (pc := 232) dX12_isOwn_232 zf_X12_153 gM_0_9 ?_
                                            refine z_ldc2 (pc := 235) dX12_isOwn_235 zk_X12_218 ?_
                                            refine z_lcmp (pc := 238) dX12_isOwn_238 ?_
                                            refine z_if_eq (pc := 239) (tgt := 264) dX12_isOwn_239 (by decide) (fun c22 => ?_) (fun c22 => ?_)
                                            · have h := zt_some c22 h
                                              refine z_iconst (pc := 264) (v := 1) dX12_isOwn_264 zci_1 ?_
                                              refine z_goto (pc := 265) (tgt := 269) dX12_isOwn_265 (by decide) ?_
                                              obtain ⟨rfl, rfl⟩ := zr_some h
                                              exact z_zret dX12_isOwn_269 rfl
                                            · have h := ze_some c22 h
                                              refine z_aload_n (pc := 242) (q := 0) dX12_isOwn_242 rfl rfl ?_
                                              refine z_getJ (pc := 243) dX12_isOwn_243 zf_X12_153 gM_0_9 ?_
                                              refine z_ldc2 (pc := 246) dX12_isOwn_246 zk_X12_220 ?_
                                              refine z_lcmp (pc := 249) dX12_isOwn_249 ?_
                                              refine z_if_eq (pc := 250) (tgt := 264) dX12_isOwn_250 (by decide) (fun c23 => ?_) (fun c23 => ?_)
                                              · have h := zt_some c23 h
                                                refine z_iconst (pc := 264) (v := 1) dX12_isOwn_264 zci_1 ?_
                                                refine z_goto (pc := 265) (tgt := 269) dX12_isOwn_265 (by decide) ?_
                                                obtain ⟨rfl, rfl⟩ := zr_some h
                                                exact z_zret dX12_isOwn_269 rfl
                                              · have h := ze_some c23 h
                                                refine z_aload_n (pc := 253) (q := 0) dX12_isOwn_253 rfl rfl ?_
                                                refine z_getJ (pc := 254) dX12_isOwn_254 zf_X12_153 gM_0_9 ?_
                                                refine z_ldc2 (pc := 257) dX12_isOwn_257 zk_X12_222 ?_
                                                refine z_lcmp (pc := 260) dX12_isOwn_260 ?_
                                                refine z_if_ne (pc := 261) (tgt := 268) dX12_isOwn_261 (by decide) (fun c24 => ?_) (fun c24 => ?_)
                                                · have h := ze_some c24 h
                                                  refine z_iconst (pc := 268) (v := 0) dX12_isOwn_268 zci_0 ?_
                                                  obtain ⟨rfl, rfl⟩ := zr_some h
                                                  exact z_zret dX12_isOwn_269 rfl
                                                · have h := zt_some c24 h
                                                  refine z_iconst (pc := 264) (v := 1) dX12_isOwn_264 zci_1 ?_
                                                  refine z_goto (pc := 265) (tgt := 269) dX12_isOwn_265 (by decide) ?_
                                                  obtain ⟨rfl, rfl⟩ := zr_some h
                                                  exact z_zret dX12_isOwn_269 rfl
def f_X12_isName  (S : zS) : Option (Int32 × zS) :=
  if (S.1 0 6) = 1 then
    zb (f_X12_isOwn S) fun r4 T3 =>
    if r4 = 0 then
      some (1, T3)
    else
      some (0, T3)
  else
    some (0, S)
set_option maxRecDepth 100000 in
theorem w_X12_isName (l : Launch)  {S : zS} {r : Int32} {S1 : zS} (h : f_X12_isName S = some (r, S1)) : zMet zLM l yX12_isName cX12_isName 1 (some .boolean) 2 [.ref 0] S (some (.int r)) S1 := by
  unfold f_X12_isName at h
  refine zMet.of (by decide +kernel) (Nat.le_of_ble_eq_true rfl) ?_
  show WA zLM l RX12 cX12_isName 1 (some .boolean) 2 (some (.int r)) S1 0 [(0, .ref 0)] [] S
  refine z_aload_n (pc := 0) (q := 0) dX12_isName_0 rfl rfl ?_
  refine z_getI (pc := 1) dX12_isName_1 zf_X12_160 gM_0_6 ?_
  refine z_iconst (pc := 4) (v := 1) dX12_isName_4 zci_1 ?_
  refine z_icmp_ne (pc := 5) (tgt := 19) dX12_isName_5 (by decide) (fun c1 => ?_) (fun c1 => ?_)
  · have h := ze_some c1 h
    refine z_iconst (pc := 19) (v := 0) dX12_isName_19 zci_0 ?_
    obtain ⟨rfl, rfl⟩ := zr_some h
    exact z_zret dX12_isName_20 rfl
  · have h := zt_some c1 h
    refine z_aload_n (pc := 8) (q := 0) dX12_isName_8 rfl rfl ?_
    obtain ⟨r4, T3, q2, h⟩ := zb_some h
    refine z_callVi (pc := 9) (st := []) [] dX12_isName_9 zm_X12_224 zM_X12_isOwn (by decide) oM_0 rfl (w_X12_isOwn l q2) rfl rfl (Nat.le_of_ble_eq_true rfl) ?_
    refine z_if_ne (pc := 12) (tgt := 19) dX12_isName_12 (by decide) (fun c5 => ?_) (fun c5 => ?_)
    · have h := ze_some c5 h
      refine z_iconst (pc := 19) (v := 0) dX12_isName_19 zci_0 ?_
      obtain ⟨rfl, rfl⟩ := zr_some h
      exact z_zret dX12_isName_20 rfl
    · have h := zt_some c5 h
      refine z_iconst (pc := 15) (v := 1) dX12_isName_15 zci_1 ?_
      refine z_goto (pc := 16) (tgt := 20) dX12_isName_16 (by decide) ?_
      obtain ⟨rfl, rfl⟩ := zr_some h
      exact z_zret dX12_isName_20 rfl
def f_X12_want (x1 : Int64) (S : zS) : Option zS :=
  if (0 : Int32) < (S.1 0 2) then
    some S
  else
    zb (f_X12_isWord x1 S) fun r4 T3 =>
    if r4 = 0 then
      zu (f_X12_wrong 2 T3) fun T7 =>
      some T7
    else
      zu (f_X12_token T3) fun T7 =>
      some T7
set_option maxRecDepth 100000 in
theorem w_X12_want (l : Launch) {x1 : Int64} {S : zS} {S1 : zS} (h : f_X12_want x1 S = some S1) : zMet zLM l yX12_want cX12_want 3 none 3 [.ref 0, .long x1] S none S1 := by
  unfold f_X12_want at h
  refine zMet.of (by decide +kernel) (Nat.le_of_ble_eq_true rfl) ?_
  show WA zLM l RX12 cX12_want 3 none 3 none S1 0 [(0, .ref 0), (1, .long x1)] [] S
  refine z_aload_n (pc := 0) (q := 0) dX12_want_0 rfl rfl ?_
  refine z_getI (pc := 1) dX12_want_1 zf_X12_173 gM_0_2 ?_
  refine z_if_le (pc := 4) (tgt := 8) dX12_want_4 (by decide) (fun c1 => ?_) (fun c1 => ?_)
  · have h := ze_some c1 h
    refine z_aload_n (pc := 8) (q := 0) dX12_want_8 rfl rfl ?_
    refine z_lload_n (pc := 9) (q := 1) dX12_want_9 rfl rfl ?_
    obtain ⟨r4, T3, q2, h⟩ := zb_some h
    refine z_callVi (pc := 10) (st := []) [.long x1] dX12_want_10 zm_X12_228 zM_X12_isWord (by decide) oM_0 rfl (w_X12_isWord l q2) rfl rfl (Nat.le_of_ble_eq_true rfl) ?_
    refine z_if_ne (pc := 13) (tgt := 24) dX12_want_13 (by decide) (fun c5 => ?_) (fun c5 => ?_)
    · have h := ze_some c5 h
      refine z_aload_n (pc := 24) (q := 0) dX12_want_24 rfl rfl ?_
      obtain ⟨T7, q6, h⟩ := zu_some h
      refine z_callVv (pc := 25) (st := []) [] dX12_want_25 zm_X12_235 zM_X12_token (by decide) oM_0 rfl (w_X12_token l q6) rfl rfl (Nat.le_of_ble_eq_true rfl) ?_
      cases h
      exact z_vret dX12_want_28
    · have h := zt_some c5 h
      refine z_aload_n (pc := 16) (q := 0) dX12_want_16 rfl rfl ?_
      refine z_iconst (pc := 17) (v := 2) dX12_want_17 zci_2 ?_
      obtain ⟨T7, q6, h⟩ := zu_some h
      refine z_callVv (pc := 18) (st := []) [.int 2] dX12_want_18 zm_X12_232 zM_X12_wrong (by decide) oM_0 rfl (w_X12_wrong l q6) rfl rfl (Nat.le_of_ble_eq_true rfl) ?_
      refine z_goto (pc := 21) (tgt := 28) dX12_want_21 (by decide) ?_
      cases h
      exact z_vret dX12_want_28
  · have h := zt_some c1 h
    cases h
    exact z_vret dX12_want_7
def f_X12_toldNumber_B46  (S : zS) : Option (Int32 × zS) :=
  zlet (S.1 0 8) fun v1 =>
  if (S.1 0 2) = 0 then
    zu (f_X12_token S) fun T4 =>
    some (v1, T4)
  else
    some (v1, S)
def f_X12_toldNumber_B41  (S : zS) : Option (Int32 × zS) :=
  zu (f_X12_wrong 4 S) fun T2 =>
  f_X12_toldNumber_B46 T2
def f_X12_toldNumber (x1 : Int32) (x2 : Int32) (S : zS) : Option (Int32 × zS) :=
  if (0 : Int32) < (S.1 0 2) then
    some (0, S)
  else
    if (S.1 0 6) = 2 then
      if (S.1 0 8) < x1 then
        f_X12_toldNumber_B41 S
      else
        if x2 < (S.1 0 8) then
          f_X12_toldNumber_B41 S
        else
          f_X12_toldNumber_B46 S
    else
      zu (f_X12_wrong 2 S) fun T4 =>
      f_X12_toldNumber_B46 T4
set_option maxRecDepth 100000 in
theorem w_X12_toldNumber_B46 (l : Launch) {r : Int32} {S1 : zS}  (S : zS) (h : f_X12_toldNumber_B46 S = some (r, S1)) : WA zLM l RX12 cX12_toldNumber 4 (some .int) 3 (some (.int r)) S1 46 [(0, .ref 0)] [] S := by
  unfold f_X12_toldNumber_B46 at h
  refine z_aload_n (pc := 46) (q := 0) dX12_toldNumber_46 rfl rfl ?_
  refine z_getI (pc := 47) dX12_toldNumber_47 zf_X12_157 gM_0_8 ?_
  obtain ⟨v1, ev1, h⟩ := zl_some h
  refine z_top ev1 ?_
  refine z_istore_n (pc := 50) (lo' := [(3, .int v1), (0, .ref 0)]) dX12_toldNumber_50 rfl (by decide) rfl ?_
  refine z_aload_n (pc := 51) (q := 1) dX12_toldNumber_51 rfl rfl ?_
  refine z_getI (pc := 52) dX12_toldNumber_52 zf_X12_173 gM_0_2 ?_
  refine z_if_ne (pc := 55) (tgt := 62) dX12_toldNumber_55 (by decide) (fun c2 => ?_) (fun c2 => ?_)
  · have h := ze_some c2 h
    refine z_iload_n (pc := 62) (q := 0) dX12_toldNumber_62 rfl rfl ?_
    obtain ⟨rfl, rfl⟩ := zr_some h
    exact z_iret dX12_toldNumber_63
  · have h := zt_some c2 h
    refine z_aload_n (pc := 58) (q := 1) dX12_toldNumber_58 rfl rfl ?_
    obtain ⟨T4, q3, h⟩ := zu_some h
    refine z_callVv (pc := 59) (st := []) [] dX12_toldNumber_59 zm_X12_235 zM_X12_token (by decide) oM_0 rfl (w_X12_token l q3) rfl rfl (Nat.le_of_ble_eq_true rfl) ?_
    refine z_iload_n (pc := 62) (q := 0) dX12_toldNumber_62 rfl rfl ?_
    obtain ⟨rfl, rfl⟩ := zr_some h
    exact z_iret dX12_toldNumber_63
set_option maxRecDepth 100000 in
theorem w_X12_toldNumber_B41 (l : Launch) {r : Int32} {S1 : zS}  (S : zS) (h : f_X12_toldNumber_B41 S = some (r, S1)) : WA zLM l RX12 cX12_toldNumber 4 (some .int) 3 (some (.int r)) S1 41 [(0, .ref 0)] [] S := by
  unfold f_X12_toldNumber_B41 at h
  refine z_aload_n (pc := 41) (q := 0) dX12_toldNumber_41 rfl rfl ?_
  refine z_iconst (pc := 42) (v := 4) dX12_toldNumber_42 zci_4 ?_
  obtain ⟨T2, q1, h⟩ := zu_some h
  refine z_callVv (pc := 43) (st := []) [.int 4] dX12_toldNumber_43 zm_X12_232 zM_X12_wrong (by decide) oM_0 rfl (w_X12_wrong l q1) rfl rfl (Nat.le_of_ble_eq_true rfl) ?_
  exact w_X12_toldNumber_B46 l T2 h
set_option maxRecDepth 100000 in
theorem w_X12_toldNumber (l : Launch) {x1 : Int32} {x2 : Int32} {S : zS} {r : Int32} {S1 : zS} (h : f_X12_toldNumber x1 x2 S = some (r, S1)) : zMet zLM l yX12_toldNumber cX12_toldNumber 4 (some .int) 3 [.ref 0, .int x1, .int x2] S (some (.int r)) S1 := by
  unfold f_X12_toldNumber at h
  refine zMet.of (by decide +kernel) (Nat.le_of_ble_eq_true rfl) ?_
  show WA zLM l RX12 cX12_toldNumber 4 (some .int) 3 (some (.int r)) S1 0 [(0, .ref 0), (1, .int x1), (2, .int x2)] [] S
  refine z_aload_n (pc := 0) (q := 0) dX12_toldNumber_0 rfl rfl ?_
  refine z_getI (pc := 1) dX12_toldNumber_1 zf_X12_173 gM_0_2 ?_
  refine z_if_le (pc := 4) (tgt := 9) dX12_toldNumber_4 (by decide) (fun c1 => ?_) (fun c1 => ?_)
  · have h := ze_some c1 h
    refine z_aload_n (pc := 9) (q := 0) dX12_toldNumber_9 rfl rfl ?_
    refine z_getI (pc := 10) dX12_toldNumber_10 zf_X12_160 gM_0_6 ?_
    refine z_iconst (pc := 13) (v := 2) dX12_toldNumber_13 zci_2 ?_
    refine z_icmp_eq (pc := 14) (tgt := 25) dX12_toldNumber_14 (by decide) (fun c2 => ?_) (fun c2 => ?_)
    · have h := zt_some c2 h
      refine z_aload_n (pc := 25) (q := 0) dX12_toldNumber_25 rfl rfl ?_
      refine z_getI (pc := 26) dX12_toldNumber_26 zf_X12_157 gM_0_8 ?_
      refine z_iload_n (pc := 29) (q := 1) dX12_toldNumber_29 rfl rfl ?_
      refine z_icmp_lt (pc := 30) (tgt := 41) dX12_toldNumber_30 (by decide) (fun c3 => ?_) (fun c3 => ?_)
      · have h := zt_some c3 h
        exact z_sub [0] rfl (w_X12_toldNumber_B41 l S h)
      · have h := ze_some c3 h
        refine z_aload_n (pc := 33) (q := 0) dX12_toldNumber_33 rfl rfl ?_
        refine z_getI (pc := 34) dX12_toldNumber_34 zf_X12_157 gM_0_8 ?_
        refine z_iload_n (pc := 37) (q := 2) dX12_toldNumber_37 rfl rfl ?_
        refine z_icmp_le (pc := 38) (tgt := 46) dX12_toldNumber_38 (by decide) (fun c4 => ?_) (fun c4 => ?_)
        · have h := ze_some c4 h
          exact z_sub [0] rfl (w_X12_toldNumber_B46 l S h)
        · have h := zt_some c4 h
          exact z_sub [0] rfl (w_X12_toldNumber_B41 l S h)
    · have h := ze_some c2 h
      refine z_aload_n (pc := 17) (q := 0) dX12_toldNumber_17 rfl rfl ?_
      refine z_iconst (pc := 18) (v := 2) dX12_toldNumber_18 zci_2 ?_
      obtain ⟨T4, q3, h⟩ := zu_some h
      refine z_callVv (pc := 19) (st := []) [.int 2] dX12_toldNumber_19 zm_X12_232 zM_X12_wrong (by decide) oM_0 rfl (w_X12_wrong l q3) rfl rfl (Nat.le_of_ble_eq_true rfl) ?_
      refine z_goto (pc := 22) (tgt := 46) dX12_toldNumber_22 (by decide) ?_
      exact z_sub [0] rfl (w_X12_toldNumber_B46 l T4 h)
  · have h := zt_some c1 h
    refine z_iconst (pc := 7) (v := 0) dX12_toldNumber_7 zci_0 ?_
    obtain ⟨rfl, rfl⟩ := zr_some h
    exact z_iret dX12_toldNumber_8
def f_X12_told (x1 : Int64) (x3 : Int32) (x4 : Int32) (S : zS) : Option (Int32 × zS) :=
  zu (f_X12_want x1 S) fun T2 =>
  zb (f_X12_toldNumber x3 x4 T2) fun r5 T4 =>
  some (r5, T4)
set_option maxRecDepth 100000 in
theorem w_X12_told (l : Launch) {x1 : Int64} {x3 : Int32} {x4 : Int32} {S : zS} {r : Int32} {S1 : zS} (h : f_X12_told x1 x3 x4 S = some (r, S1)) : zMet zLM l yX12_told cX12_told 5 (some .int) 4 [.ref 0, .long x1, .int x3, .int x4] S (some (.int r)) S1 := by
  unfold f_X12_told at h
  refine zMet.of (by decide +kernel) (Nat.le_of_ble_eq_true rfl) ?_
  show WA zLM l RX12 cX12_told 5 (some .int) 4 (some (.int r)) S1 0 [(0, .ref 0), (1, .long x1), (3, .int x3), (4, .int x4)] [] S
  refine z_aload_n (pc := 0) (q := 0) dX12_told_0 rfl rfl ?_
  refine z_lload_n (pc := 1) (q := 1) dX12_told_1 rfl rfl ?_
  obtain ⟨T2, q1, h⟩ := zu_some h
  refine z_callVv (pc := 2) (st := []) [.long x1] dX12_told_2 zm_X12_238 zM_X12_want (by decide) oM_0 rfl (w_X12_want l q1) rfl rfl (Nat.le_of_ble_eq_true rfl) ?_
  refine z_aload_n (pc := 5) (q := 0) dX12_told_5 rfl rfl ?_
  refine z_iload_n (pc := 6) (q := 2) dX12_told_6 rfl rfl ?_
  refine z_iload (pc := 7) (q := 3) dX12_told_7 rfl ?_
  obtain ⟨r5, T4, q3, h⟩ := zb_some h
  refine z_callVi (pc := 9) (st := []) [.int x3, .int x4] dX12_told_9 zm_X12_241 zM_X12_toldNumber (by decide) oM_0 rfl (w_X12_toldNumber l q3) rfl rfl (Nat.le_of_ble_eq_true rfl) ?_
  obtain ⟨rfl, rfl⟩ := zr_some h
  exact z_iret dX12_told_12
def f_X12_toldValue_B62 (x3 : Int32) (x4 : Int32) (S : zS) : Option (Int32 × zS) :=
  if x3 = 0 then
    some (x4, S)
  else
    some (-x4, S)
def f_X12_toldValue_B37 (x1 : Int32) (x2 : Int32) (x3 : Int32) (S : zS) : Option (Int32 × zS) :=
  zb (f_X12_toldNumber 0 x1 S) fun r3 T2 =>
  if (T2.1 0 2) = 4 then
    if x3 = 0 then
      f_X12_toldValue_B62 x3 r3 T2
    else
      zlet (zput T2 0 3 x2) fun T6 =>
      f_X12_toldValue_B62 x3 r3 T6
  else
    f_X12_toldValue_B62 x3 r3 T2
def f_X12_toldValue_B28 (x1 : Int32) (x2 : Int32) (s0 : Int32) (S : zS) : Option (Int32 × zS) :=
  if s0 = 0 then
    f_X12_toldValue_B37 x1 x2 s0 S
  else
    zu (f_X12_token S) fun T3 =>
    f_X12_toldValue_B37 x1 x2 s0 T3
def f_X12_toldValue (x1 : Int32) (S : zS) : Option (Int32 × zS) :=
  if (0 : Int32) < (S.1 0 2) then
    some (0, S)
  else
    zlet (S.1 0 7) fun v2 =>
    if (S.1 0 6) = 45 then
      f_X12_toldValue_B28 x1 v2 1 S
    else
      f_X12_toldValue_B28 x1 v2 0 S
set_option maxRecDepth 100000 in
theorem w_X12_toldValue_B62 (l : Launch) {r : Int32} {S1 : zS} (x3 : Int32) (x4 : Int32) (S : zS) (h : f_X12_toldValue_B62 x3 x4 S = some (r, S1)) : WA zLM l RX12 cX12_toldValue 5 (some .int) 4 (some (.int r)) S1 62 [(3, .int x3), (4, .int x4)] [] S := by
  unfold f_X12_toldValue_B62 at h
  refine z_iload_n (pc := 62) (q := 0) dX12_toldValue_62 rfl rfl ?_
  refine z_if_eq (pc := 63) (tgt := 72) dX12_toldValue_63 (by decide) (fun c1 => ?_) (fun c1 => ?_)
  · have h := zt_some c1 h
    refine z_iload (pc := 72) (q := 1) dX12_toldValue_72 rfl ?_
    obtain ⟨rfl, rfl⟩ := zr_some h
    exact z_iret dX12_toldValue_74
  · have h := ze_some c1 h
    refine z_iload (pc := 66) (q := 1) dX12_toldValue_66 rfl ?_
    refine z_ineg (pc := 68) dX12_toldValue_68 ?_
    refine z_goto (pc := 69) (tgt := 74) dX12_toldValue_69 (by decide) ?_
    obtain ⟨rfl, rfl⟩ := zr_some h
    exact z_iret dX12_toldValue_74
set_option maxRecDepth 100000 in
theorem w_X12_toldValue_B37 (l : Launch) {r : Int32} {S1 : zS} (x1 : Int32) (x2 : Int32) (x3 : Int32) (S : zS) (h : f_X12_toldValue_B37 x1 x2 x3 S = some (r, S1)) : WA zLM l RX12 cX12_toldValue 5 (some .int) 4 (some (.int r)) S1 37 [(0, .ref 0), (1, .int x1), (2, .int x2), (3, .int x3)] [] S := by
  unfold f_X12_toldValue_B37 at h
  refine z_aload_n (pc := 37) (q := 0) dX12_toldValue_37 rfl rfl ?_
  refine z_iconst (pc := 38) (v := 0) dX12_toldValue_38 zci_0 ?_
  refine z_iload_n (pc := 39) (q := 1) dX12_toldValue_39 rfl rfl ?_
  obtain ⟨r3, T2, q1, h⟩ := zb_some h
  refine z_callVi (pc := 40) (st := []) [.int 0, .int x1] dX12_toldValue_40 zm_X12_241 zM_X12_toldNumber (by decide) oM_0 rfl (w_X12_toldNumber l q1) rfl rfl (Nat.le_of_ble_eq_true rfl) ?_
  refine z_istore (pc := 43) (lo' := [(4, .int r3), (0, .ref 0), (1, .int x1), (2, .int x2), (3, .int x3)]) dX12_toldValue_43 (by decide) rfl ?_
  refine z_aload_n (pc := 45) (q := 1) dX12_toldValue_45 rfl rfl ?_
  refine z_getI (pc := 46) dX12_toldValue_46 zf_X12_173 gM_0_2 ?_
  refine z_iconst (pc := 49) (v := 4) dX12_toldValue_49 zci_4 ?_
  refine z_icmp_ne (pc := 50) (tgt := 62) dX12_toldValue_50 (by decide) (fun c4 => ?_) (fun c4 => ?_)
  · have h := ze_some c4 h
    exact z_sub [4, 0] rfl (w_X12_toldValue_B62 l x3 r3 T2 h)
  · have h := zt_some c4 h
    refine z_iload_n (pc := 53) (q := 4) dX12_toldValue_53 rfl rfl ?_
    refine z_if_eq (pc := 54) (tgt := 62) dX12_toldValue_54 (by decide) (fun c5 => ?_) (fun c5 => ?_)
    · have h := zt_some c5 h
      exact z_sub [4, 0] rfl (w_X12_toldValue_B62 l x3 r3 T2 h)
    · have h := ze_some c5 h
      refine z_aload_n (pc := 57) (q := 1) dX12_toldValue_57 rfl rfl ?_
      refine z_iload_n (pc := 58) (q := 3) dX12_toldValue_58 rfl rfl ?_
      obtain ⟨T6, eT6, h⟩ := zl_some h
      refine z_putI (pc := 59) dX12_toldValue_59 zp_X12_13 gM_0_3 rfl rfl eT6 ?_
      exact z_sub [4, 0] rfl (w_X12_toldValue_B62 l x3 r3 T6 h)
set_option maxRecDepth 100000 in
theorem w_X12_toldValue_B28 (l : Launch) {r : Int32} {S1 : zS} (x1 : Int32) (x2 : Int32) (s0 : Int32) (S : zS) (h : f_X12_toldValue_B28 x1 x2 s0 S = some (r, S1)) : WA zLM l RX12 cX12_toldValue 5 (some .int) 4 (some (.int r)) S1 28 [(0, .ref 0), (1, .int x1), (2, .int x2)] [.int s0] S := by
  unfold f_X12_toldValue_B28 at h
  refine z_istore_n (pc := 28) (lo' := [(3, .int s0), (0, .ref 0), (1, .int x1), (2, .int x2)]) dX12_toldValue_28 rfl (by decide) rfl ?_
  refine z_iload_n (pc := 29) (q := 0) dX12_toldValue_29 rfl rfl ?_
  refine z_if_eq (pc := 30) (tgt := 37) dX12_toldValue_30 (by decide) (fun c1 => ?_) (fun c1 => ?_)
  · have h := zt_some c1 h
    exact z_sub [1, 2, 3, 0] rfl (w_X12_toldValue_B37 l x1 x2 s0 S h)
  · have h := ze_some c1 h
    refine z_aload_n (pc := 33) (q := 1) dX12_toldValue_33 rfl rfl ?_
    obtain ⟨T3, q2, h⟩ := zu_some h
    refine z_callVv (pc := 34) (st := []) [] dX12_toldValue_34 zm_X12_235 zM_X12_token (by decide) oM_0 rfl (w_X12_token l q2) rfl rfl (Nat.le_of_ble_eq_true rfl) ?_
    exact z_sub [1, 2, 3, 0] rfl (w_X12_toldValue_B37 l x1 x2 s0 T3 h)
set_option maxRecDepth 100000 in
theorem w_X12_toldValue (l : Launch) {x1 : Int32} {S : zS} {r : Int32} {S1 : zS} (h : f_X12_toldValue x1 S = some (r, S1)) : zMet zLM l yX12_toldValue cX12_toldValue 5 (some .int) 4 [.ref 0, .int x1] S (some (.int r)) S1 := by
  unfold f_X12_toldValue at h
  refine zMet.of (by decide +kernel) (Nat.le_of_ble_eq_true rfl) ?_
  show WA zLM l RX12 cX12_toldValue 5 (some .int) 4 (some (.int r)) S1 0 [(0, .ref 0), (1, .int x1)] [] S
  refine z_aload_n (pc := 0) (q := 0) dX12_toldValue_0 rfl rfl ?_
  refine z_getI (pc := 1) dX12_toldValue_1 zf_X12_173 gM_0_2 ?_
  refine z_if_le (pc := 4) (tgt := 9) dX12_toldValue_4 (by decide) (fun c1 => ?_) (fun c1 => ?_)
  · have h := ze_some c1 h
    refine z_aload_n (pc := 9) (q := 0) dX12_toldValue_9 rfl rfl ?_
    refine z_getI (pc := 10) dX12_toldValue_10 zf_X12_150 gM_0_7 ?_
    obtain ⟨v2, ev2, h⟩ := zl_some h
    refine z_top ev2 ?_
    refine z_istore_n (pc := 13) (lo' := [(2, .int v2), (0, .ref 0), (1, .int x1)]) dX12_toldValue_13 rfl (by decide) rfl ?_
    refine z_aload_n (pc := 14) (q := 1) dX12_toldValue_14 rfl rfl ?_
    refine z_getI (pc := 15) dX12_toldValue_15 zf_X12_160 gM_0_6 ?_
    refine z_bipush (pc := 18) (v := 45) dX12_toldValue_18 zcb_45 ?_
    refine z_icmp_ne (pc := 20) (tgt := 27) dX12_toldValue_20 (by decide) (fun c3 => ?_) (fun c3 => ?_)
    · have h := ze_some c3 h
      refine z_iconst (pc := 27) (v := 0) dX12_toldValue_27 zci_0 ?_
      exact z_sub [1, 2, 0] rfl (w_X12_toldValue_B28 l x1 v2 0 S h)
    · have h := zt_some c3 h
      refine z_iconst (pc := 23) (v := 1) dX12_toldValue_23 zci_1 ?_
      refine z_goto (pc := 24) (tgt := 28) dX12_toldValue_24 (by decide) ?_
      exact z_sub [1, 2, 0] rfl (w_X12_toldValue_B28 l x1 v2 1 S h)
  · have h := zt_some c1 h
    refine z_iconst (pc := 7) (v := 0) dX12_toldValue_7 zci_0 ?_
    obtain ⟨rfl, rfl⟩ := zr_some h
    exact z_iret dX12_toldValue_8
def f_X12_find_L5 : Nat → Int32 → Int32 → Int32 → Int32 → zS → Option (Int32 × zS)
  | 0, _, _, _, _, _ => none
  | n + 1, x1, x2, x3, x4, S =>
    if x4 < x2 then
      if zin (x1 + x4) 19 then
      if (lg_cmp (S.2 2 (x1 + x4).toNatClampNeg) (S.2 0 9)) = 0 then
        zlet (x4 + 1) fun v4 =>
        (f_X12_find_L5 n) x1 x2 x4 v4 S
      else
        zlet (x4 + 1) fun v4 =>
        (f_X12_find_L5 n) x1 x2 x3 v4 S else none
    else
      some (x3, S)
def f_X12_find (x1 : Int32) (x2 : Int32) (S : zS) : Option (Int32 × zS) :=
  f_X12_find_L5 zN x1 x2 (-1) 0 S
set_option maxRecDepth 100000 in
theorem w_X12_find_L5 (l : Launch) {r : Int32} {S1 : zS} : ∀ (n : Nat) (x1 : Int32) (x2 : Int32) (x3 : Int32) (x4 : Int32) (S : zS), f_X12_find_L5 n x1 x2 x3 x4 S = some (r, S1) → WA zLM l RX12 cX12_find 5 (some .int) 1 (some (.int r)) S1 5 [(0, .ref 0), (1, .int x1), (2, .int x2), (3, .int x3), (4, .int x4)] [] S := by
  intro n
  induction n with
  | zero =>
    intro x1 x2 x3 x4 S h
    exact nomatch h
  | succ n ih =>
    intro x1 x2 x3 x4 S h
    rw [f_X12_find_L5] at h
    refine z_iload (pc := 5) (q := 4) dX12_find_5 rfl ?_
    refine z_iload_n (pc := 7) (q := 2) dX12_find_7 rfl rfl ?_
    refine z_icmp_ge (pc := 8) (tgt := 41) dX12_find_8 (by decide) (fun c1 => ?_) (fun c1 => ?_)
    · have h := ze_some c1 h
      refine z_iload_n (pc := 41) (q := 3) dX12_find_41 rfl rfl ?_
      obtain ⟨rfl, rfl⟩ := zr_some h
      exact z_iret dX12_find_42
    · have h := zt_some c1 h
      refine z_aload_n (pc := 11) (q := 0) dX12_find_11 rfl rfl ?_
      refine z_getR (pc := 12) dX12_find_12 zf_X12_17 gM_0_10 ?_
      refine z_iload_n (pc := 15) (q := 1) dX12_find_15 rfl rfl ?_
      refine z_iload (pc := 16) (q := 4) dX12_find_16 rfl ?_
      refine z_iadd (pc := 18) dX12_find_18 ?_
      obtain ⟨c2, h⟩ := zg_some h
      refine z_lald (pc := 19) dX12_find_19 aM_2 c2 ?_
      refine z_aload_n (pc := 20) (q := 0) dX12_find_20 rfl rfl ?_
      refine z_getJ (pc := 21) dX12_find_21 zf_X12_153 gM_0_9 ?_
      refine z_lcmp (pc := 24) dX12_find_24 ?_
      refine z_if_ne (pc := 25) (tgt := 33) dX12_find_25 (by decide) (fun c3 => ?_) (fun c3 => ?_)
      · have h := ze_some c3 h
        refine z_iload_n (pc := 33) (q := 3) dX12_find_33 rfl rfl ?_
        refine z_istore_n (pc := 34) (lo' := [(3, .int x3), (0, .ref 0), (1, .int x1), (2, .int x2), (4, .int x4)]) dX12_find_34 rfl (by decide) rfl ?_
        obtain ⟨v4, ev4, h⟩ := zl_some h
        refine z_iinc (pc := 35) (q := 4) (v := v4) (lo' := [(4, .int v4), (3, .int x3), (0, .ref 0), (1, .int x1), (2, .int x2)]) dX12_find_35 rfl (by rw [ev4, zci_1]) (by decide) rfl ?_
        refine z_goto (pc := 38) (tgt := 5) dX12_find_38 (by decide) ?_
        exact z_sub [2, 3, 4, 1, 0] rfl (ih x1 x2 x3 v4 S h)
      · have h := zt_some c3 h
        refine z_iload (pc := 28) (q := 4) dX12_find_28 rfl ?_
        refine z_goto (pc := 30) (tgt := 34) dX12_find_30 (by decide) ?_
        refine z_istore_n (pc := 34) (lo' := [(3, .int x4), (0, .ref 0), (1, .int x1), (2, .int x2), (4, .int x4)]) dX12_find_34 rfl (by decide) rfl ?_
        obtain ⟨v4, ev4, h⟩ := zl_some h
        refine z_iinc (pc := 35) (q := 4) (v := v4) (lo' := [(4, .int v4), (3, .int x4), (0, .ref 0), (1, .int x1), (2, .int x2)]) dX12_find_35 rfl (by rw [ev4, zci_1]) (by decide) rfl ?_
        refine z_goto (pc := 38) (tgt := 5) dX12_find_38 (by decide) ?_
        exact z_sub [2, 3, 4, 1, 0] rfl (ih x1 x2 x4 v4 S h)
set_option maxRecDepth 100000 in
theorem w_X12_find (l : Launch) {x1 : Int32} {x2 : Int32} {S : zS} {r : Int32} {S1 : zS} (h : f_X12_find x1 x2 S = some (r, S1)) : zMet zLM l yX12_find cX12_find 5 (some .int) 1 [.ref 0, .int x1, .int x2] S (some (.int r)) S1 := by
  unfold f_X12_find at h
  refine zMet.of (by decide +kernel) (Nat.le_of_ble_eq_true rfl) ?_
  show WA zLM l RX12 cX12_find 5 (some .int) 1 (some (.int r)) S1 0 [(0, .ref 0), (1, .int x1), (2, .int x2)] [] S
  refine z_iconst (pc := 0) (v := (-1)) dX12_find_0 zci_m1 ?_
  refine z_istore_n (pc := 1) (lo' := [(3, .int (-1)), (0, .ref 0), (1, .int x1), (2, .int x2)]) dX12_find_1 rfl (by decide) rfl ?_
  refine z_iconst (pc := 2) (v := 0) dX12_find_2 zci_0 ?_
  refine z_istore (pc := 3) (lo' := [(4, .int 0), (3, .int (-1)), (0, .ref 0), (1, .int x1), (2, .int x2)]) dX12_find_3 (by decide) rfl ?_
  exact z_sub [2, 3, 4, 1, 0] rfl (w_X12_find_L5 l zN x1 x2 (-1) 0 S h)
def f_X12_newName_B33 (x1 : Int32) (x2 : Int32) (S : zS) : Option zS :=
  if (0 : Int32) < (S.1 0 2) then
    some S
  else
    if zin (x1 + x2) 19 then
    zlet (zputL S 2 (x1 + x2).toNatClampNeg (S.2 0 9)) fun T3 =>
    zu (f_X12_token T3) fun T5 =>
    some T5 else none
def f_X12_newName (x1 : Int32) (x2 : Int32) (S : zS) : Option zS :=
  zu (f_X12_token S) fun T2 =>
  zb (f_X12_isName T2) fun r5 T4 =>
  if r5 = 0 then
    zu (f_X12_wrong 2 T4) fun T8 =>
    f_X12_newName_B33 x1 x2 T8
  else
    zb (f_X12_find x1 x2 T4) fun r9 T8 =>
    if r9 < 0 then
      f_X12_newName_B33 x1 x2 T8
    else
      zu (f_X12_wrong 3 T8) fun T12 =>
      f_X12_newName_B33 x1 x2 T12
set_option maxRecDepth 100000 in
theorem w_X12_newName_B33 (l : Launch) {S1 : zS} (x1 : Int32) (x2 : Int32) (S : zS) (h : f_X12_newName_B33 x1 x2 S = some S1) : WA zLM l RX12 cX12_newName 3 none 3 none S1 33 [(0, .ref 0), (1, .int x1), (2, .int x2)] [] S := by
  unfold f_X12_newName_B33 at h
  refine z_aload_n (pc := 33) (q := 0) dX12_newName_33 rfl rfl ?_
  refine z_getI (pc := 34) dX12_newName_34 zf_X12_173 gM_0_2 ?_
  refine z_if_le (pc := 37) (tgt := 41) dX12_newName_37 (by decide) (fun c1 => ?_) (fun c1 => ?_)
  · have h := ze_some c1 h
    refine z_aload_n (pc := 41) (q := 0) dX12_newName_41 rfl rfl ?_
    refine z_getR (pc := 42) dX12_newName_42 zf_X12_17 gM_0_10 ?_
    refine z_iload_n (pc := 45) (q := 1) dX12_newName_45 rfl rfl ?_
    refine z_iload_n (pc := 46) (q := 2) dX12_newName_46 rfl rfl ?_
    refine z_iadd (pc := 47) dX12_newName_47 ?_
    refine z_aload_n (pc := 48) (q := 0) dX12_newName_48 rfl rfl ?_
    refine z_getJ (pc := 49) dX12_newName_49 zf_X12_153 gM_0_9 ?_
    obtain ⟨c2, h⟩ := zg_some h
    obtain ⟨T3, eT3, h⟩ := zl_some h
    refine z_last (pc := 52) dX12_newName_52 aM_2 c2 eT3 ?_
    refine z_aload_n (pc := 53) (q := 0) dX12_newName_53 rfl rfl ?_
    obtain ⟨T5, q4, h⟩ := zu_some h
    refine z_callVv (pc := 54) (st := []) [] dX12_newName_54 zm_X12_235 zM_X12_token (by decide) oM_0 rfl (w_X12_token l q4) rfl rfl (Nat.le_of_ble_eq_true rfl) ?_
    cases h
    exact z_vret dX12_newName_57
  · have h := zt_some c1 h
    cases h
    exact z_vret dX12_newName_40
set_option maxRecDepth 100000 in
theorem w_X12_newName (l : Launch) {x1 : Int32} {x2 : Int32} {S : zS} {S1 : zS} (h : f_X12_newName x1 x2 S = some S1) : zMet zLM l yX12_newName cX12_newName 3 none 3 [.ref 0, .int x1, .int x2] S none S1 := by
  unfold f_X12_newName at h
  refine zMet.of (by decide +kernel) (Nat.le_of_ble_eq_true rfl) ?_
  show WA zLM l RX12 cX12_newName 3 none 3 none S1 0 [(0, .ref 0), (1, .int x1), (2, .int x2)] [] S
  refine z_aload_n (pc := 0) (q := 0) dX12_newName_0 rfl rfl ?_
  obtain ⟨T2, q1, h⟩ := zu_some h
  refine z_callVv (pc := 1) (st := []) [] dX12_newName_1 zm_X12_235 zM_X12_token (by decide) oM_0 rfl (w_X12_token l q1) rfl rfl (Nat.le_of_ble_eq_true rfl) ?_
  refine z_aload_n (pc := 4) (q := 0) dX12_newName_4 rfl rfl ?_
  obtain ⟨r5, T4, q3, h⟩ := zb_some h
  refine z_callVi (pc := 5) (st := []) [] dX12_newName_5 zm_X12_245 zM_X12_isName (by decide) oM_0 rfl (w_X12_isName l q3) rfl rfl (Nat.le_of_ble_eq_true rfl) ?_
  refine z_if_ne (pc := 8) (tgt := 19) dX12_newName_8 (by decide) (fun c6 => ?_) (fun c6 => ?_)
  · have h := ze_some c6 h
    refine z_aload_n (pc := 19) (q := 0) dX12_newName_19 rfl rfl ?_
    refine z_iload_n (pc := 20) (q := 1) dX12_newName_20 rfl rfl ?_
    refine z_iload_n (pc := 21) (q := 2) dX12_newName_21 rfl rfl ?_
    obtain ⟨r9, T8, q7, h⟩ := zb_some h
    refine z_callVi (pc := 22) (st := []) [.int x1, .int x2] dX12_newName_22 zm_X12_248 zM_X12_find (by decide) oM_0 rfl (w_X12_find l q7) rfl rfl (Nat.le_of_ble_eq_true rfl) ?_
    refine z_if_lt (pc := 25) (tgt := 33) dX12_newName_25 (by decide) (fun c10 => ?_) (fun c10 => ?_)
    · have h := zt_some c10 h
      exact w_X12_newName_B33 l x1 x2 T8 h
    · have h := ze_some c10 h
      refine z_aload_n (pc := 28) (q := 0) dX12_newName_28 rfl rfl ?_
      refine z_iconst (pc := 29) (v := 3) dX12_newName_29 zci_3 ?_
      obtain ⟨T12, q11, h⟩ := zu_some h
      refine z_callVv (pc := 30) (st := []) [.int 3] dX12_newName_30 zm_X12_232 zM_X12_wrong (by decide) oM_0 rfl (w_X12_wrong l q11) rfl rfl (Nat.le_of_ble_eq_true rfl) ?_
      exact w_X12_newName_B33 l x1 x2 T12 h
  · have h := zt_some c6 h
    refine z_aload_n (pc := 11) (q := 0) dX12_newName_11 rfl rfl ?_
    refine z_iconst (pc := 12) (v := 2) dX12_newName_12 zci_2 ?_
    obtain ⟨T8, q7, h⟩ := zu_some h
    refine z_callVv (pc := 13) (st := []) [.int 2] dX12_newName_13 zm_X12_232 zM_X12_wrong (by decide) oM_0 rfl (w_X12_wrong l q7) rfl rfl (Nat.le_of_ble_eq_true rfl) ?_
    refine z_goto (pc := 16) (tgt := 33) dX12_newName_16 (by decide) ?_
    exact w_X12_newName_B33 l x1 x2 T8 h
def f_X12_oldName_B38 (x1 : Int32) (x2 : Int32) (S : zS) : Option (Int32 × zS) :=
  if (0 : Int32) < (S.1 0 2) then
    some (0, S)
  else
    zb (f_X12_find x1 x2 S) fun r4 T3 =>
    some (r4, T3)
def f_X12_oldName (x1 : Int32) (x2 : Int32) (S : zS) : Option (Int32 × zS) :=
  if (0 : Int32) < (S.1 0 2) then
    some (0, S)
  else
    zb (f_X12_isName S) fun r4 T3 =>
    if r4 = 0 then
      zu (f_X12_wrong 2 T3) fun T7 =>
      f_X12_oldName_B38 x1 x2 T7
    else
      zb (f_X12_find x1 x2 T3) fun r8 T7 =>
      if r8 < 0 then
        zu (f_X12_wrong 5 T7) fun T11 =>
        f_X12_oldName_B38 x1 x2 T11
      else
        f_X12_oldName_B38 x1 x2 T7
set_option maxRecDepth 100000 in
theorem w_X12_oldName_B38 (l : Launch) {r : Int32} {S1 : zS} (x1 : Int32) (x2 : Int32) (S : zS) (h : f_X12_oldName_B38 x1 x2 S = some (r, S1)) : WA zLM l RX12 cX12_oldName 3 (some .int) 3 (some (.int r)) S1 38 [(0, .ref 0), (1, .int x1), (2, .int x2)] [] S := by
  unfold f_X12_oldName_B38 at h
  refine z_aload_n (pc := 38) (q := 0) dX12_oldName_38 rfl rfl ?_
  refine z_getI (pc := 39) dX12_oldName_39 zf_X12_173 gM_0_2 ?_
  refine z_if_le (pc := 42) (tgt := 49) dX12_oldName_42 (by decide) (fun c1 => ?_) (fun c1 => ?_)
  · have h := ze_some c1 h
    refine z_aload_n (pc := 49) (q := 0) dX12_oldName_49 rfl rfl ?_
    refine z_iload_n (pc := 50) (q := 1) dX12_oldName_50 rfl rfl ?_
    refine z_iload_n (pc := 51) (q := 2) dX12_oldName_51 rfl rfl ?_
    obtain ⟨r4, T3, q2, h⟩ := zb_some h
    refine z_callVi (pc := 52) (st := []) [.int x1, .int x2] dX12_oldName_52 zm_X12_248 zM_X12_find (by decide) oM_0 rfl (w_X12_find l q2) rfl rfl (Nat.le_of_ble_eq_true rfl) ?_
    obtain ⟨rfl, rfl⟩ := zr_some h
    exact z_iret dX12_oldName_55
  · have h := zt_some c1 h
    refine z_iconst (pc := 45) (v := 0) dX12_oldName_45 zci_0 ?_
    refine z_goto (pc := 46) (tgt := 55) dX12_oldName_46 (by decide) ?_
    obtain ⟨rfl, rfl⟩ := zr_some h
    exact z_iret dX12_oldName_55
set_option maxRecDepth 100000 in
theorem w_X12_oldName (l : Launch) {x1 : Int32} {x2 : Int32} {S : zS} {r : Int32} {S1 : zS} (h : f_X12_oldName x1 x2 S = some (r, S1)) : zMet zLM l yX12_oldName cX12_oldName 3 (some .int) 3 [.ref 0, .int x1, .int x2] S (some (.int r)) S1 := by
  unfold f_X12_oldName at h
  refine zMet.of (by decide +kernel) (Nat.le_of_ble_eq_true rfl) ?_
  show WA zLM l RX12 cX12_oldName 3 (some .int) 3 (some (.int r)) S1 0 [(0, .ref 0), (1, .int x1), (2, .int x2)] [] S
  refine z_aload_n (pc := 0) (q := 0) dX12_oldName_0 rfl rfl ?_
  refine z_getI (pc := 1) dX12_oldName_1 zf_X12_173 gM_0_2 ?_
  refine z_if_le (pc := 4) (tgt := 9) dX12_oldName_4 (by decide) (fun c1 => ?_) (fun c1 => ?_)
  · have h := ze_some c1 h
    refine z_aload_n (pc := 9) (q := 0) dX12_oldName_9 rfl rfl ?_
    obtain ⟨r4, T3, q2, h⟩ := zb_some h
    refine z_callVi (pc := 10) (st := []) [] dX12_oldName_10 zm_X12_245 zM_X12_isName (by decide) oM_0 rfl (w_X12_isName l q2) rfl rfl (Nat.le_of_ble_eq_true rfl) ?_
    refine z_if_ne (pc := 13) (tgt := 24) dX12_oldName_13 (by decide) (fun c5 => ?_) (fun c5 => ?_)
    · have h := ze_some c5 h
      refine z_aload_n (pc := 24) (q := 0) dX12_oldName_24 rfl rfl ?_
      refine z_iload_n (pc := 25) (q := 1) dX12_oldName_25 rfl rfl ?_
      refine z_iload_n (pc := 26) (q := 2) dX12_oldName_26 rfl rfl ?_
      obtain ⟨r8, T7, q6, h⟩ := zb_some h
      refine z_callVi (pc := 27) (st := []) [.int x1, .int x2] dX12_oldName_27 zm_X12_248 zM_X12_find (by decide) oM_0 rfl (w_X12_find l q6) rfl rfl (Nat.le_of_ble_eq_true rfl) ?_
      refine z_if_ge (pc := 30) (tgt := 38) dX12_oldName_30 (by decide) (fun c9 => ?_) (fun c9 => ?_)
      · have h := ze_some c9 h
        exact w_X12_oldName_B38 l x1 x2 T7 h
      · have h := zt_some c9 h
        refine z_aload_n (pc := 33) (q := 0) dX12_oldName_33 rfl rfl ?_
        refine z_iconst (pc := 34) (v := 5) dX12_oldName_34 zci_5 ?_
        obtain ⟨T11, q10, h⟩ := zu_some h
        refine z_callVv (pc := 35) (st := []) [.int 5] dX12_oldName_35 zm_X12_232 zM_X12_wrong (by decide) oM_0 rfl (w_X12_wrong l q10) rfl rfl (Nat.le_of_ble_eq_true rfl) ?_
        exact w_X12_oldName_B38 l x1 x2 T11 h
    · have h := zt_some c5 h
      refine z_aload_n (pc := 16) (q := 0) dX12_oldName_16 rfl rfl ?_
      refine z_iconst (pc := 17) (v := 2) dX12_oldName_17 zci_2 ?_
      obtain ⟨T7, q6, h⟩ := zu_some h
      refine z_callVv (pc := 18) (st := []) [.int 2] dX12_oldName_18 zm_X12_232 zM_X12_wrong (by decide) oM_0 rfl (w_X12_wrong l q6) rfl rfl (Nat.le_of_ble_eq_true rfl) ?_
      refine z_goto (pc := 21) (tgt := 38) dX12_oldName_21 (by decide) ?_
      exact w_X12_oldName_B38 l x1 x2 T7 h
  · have h := zt_some c1 h
    refine z_iconst (pc := 7) (v := 0) dX12_oldName_7 zci_0 ?_
    obtain ⟨rfl, rfl⟩ := zr_some h
    exact z_iret dX12_oldName_8
def f_X12_nameBehind (x1 : Int64) (x3 : Int32) (x4 : Int32) (S : zS) : Option (Int32 × zS) :=
  if (0 : Int32) < (S.1 0 2) then
    some ((-1), S)
  else
    zb (f_X12_isWord x1 S) fun r4 T3 =>
    if r4 = 0 then
      some ((-1), T3)
    else
      zu (f_X12_token T3) fun T7 =>
      zb (f_X12_oldName x3 x4 T7) fun r10 T9 =>
      if (T9.1 0 2) = 0 then
        zu (f_X12_token T9) fun T13 =>
        some (r10, T13)
      else
        some (r10, T9)
set_option maxRecDepth 100000 in
theorem w_X12_nameBehind (l : Launch) {x1 : Int64} {x3 : Int32} {x4 : Int32} {S : zS} {r : Int32} {S1 : zS} (h : f_X12_nameBehind x1 x3 x4 S = some (r, S1)) : zMet zLM l yX12_nameBehind cX12_nameBehind 6 (some .int) 4 [.ref 0, .long x1, .int x3, .int x4] S (some (.int r)) S1 := by
  unfold f_X12_nameBehind at h
  refine zMet.of (by decide +kernel) (Nat.le_of_ble_eq_true rfl) ?_
  show WA zLM l RX12 cX12_nameBehind 6 (some .int) 4 (some (.int r)) S1 0 [(0, .ref 0), (1, .long x1), (3, .int x3), (4, .int x4)] [] S
  refine z_aload_n (pc := 0) (q := 0) dX12_nameBehind_0 rfl rfl ?_
  refine z_getI (pc := 1) dX12_nameBehind_1 zf_X12_173 gM_0_2 ?_
  refine z_if_gt (pc := 4) (tgt := 15) dX12_nameBehind_4 (by decide) (fun c1 => ?_) (fun c1 => ?_)
  · have h := zt_some c1 h
    refine z_iconst (pc := 15) (v := (-1)) dX12_nameBehind_15 zci_m1 ?_
    obtain ⟨rfl, rfl⟩ := zr_some h
    exact z_iret dX12_nameBehind_16
  · have h := ze_some c1 h
    refine z_aload_n (pc := 7) (q := 0) dX12_nameBehind_7 rfl rfl ?_
    refine z_lload_n (pc := 8) (q := 1) dX12_nameBehind_8 rfl rfl ?_
    obtain ⟨r4, T3, q2, h⟩ := zb_some h
    refine z_callVi (pc := 9) (st := []) [.long x1] dX12_nameBehind_9 zm_X12_228 zM_X12_isWord (by decide) oM_0 rfl (w_X12_isWord l q2) rfl rfl (Nat.le_of_ble_eq_true rfl) ?_
    refine z_if_ne (pc := 12) (tgt := 17) dX12_nameBehind_12 (by decide) (fun c5 => ?_) (fun c5 => ?_)
    · have h := ze_some c5 h
      refine z_aload_n (pc := 17) (q := 0) dX12_nameBehind_17 rfl rfl ?_
      obtain ⟨T7, q6, h⟩ := zu_some h
      refine z_callVv (pc := 18) (st := []) [] dX12_nameBehind_18 zm_X12_235 zM_X12_token (by decide) oM_0 rfl (w_X12_token l q6) rfl rfl (Nat.le_of_ble_eq_true rfl) ?_
      refine z_aload_n (pc := 21) (q := 0) dX12_nameBehind_21 rfl rfl ?_
      refine z_iload_n (pc := 22) (q := 2) dX12_nameBehind_22 rfl rfl ?_
      refine z_iload (pc := 23) (q := 3) dX12_nameBehind_23 rfl ?_
      obtain ⟨r10, T9, q8, h⟩ := zb_some h
      refine z_callVi (pc := 25) (st := []) [.int x3, .int x4] dX12_nameBehind_25 zm_X12_251 zM_X12_oldName (by decide) oM_0 rfl (w_X12_oldName l q8) rfl rfl (Nat.le_of_ble_eq_true rfl) ?_
      refine z_istore (pc := 28) (lo' := [(5, .int r10), (0, .ref 0), (1, .long x1), (3, .int x3), (4, .int x4)]) dX12_nameBehind_28 (by decide) rfl ?_
      refine z_aload_n (pc := 30) (q := 1) dX12_nameBehind_30 rfl rfl ?_
      refine z_getI (pc := 31) dX12_nameBehind_31 zf_X12_173 gM_0_2 ?_
      refine z_if_ne (pc := 34) (tgt := 41) dX12_nameBehind_34 (by decide) (fun c11 => ?_) (fun c11 => ?_)
      · have h := ze_some c11 h
        refine z_iload (pc := 41) (q := 0) dX12_nameBehind_41 rfl ?_
        obtain ⟨rfl, rfl⟩ := zr_some h
        exact z_iret dX12_nameBehind_43
      · have h := zt_some c11 h
        refine z_aload_n (pc := 37) (q := 1) dX12_nameBehind_37 rfl rfl ?_
        obtain ⟨T13, q12, h⟩ := zu_some h
        refine z_callVv (pc := 38) (st := []) [] dX12_nameBehind_38 zm_X12_235 zM_X12_token (by decide) oM_0 rfl (w_X12_token l q12) rfl rfl (Nat.le_of_ble_eq_true rfl) ?_
        refine z_iload (pc := 41) (q := 0) dX12_nameBehind_41 rfl ?_
        obtain ⟨rfl, rfl⟩ := zr_some h
        exact z_iret dX12_nameBehind_43
    · have h := zt_some c5 h
      refine z_iconst (pc := 15) (v := (-1)) dX12_nameBehind_15 zci_m1 ?_
      obtain ⟨rfl, rfl⟩ := zr_some h
      exact z_iret dX12_nameBehind_16
def f_X12_add (x1 : Int32) (x2 : Int32) (S : zS) : Option zS :=
  if zin (S.1 0 17) 320 then
  zlet (zput S 3 (S.1 0 17).toNatClampNeg x1) fun T2 =>
  if zin (T2.1 0 17) 320 then
  zlet (zput T2 4 (T2.1 0 17).toNatClampNeg x2) fun T4 =>
  zlet (zput T4 0 17 ((T4.1 0 17) + 1)) fun T5 =>
  some T5 else none else none
set_option maxRecDepth 100000 in
theorem w_X12_add (l : Launch) {x1 : Int32} {x2 : Int32} {S : zS} {S1 : zS} (h : f_X12_add x1 x2 S = some S1) : zMet zLM l yX12_add cX12_add 3 none 1 [.ref 0, .int x1, .int x2] S none S1 := by
  unfold f_X12_add at h
  refine zMet.of (by decide +kernel) (Nat.le_of_ble_eq_true rfl) ?_
  show WA zLM l RX12 cX12_add 3 none 1 none S1 0 [(0, .ref 0), (1, .int x1), (2, .int x2)] [] S
  refine z_aload_n (pc := 0) (q := 0) dX12_add_0 rfl rfl ?_
  refine z_getR (pc := 1) dX12_add_1 zf_X12_21 gM_0_11 ?_
  refine z_aload_n (pc := 4) (q := 0) dX12_add_4 rfl rfl ?_
  refine z_getI (pc := 5) dX12_add_5 zf_X12_254 gM_0_17 ?_
  refine z_iload_n (pc := 8) (q := 1) dX12_add_8 rfl rfl ?_
  obtain ⟨c1, h⟩ := zg_some h
  obtain ⟨T2, eT2, h⟩ := zl_some h
  refine z_iast (pc := 9) dX12_add_9 aM_3 c1 eT2 ?_
  refine z_aload_n (pc := 10) (q := 0) dX12_add_10 rfl rfl ?_
  refine z_getR (pc := 11) dX12_add_11 zf_X12_24 gM_0_12 ?_
  refine z_aload_n (pc := 14) (q := 0) dX12_add_14 rfl rfl ?_
  refine z_getI (pc := 15) dX12_add_15 zf_X12_254 gM_0_17 ?_
  refine z_iload_n (pc := 18) (q := 2) dX12_add_18 rfl rfl ?_
  obtain ⟨c3, h⟩ := zg_some h
  obtain ⟨T4, eT4, h⟩ := zl_some h
  refine z_iast (pc := 19) dX12_add_19 aM_4 c3 eT4 ?_
  refine z_aload_n (pc := 20) (q := 0) dX12_add_20 rfl rfl ?_
  refine z_dup (pc := 21) dX12_add_21 rfl ?_
  refine z_getI (pc := 22) dX12_add_22 zf_X12_254 gM_0_17 ?_
  refine z_iconst (pc := 25) (v := 1) dX12_add_25 zci_1 ?_
  refine z_iadd (pc := 26) dX12_add_26 ?_
  obtain ⟨T5, eT5, h⟩ := zl_some h
  refine z_putI (pc := 27) dX12_add_27 zp_X12_254 gM_0_17 rfl rfl eT5 ?_
  cases h
  exact z_vret dX12_add_30
def f_X12_tight (x0 : Int32) (S : zS) : Option (Int32 × zS) :=
  if x0 = 21 then
    some (3, S)
  else
    if x0 = 38 then
      some (2, S)
    else
      if x0 = 43 then
        some (5, S)
      else
        if x0 = 45 then
          some (5, S)
        else
          if x0 = 60 then
            some (4, S)
          else
            if x0 = 61 then
              some (4, S)
            else
              if x0 = 62 then
                some (4, S)
              else
                if x0 = 124 then
                  some (1, S)
                else
                  some (6, S)
set_option maxRecDepth 100000 in
theorem w_X12_tight (l : Launch) {x0 : Int32} {S : zS} {r : Int32} {S1 : zS} (h : f_X12_tight x0 S = some (r, S1)) : zMet zLM l yX12_tight cX12_tight 1 (some .int) 1 [.int x0] S (some (.int r)) S1 := by
  unfold f_X12_tight at h
  refine zMet.of (by decide +kernel) (Nat.le_of_ble_eq_true rfl) ?_
  show WA zLM l RX12 cX12_tight 1 (some .int) 1 (some (.int r)) S1 0 [(0, .int x0)] [] S
  refine z_iload_n (pc := 0) (q := 0) dX12_tight_0 rfl rfl ?_
  refine z_lsw (pc := 1) 86 [(21, 80), (38, 78), (43, 84), (45, 84), (60, 82), (61, 82), (62, 82), (124, 76)] dX12_tight_1 (by decide) (by decide +kernel) (by decide +kernel) (by decide +kernel) ?_
  refine zsw_c (fun c1 => ?_) (fun c1 => ?_)
  · have h := zt_some c1 h
    refine z_iconst (pc := 80) (v := 3) dX12_tight_80 zci_3 ?_
    obtain ⟨rfl, rfl⟩ := zr_some h
    exact z_iret dX12_tight_81
  · have h := ze_some c1 h
    refine zsw_c (fun c2 => ?_) (fun c2 => ?_)
    · have h := zt_some c2 h
      refine z_iconst (pc := 78) (v := 2) dX12_tight_78 zci_2 ?_
      obtain ⟨rfl, rfl⟩ := zr_some h
      exact z_iret dX12_tight_79
    · have h := ze_some c2 h
      refine zsw_c (fun c3 => ?_) (fun c3 => ?_)
      · have h := zt_some c3 h
        refine z_iconst (pc := 84) (v := 5) dX12_tight_84 zci_5 ?_
        obtain ⟨rfl, rfl⟩ := zr_some h
        exact z_iret dX12_tight_85
      · have h := ze_some c3 h
        refine zsw_c (fun c4 => ?_) (fun c4 => ?_)
        · have h := zt_some c4 h
          refine z_iconst (pc := 84) (v := 5) dX12_tight_84 zci_5 ?_
          obtain ⟨rfl, rfl⟩ := zr_some h
          exact z_iret dX12_tight_85
        · have h := ze_some c4 h
          refine zsw_c (fun c5 => ?_) (fun c5 => ?_)
          · have h := zt_some c5 h
            refine z_iconst (pc := 82) (v := 4) dX12_tight_82 zci_4 ?_
            obtain ⟨rfl, rfl⟩ := zr_some h
            exact z_iret dX12_tight_83
          · have h := ze_some c5 h
            refine zsw_c (fun c6 => ?_) (fun c6 => ?_)
            · have h := zt_some c6 h
              refine z_iconst (pc := 82) (v := 4) dX12_tight_82 zci_4 ?_
              obtain ⟨rfl, rfl⟩ := zr_some h
              exact z_iret dX12_tight_83
            · have h := ze_some c6 h
              refine zsw_c (fun c7 => ?_) (fun c7 => ?_)
              · have h := zt_some c7 h
                refine z_iconst (pc := 82) (v := 4) dX12_tight_82 zci_4 ?_
                obtain ⟨rfl, rfl⟩ := zr_some h
                exact z_iret dX12_tight_83
              · have h := ze_some c7 h
                refine zsw_c (fun c8 => ?_) (fun c8 => ?_)
                · have h := zt_some c8 h
                  refine z_iconst (pc := 76) (v := 1) dX12_tight_76 zci_1 ?_
                  obtain ⟨rfl, rfl⟩ := zr_some h
                  exact z_iret dX12_tight_77
                · have h := ze_some c8 h
                  refine zsw_n ?_
                  refine z_bipush (pc := 86) (v := 6) dX12_tight_86 zcb_6 ?_
                  obtain ⟨rfl, rfl⟩ := zr_some h
                  exact z_iret dX12_tight_88
def f_X12_close_L0 : Nat → Int32 → zS → Option zS
  | 0, _, _ => none
  | n + 1, x1, S =>
    if (0 : Int32) < (S.1 0 19) then
      if zin ((S.1 0 19) - 1) 160 then
      if (S.1 7 ((S.1 0 19) - 1).toNatClampNeg) = 20 then
        some S
      else
        if zin ((S.1 0 19) - 1) 160 then
        zb (f_X12_tight (S.1 7 ((S.1 0 19) - 1).toNatClampNeg) S) fun r7 T6 =>
        if r7 < x1 then
          some T6
        else
          zlet (zput T6 0 19 ((T6.1 0 19) - 1)) fun T9 =>
          if zin (T9.1 0 19) 160 then
          if (T9.1 7 (T9.1 0 19).toNatClampNeg) = 21 then
            zu (f_X12_add 2 0 T9) fun T13 =>
            zlet (zput T13 0 23 ((T13.1 0 23) - 1)) fun T14 =>
            (f_X12_close_L0 n) x1 T14
          else
            if zin (T9.1 0 19) 160 then
            zu (f_X12_add 3 (T9.1 7 (T9.1 0 19).toNatClampNeg) T9) fun T14 =>
            (f_X12_close_L0 n) x1 T14 else none else none else none else none
    else
      some S
def f_X12_close (x1 : Int32) (S : zS) : Option zS :=
  f_X12_close_L0 zN x1 S
set_option maxRecDepth 100000 in
theorem w_X12_close_L0 (l : Launch) {S1 : zS} : ∀ (n : Nat) (x1 : Int32) (S : zS), f_X12_close_L0 n x1 S = some S1 → WA zLM l RX12 cX12_close 2 none 2 none S1 0 [(0, .ref 0), (1, .int x1)] [] S := by
  intro n
  induction n with
  | zero =>
    intro x1 S h
    exact nomatch h
  | succ n ih =>
    intro x1 S h
    rw [f_X12_close_L0] at h
    refine z_aload_n (pc := 0) (q := 0) dX12_close_0 rfl rfl ?_
    refine z_getI (pc := 1) dX12_close_1 zf_X12_257 gM_0_19 ?_
    refine z_if_le (pc := 4) (tgt := 101) dX12_close_4 (by decide) (fun c1 => ?_) (fun c1 => ?_)
    · have h := ze_some c1 h
      cases h
      exact z_vret dX12_close_101
    · have h := zt_some c1 h
      refine z_aload_n (pc := 7) (q := 0) dX12_close_7 rfl rfl ?_
      refine z_getR (pc := 8) dX12_close_8 zf_X12_33 gM_0_15 ?_
      refine z_aload_n (pc := 11) (q := 0) dX12_close_11 rfl rfl ?_
      refine z_getI (pc := 12) dX12_close_12 zf_X12_257 gM_0_19 ?_
      refine z_iconst (pc := 15) (v := 1) dX12_close_15 zci_1 ?_
      refine z_isub (pc := 16) dX12_close_16 ?_
      obtain ⟨c2, h⟩ := zg_some h
      refine z_iald (pc := 17) dX12_close_17 aM_7 c2 ?_
      refine z_bipush (pc := 18) (v := 20) dX12_close_18 zcb_20 ?_
      refine z_icmp_eq (pc := 20) (tgt := 101) dX12_close_20 (by decide) (fun c3 => ?_) (fun c3 => ?_)
      · have h := zt_some c3 h
        cases h
        exact z_vret dX12_close_101
      · have h := ze_some c3 h
        refine z_aload_n (pc := 23) (q := 0) dX12_close_23 rfl rfl ?_
        refine z_getR (pc := 24) dX12_close_24 zf_X12_33 gM_0_15 ?_
        refine z_aload_n (pc := 27) (q := 0) dX12_close_27 rfl rfl ?_
        refine z_getI (pc := 28) dX12_close_28 zf_X12_257 gM_0_19 ?_
        refine z_iconst (pc := 31) (v := 1) dX12_close_31 zci_1 ?_
        refine z_isub (pc := 32) dX12_close_32 ?_
        obtain ⟨c4, h⟩ := zg_some h
        refine z_iald (pc := 33) dX12_close_33 aM_7 c4 ?_
        obtain ⟨r7, T6, q5, h⟩ := zb_some h
        refine z_callSi (pc := 34) (st := []) [.int (S.1 7 ((S.1 0 19) - 1).toNatClampNeg)] dX12_close_34 zm_X12_260 zM_X12_tight (by decide) (w_X12_tight l q5) rfl rfl (Nat.le_of_ble_eq_true rfl) ?_
        refine z_iload_n (pc := 37) (q := 1) dX12_close_37 rfl rfl ?_
        refine z_icmp_lt (pc := 38) (tgt := 101) dX12_close_38 (by decide) (fun c8 => ?_) (fun c8 => ?_)
        · have h := zt_some c8 h
          cases h
          exact z_vret dX12_close_101
        · have h := ze_some c8 h
          refine z_aload_n (pc := 41) (q := 0) dX12_close_41 rfl rfl ?_
          refine z_dup (pc := 42) dX12_close_42 rfl ?_
          refine z_getI (pc := 43) dX12_close_43 zf_X12_257 gM_0_19 ?_
          refine z_iconst (pc := 46) (v := 1) dX12_close_46 zci_1 ?_
          refine z_isub (pc := 47) dX12_close_47 ?_
          obtain ⟨T9, eT9, h⟩ := zl_some h
          refine z_putI (pc := 48) dX12_close_48 zp_X12_257 gM_0_19 rfl rfl eT9 ?_
          refine z_aload_n (pc := 51) (q := 0) dX12_close_51 rfl rfl ?_
          refine z_getR (pc := 52) dX12_close_52 zf_X12_33 gM_0_15 ?_
          refine z_aload_n (pc := 55) (q := 0) dX12_close_55 rfl rfl ?_
          refine z_getI (pc := 56) dX12_close_56 zf_X12_257 gM_0_19 ?_
          obtain ⟨c10, h⟩ := zg_some h
          refine z_iald (pc := 59) dX12_close_59 aM_7 c10 ?_
          refine z_bipush (pc := 60) (v := 21) dX12_close_60 zcb_21 ?_
          refine z_icmp_ne (pc := 62) (tgt := 84) dX12_close_62 (by decide) (fun c11 => ?_) (fun c11 => ?_)
          · have h := ze_some c11 h
            refine z_aload_n (pc := 84) (q := 0) dX12_close_84 rfl rfl ?_
            refine z_iconst (pc := 85) (v := 3) dX12_close_85 zci_3 ?_
            refine z_aload_n (pc := 86) (q := 0) dX12_close_86 rfl rfl ?_
            refine z_getR (pc := 87) dX12_close_87 zf_X12_33 gM_0_15 ?_
            refine z_aload_n (pc := 90) (q := 0) dX12_close_90 rfl rfl ?_
            refine z_getI (pc := 91) dX12_close_91 zf_X12_257 gM_0_19 ?_
            obtain ⟨c12, h⟩ := zg_some h
            refine z_iald (pc := 94) dX12_close_94 aM_7 c12 ?_
            obtain ⟨T14, q13, h⟩ := zu_some h
            refine z_callVv (pc := 95) (st := []) [.int 3, .int (T9.1 7 (T9.1 0 19).toNatClampNeg)] dX12_close_95 zm_X12_263 zM_X12_add (by decide) oM_0 rfl (w_X12_add l q13) rfl rfl (Nat.le_of_ble_eq_true rfl) ?_
            refine z_goto (pc := 98) (tgt := 0) dX12_close_98 (by decide) ?_
            exact ih x1 T14 h
          · have h := zt_some c11 h
            refine z_aload_n (pc := 65) (q := 0) dX12_close_65 rfl rfl ?_
            refine z_iconst (pc := 66) (v := 2) dX12_close_66 zci_2 ?_
            refine z_iconst (pc := 67) (v := 0) dX12_close_67 zci_0 ?_
            obtain ⟨T13, q12, h⟩ := zu_some h
            refine z_callVv (pc := 68) (st := []) [.int 2, .int 0] dX12_close_68 zm_X12_263 zM_X12_add (by decide) oM_0 rfl (w_X12_add l q12) rfl rfl (Nat.le_of_ble_eq_true rfl) ?_
            refine z_aload_n (pc := 71) (q := 0) dX12_close_71 rfl rfl ?_
            refine z_dup (pc := 72) dX12_close_72 rfl ?_
            refine z_getI (pc := 73) dX12_close_73 zf_X12_267 gM_0_23 ?_
            refine z_iconst (pc := 76) (v := 1) dX12_close_76 zci_1 ?_
            refine z_isub (pc := 77) dX12_close_77 ?_
            obtain ⟨T14, eT14, h⟩ := zl_some h
            refine z_putI (pc := 78) dX12_close_78 zp_X12_267 gM_0_23 rfl rfl eT14 ?_
            refine z_goto (pc := 81) (tgt := 0) dX12_close_81 (by decide) ?_
            exact ih x1 T14 h
set_option maxRecDepth 100000 in
theorem w_X12_close (l : Launch) {x1 : Int32} {S : zS} {S1 : zS} (h : f_X12_close x1 S = some S1) : zMet zLM l yX12_close cX12_close 2 none 2 [.ref 0, .int x1] S none S1 := by
  unfold f_X12_close at h
  refine zMet.of (by decide +kernel) (Nat.le_of_ble_eq_true rfl) ?_
  show WA zLM l RX12 cX12_close 2 none 2 none S1 0 [(0, .ref 0), (1, .int x1)] [] S
  exact w_X12_close_L0 l zN x1 S h
def f_X12_hasRelation_B41 (x1 : Int32) (S : zS) : Option (Int32 × zS) :=
  if x1 < 0 then
    some (0, S)
  else
    if zin x1 160 then
    if (S.1 7 x1.toNatClampNeg) = 20 then
      some (0, S)
    else
      if zin x1 160 then
      zb (f_X12_tight (S.1 7 x1.toNatClampNeg) S) fun r7 T6 =>
      if r7 = 4 then
        some (1, T6)
      else
        some (0, T6) else none else none
def f_X12_hasRelation_L7 : Nat → Int32 → zS → Option (Int32 × zS)
  | 0, _, _ => none
  | n + 1, x1, S =>
    if x1 < 0 then
      f_X12_hasRelation_B41 x1 S
    else
      if zin x1 160 then
      if (S.1 7 x1.toNatClampNeg) = 20 then
        f_X12_hasRelation_B41 x1 S
      else
        if zin x1 160 then
        zb (f_X12_tight (S.1 7 x1.toNatClampNeg) S) fun r7 T6 =>
        if (4 : Int32) < r7 then
          zlet (x1 + (-1)) fun v9 =>
          (f_X12_hasRelation_L7 n) v9 T6
        else
          f_X12_hasRelation_B41 x1 T6 else none else none
def f_X12_hasRelation  (S : zS) : Option (Int32 × zS) :=
  zlet ((S.1 0 19) - 1) fun v1 =>
  f_X12_hasRelation_L7 zN v1 S
set_option maxRecDepth 100000 in
theorem w_X12_hasRelation_B41 (l : Launch) {r : Int32} {S1 : zS} (x1 : Int32) (S : zS) (h : f_X12_hasRelation_B41 x1 S = some (r, S1)) : WA zLM l RX12 cX12_hasRelation 2 (some .boolean) 2 (some (.int r)) S1 41 [(0, .ref 0), (1, .int x1)] [] S := by
  unfold f_X12_hasRelation_B41 at h
  refine z_iload_n (pc := 41) (q := 1) dX12_hasRelation_41 rfl rfl ?_
  refine z_if_lt (pc := 42) (tgt := 73) dX12_hasRelation_42 (by decide) (fun c1 => ?_) (fun c1 => ?_)
  · have h := zt_some c1 h
    refine z_iconst (pc := 73) (v := 0) dX12_hasRelation_73 zci_0 ?_
    obtain ⟨rfl, rfl⟩ := zr_some h
    exact z_zret dX12_hasRelation_74 rfl
  · have h := ze_some c1 h
    refine z_aload_n (pc := 45) (q := 0) dX12_hasRelation_45 rfl rfl ?_
    refine z_getR (pc := 46) dX12_hasRelation_46 zf_X12_33 gM_0_15 ?_
    refine z_iload_n (pc := 49) (q := 1) dX12_hasRelation_49 rfl rfl ?_
    obtain ⟨c2, h⟩ := zg_some h
    refine z_iald (pc := 50) dX12_hasRelation_50 aM_7 c2 ?_
    refine z_bipush (pc := 51) (v := 20) dX12_hasRelation_51 zcb_20 ?_
    refine z_icmp_eq (pc := 53) (tgt := 73) dX12_hasRelation_53 (by decide) (fun c3 => ?_) (fun c3 => ?_)
    · have h := zt_some c3 h
      refine z_iconst (pc := 73) (v := 0) dX12_hasRelation_73 zci_0 ?_
      obtain ⟨rfl, rfl⟩ := zr_some h
      exact z_zret dX12_hasRelation_74 rfl
    · have h := ze_some c3 h
      refine z_aload_n (pc := 56) (q := 0) dX12_hasRelation_56 rfl rfl ?_
      refine z_getR (pc := 57) dX12_hasRelation_57 zf_X12_33 gM_0_15 ?_
      refine z_iload_n (pc := 60) (q := 1) dX12_hasRelation_60 rfl rfl ?_
      obtain ⟨c4, h⟩ := zg_some h
      refine z_iald (pc := 61) dX12_hasRelation_61 aM_7 c4 ?_
      obtain ⟨r7, T6, q5, h⟩ := zb_some h
      refine z_callSi (pc := 62) (st := []) [.int (S.1 7 x1.toNatClampNeg)] dX12_hasRelation_62 zm_X12_260 zM_X12_tight (by decide) (w_X12_tight l q5) rfl rfl (Nat.le_of_ble_eq_true rfl) ?_
      refine z_iconst (pc := 65) (v := 4) dX12_hasRelation_65 zci_4 ?_
      refine z_icmp_ne (pc := 66) (tgt := 73) dX12_hasRelation_66 (by decide) (fun c8 => ?_) (fun c8 => ?_)
      · have h := ze_some c8 h
        refine z_iconst (pc := 73) (v := 0) dX12_hasRelation_73 zci_0 ?_
        obtain ⟨rfl, rfl⟩ := zr_some h
        exact z_zret dX12_hasRelation_74 rfl
      · have h := zt_some c8 h
        refine z_iconst (pc := 69) (v := 1) dX12_hasRelation_69 zci_1 ?_
        refine z_goto (pc := 70) (tgt := 74) dX12_hasRelation_70 (by decide) ?_
        obtain ⟨rfl, rfl⟩ := zr_some h
        exact z_zret dX12_hasRelation_74 rfl
set_option maxRecDepth 100000 in
theorem w_X12_hasRelation_L7 (l : Launch) {r : Int32} {S1 : zS} : ∀ (n : Nat) (x1 : Int32) (S : zS), f_X12_hasRelation_L7 n x1 S = some (r, S1) → WA zLM l RX12 cX12_hasRelation 2 (some .boolean) 2 (some (.int r)) S1 7 [(0, .ref 0), (1, .int x1)] [] S := by
  intro n
  induction n with
  | zero =>
    intro x1 S h
    exact nomatch h
  | succ n ih =>
    intro x1 S h
    rw [f_X12_hasRelation_L7] at h
    refine z_iload_n (pc := 7) (q := 1) dX12_hasRelation_7 rfl rfl ?_
    refine z_if_lt (pc := 8) (tgt := 41) dX12_hasRelation_8 (by decide) (fun c1 => ?_) (fun c1 => ?_)
    · have h := zt_some c1 h
      exact w_X12_hasRelation_B41 l x1 S h
    · have h := ze_some c1 h
      refine z_aload_n (pc := 11) (q := 0) dX12_hasRelation_11 rfl rfl ?_
      refine z_getR (pc := 12) dX12_hasRelation_12 zf_X12_33 gM_0_15 ?_
      refine z_iload_n (pc := 15) (q := 1) dX12_hasRelation_15 rfl rfl ?_
      obtain ⟨c2, h⟩ := zg_some h
      refine z_iald (pc := 16) dX12_hasRelation_16 aM_7 c2 ?_
      refine z_bipush (pc := 17) (v := 20) dX12_hasRelation_17 zcb_20 ?_
      refine z_icmp_eq (pc := 19) (tgt := 41) dX12_hasRelation_19 (by decide) (fun c3 => ?_) (fun c3 => ?_)
      · have h := zt_some c3 h
        exact w_X12_hasRelation_B41 l x1 S h
      · have h := ze_some c3 h
        refine z_aload_n (pc := 22) (q := 0) dX12_hasRelation_22 rfl rfl ?_
        refine z_getR (pc := 23) dX12_hasRelation_23 zf_X12_33 gM_0_15 ?_
        refine z_iload_n (pc := 26) (q := 1) dX12_hasRelation_26 rfl rfl ?_
        obtain ⟨c4, h⟩ := zg_some h
        refine z_iald (pc := 27) dX12_hasRelation_27 aM_7 c4 ?_
        obtain ⟨r7, T6, q5, h⟩ := zb_some h
        refine z_callSi (pc := 28) (st := []) [.int (S.1 7 x1.toNatClampNeg)] dX12_hasRelation_28 zm_X12_260 zM_X12_tight (by decide) (w_X12_tight l q5) rfl rfl (Nat.le_of_ble_eq_true rfl) ?_
        refine z_iconst (pc := 31) (v := 4) dX12_hasRelation_31 zci_4 ?_
        refine z_icmp_le (pc := 32) (tgt := 41) dX12_hasRelation_32 (by decide) (fun c8 => ?_) (fun c8 => ?_)
        · have h := ze_some c8 h
          exact w_X12_hasRelation_B41 l x1 T6 h
        · have h := zt_some c8 h
          obtain ⟨v9, ev9, h⟩ := zl_some h
          refine z_iinc (pc := 35) (q := 1) (v := v9) (lo' := [(1, .int v9), (0, .ref 0)]) dX12_hasRelation_35 rfl (by rw [ev9, zci_m1]) (by decide) rfl ?_
          refine z_goto (pc := 38) (tgt := 7) dX12_hasRelation_38 (by decide) ?_
          exact z_sub [1, 0] rfl (ih v9 T6 h)
set_option maxRecDepth 100000 in
theorem w_X12_hasRelation (l : Launch)  {S : zS} {r : Int32} {S1 : zS} (h : f_X12_hasRelation S = some (r, S1)) : zMet zLM l yX12_hasRelation cX12_hasRelation 2 (some .boolean) 2 [.ref 0] S (some (.int r)) S1 := by
  unfold f_X12_hasRelation at h
  refine zMet.of (by decide +kernel) (Nat.le_of_ble_eq_true rfl) ?_
  show WA zLM l RX12 cX12_hasRelation 2 (some .boolean) 2 (some (.int r)) S1 0 [(0, .ref 0)] [] S
  refine z_aload_n (pc := 0) (q := 0) dX12_hasRelation_0 rfl rfl ?_
  refine z_getI (pc := 1) dX12_hasRelation_1 zf_X12_257 gM_0_19 ?_
  refine z_iconst (pc := 4) (v := 1) dX12_hasRelation_4 zci_1 ?_
  refine z_isub (pc := 5) dX12_hasRelation_5 ?_
  obtain ⟨v1, ev1, h⟩ := zl_some h
  refine z_top ev1 ?_
  refine z_istore_n (pc := 6) (lo' := [(1, .int v1), (0, .ref 0)]) dX12_hasRelation_6 rfl (by decide) rfl ?_
  exact z_sub [1, 0] rfl (w_X12_hasRelation_L7 l zN v1 S h)
def f_X12_mayNot  (S : zS) : Option (Int32 × zS) :=
  if (S.1 0 19) = 0 then
    some (1, S)
  else
    if zin ((S.1 0 19) - 1) 160 then
    if (S.1 7 ((S.1 0 19) - 1).toNatClampNeg) = 20 then
      some (1, S)
    else
      if zin ((S.1 0 19) - 1) 160 then
      zb (f_X12_tight (S.1 7 ((S.1 0 19) - 1).toNatClampNeg) S) fun r7 T6 =>
      if r7 < 4 then
        some (1, T6)
      else
        some (0, T6) else none else none
set_option maxRecDepth 100000 in
theorem w_X12_mayNot (l : Launch)  {S : zS} {r : Int32} {S1 : zS} (h : f_X12_mayNot S = some (r, S1)) : zMet zLM l yX12_mayNot cX12_mayNot 1 (some .boolean) 2 [.ref 0] S (some (.int r)) S1 := by
  unfold f_X12_mayNot at h
  refine zMet.of (by decide +kernel) (Nat.le_of_ble_eq_true rfl) ?_
  show WA zLM l RX12 cX12_mayNot 1 (some .boolean) 2 (some (.int r)) S1 0 [(0, .ref 0)] [] S
  refine z_aload_n (pc := 0) (q := 0) dX12_mayNot_0 rfl rfl ?_
  refine z_getI (pc := 1) dX12_mayNot_1 zf_X12_257 gM_0_19 ?_
  refine z_if_eq (pc := 4) (tgt := 41) dX12_mayNot_4 (by decide) (fun c1 => ?_) (fun c1 => ?_)
  · have h := zt_some c1 h
    refine z_iconst (pc := 41) (v := 1) dX12_mayNot_41 zci_1 ?_
    refine z_goto (pc := 42) (tgt := 46) dX12_mayNot_42 (by decide) ?_
    obtain ⟨rfl, rfl⟩ := zr_some h
    exact z_zret dX12_mayNot_46 rfl
  · have h := ze_some c1 h
    refine z_aload_n (pc := 7) (q := 0) dX12_mayNot_7 rfl rfl ?_
    refine z_getR (pc := 8) dX12_mayNot_8 zf_X12_33 gM_0_15 ?_
    refine z_aload_n (pc := 11) (q := 0) dX12_mayNot_11 rfl rfl ?_
    refine z_getI (pc := 12) dX12_mayNot_12 zf_X12_257 gM_0_19 ?_
    refine z_iconst (pc := 15) (v := 1) dX12_mayNot_15 zci_1 ?_
    refine z_isub (pc := 16) dX12_mayNot_16 ?_
    obtain ⟨c2, h⟩ := zg_some h
    refine z_iald (pc := 17) dX12_mayNot_17 aM_7 c2 ?_
    refine z_bipush (pc := 18) (v := 20) dX12_mayNot_18 zcb_20 ?_
    refine z_icmp_eq (pc := 20) (tgt := 41) dX12_mayNot_20 (by decide) (fun c3 => ?_) (fun c3 => ?_)
    · have h := zt_some c3 h
      refine z_iconst (pc := 41) (v := 1) dX12_mayNot_41 zci_1 ?_
      refine z_goto (pc := 42) (tgt := 46) dX12_mayNot_42 (by decide) ?_
      obtain ⟨rfl, rfl⟩ := zr_some h
      exact z_zret dX12_mayNot_46 rfl
    · have h := ze_some c3 h
      refine z_aload_n (pc := 23) (q := 0) dX12_mayNot_23 rfl rfl ?_
      refine z_getR (pc := 24) dX12_mayNot_24 zf_X12_33 gM_0_15 ?_
      refine z_aload_n (pc := 27) (q := 0) dX12_mayNot_27 rfl rfl ?_
      refine z_getI (pc := 28) dX12_mayNot_28 zf_X12_257 gM_0_19 ?_
      refine z_iconst (pc := 31) (v := 1) dX12_mayNot_31 zci_1 ?_
      refine z_isub (pc := 32) dX12_mayNot_32 ?_
      obtain ⟨c4, h⟩ := zg_some h
      refine z_iald (pc := 33) dX12_mayNot_33 aM_7 c4 ?_
      obtain ⟨r7, T6, q5, h⟩ := zb_some h
      refine z_callSi (pc := 34) (st := []) [.int (S.1 7 ((S.1 0 19) - 1).toNatClampNeg)] dX12_mayNot_34 zm_X12_260 zM_X12_tight (by decide) (w_X12_tight l q5) rfl rfl (Nat.le_of_ble_eq_true rfl) ?_
      refine z_iconst (pc := 37) (v := 4) dX12_mayNot_37 zci_4 ?_
      refine z_icmp_ge (pc := 38) (tgt := 45) dX12_mayNot_38 (by decide) (fun c8 => ?_) (fun c8 => ?_)
      · have h := ze_some c8 h
        refine z_iconst (pc := 45) (v := 0) dX12_mayNot_45 zci_0 ?_
        obtain ⟨rfl, rfl⟩ := zr_some h
        exact z_zret dX12_mayNot_46 rfl
      · have h := zt_some c8 h
        refine z_iconst (pc := 41) (v := 1) dX12_mayNot_41 zci_1 ?_
        refine z_goto (pc := 42) (tgt := 46) dX12_mayNot_42 (by decide) ?_
        obtain ⟨rfl, rfl⟩ := zr_some h
        exact z_zret dX12_mayNot_46 rfl
def f_X12_asked  (S : zS) : Option (Int32 × zS) :=
  if (S.1 0 6) = 1 then
    if (lg_cmp (S.2 0 9) 1818846821) = 0 then
      some (0, S)
    else
      if (lg_cmp (S.2 0 9) 6383461) = 0 then
        some (1, S)
      else
        if (lg_cmp (S.2 0 9) 495873780581) = 0 then
          some (2, S)
        else
          if (lg_cmp (S.2 0 9) 1852137842) = 0 then
            some (3, S)
          else
            if (lg_cmp (S.2 0 9) 2036687218) = 0 then
              some (4, S)
            else
              some ((-1), S)
  else
    some ((-1), S)
set_option maxRecDepth 100000 in
theorem w_X12_asked (l : Launch)  {S : zS} {r : Int32} {S1 : zS} (h : f_X12_asked S = some (r, S1)) : zMet zLM l yX12_asked cX12_asked 1 (some .int) 1 [.ref 0] S (some (.int r)) S1 := by
  unfold f_X12_asked at h
  refine zMet.of (by decide +kernel) (Nat.le_of_ble_eq_true rfl) ?_
  show WA zLM l RX12 cX12_asked 1 (some .int) 1 (some (.int r)) S1 0 [(0, .ref 0)] [] S
  refine z_aload_n (pc := 0) (q := 0) dX12_asked_0 rfl rfl ?_
  refine z_getI (pc := 1) dX12_asked_1 zf_X12_160 gM_0_6 ?_
  refine z_iconst (pc := 4) (v := 1) dX12_asked_4 zci_1 ?_
  refine z_icmp_eq (pc := 5) (tgt := 10) dX12_asked_5 (by decide) (fun c1 => ?_) (fun c1 => ?_)
  · have h := zt_some c1 h
    refine z_aload_n (pc := 10) (q := 0) dX12_asked_10 rfl rfl ?_
    refine z_getJ (pc := 11) dX12_asked_11 zf_X12_153 gM_0_9 ?_
    refine z_ldc2 (pc := 14) dX12_asked_14 zk_X12_180 ?_
    refine z_lcmp (pc := 17) dX12_asked_17 ?_
    refine z_if_ne (pc := 18) (tgt := 23) dX12_asked_18 (by decide) (fun c2 => ?_) (fun c2 => ?_)
    · have h := ze_some c2 h
      refine z_aload_n (pc := 23) (q := 0) dX12_asked_23 rfl rfl ?_
      refine z_getJ (pc := 24) dX12_asked_24 zf_X12_153 gM_0_9 ?_
      refine z_ldc2 (pc := 27) dX12_asked_27 zk_X12_210 ?_
      refine z_lcmp (pc := 30) dX12_asked_30 ?_
      refine z_if_ne (pc := 31) (tgt := 36) dX12_asked_31 (by decide) (fun c3 => ?_) (fun c3 => ?_)
      · have h := ze_some c3 h
        refine z_aload_n (pc := 36) (q := 0) dX12_asked_36 rfl rfl ?_
        refine z_getJ (pc := 37) dX12_asked_37 zf_X12_153 gM_0_9 ?_
        refine z_ldc2 (pc := 40) dX12_asked_40 zk_X12_212 ?_
        refine z_lcmp (pc := 43) dX12_asked_43 ?_
        refine z_if_ne (pc := 44) (tgt := 49) dX12_asked_44 (by decide) (fun c4 => ?_) (fun c4 => ?_)
        · have h := ze_some c4 h
          refine z_aload_n (pc := 49) (q := 0) dX12_asked_49 rfl rfl ?_
          refine z_getJ (pc := 50) dX12_asked_50 zf_X12_153 gM_0_9 ?_
          refine z_ldc2 (pc := 53) dX12_asked_53 zk_X12_214 ?_
          refine z_lcmp (pc := 56) dX12_asked_56 ?_
          refine z_if_ne (pc := 57) (tgt := 62) dX12_asked_57 (by decide) (fun c5 => ?_) (fun c5 => ?_)
          · have h := ze_some c5 h
            refine z_aload_n (pc := 62) (q := 0) dX12_asked_62 rfl rfl ?_
            refine z_getJ (pc := 63) dX12_asked_63 zf_X12_153 gM_0_9 ?_
            refine z_ldc2 (pc := 66) dX12_asked_66 zk_X12_216 ?_
            refine z_lcmp (pc := 69) dX12_asked_69 ?_
            refine z_if_ne (pc := 70) (tgt := 77) dX12_asked_70 (by decide) (fun c6 => ?_) (fun c6 => ?_)
            · have h := ze_some c6 h
              refine z_iconst (pc := 77) (v := (-1)) dX12_asked_77 zci_m1 ?_
              obtain ⟨rfl, rfl⟩ := zr_some h
              exact z_iret dX12_asked_78
            · have h := zt_some c6 h
              refine z_iconst (pc := 73) (v := 4) dX12_asked_73 zci_4 ?_
              refine z_goto (pc := 74) (tgt := 78) dX12_asked_74 (by decide) ?_
              obtain ⟨rfl, rfl⟩ := zr_some h
              exact z_iret dX12_asked_78
          · have h := zt_some c5 h
            refine z_iconst (pc := 60) (v := 3) dX12_asked_60 zci_3 ?_
            obtain ⟨rfl, rfl⟩ := zr_some h
            exact z_iret dX12_asked_61
        · have h := zt_some c4 h
          refine z_iconst (pc := 47) (v := 2) dX12_asked_47 zci_2 ?_
          obtain ⟨rfl, rfl⟩ := zr_some h
          exact z_iret dX12_asked_48
      · have h := zt_some c3 h
        refine z_iconst (pc := 34) (v := 1) dX12_asked_34 zci_1 ?_
        obtain ⟨rfl, rfl⟩ := zr_some h
        exact z_iret dX12_asked_35
    · have h := zt_some c2 h
      refine z_iconst (pc := 21) (v := 0) dX12_asked_21 zci_0 ?_
      obtain ⟨rfl, rfl⟩ := zr_some h
      exact z_iret dX12_asked_22
  · have h := ze_some c1 h
    refine z_iconst (pc := 8) (v := (-1)) dX12_asked_8 zci_m1 ?_
    obtain ⟨rfl, rfl⟩ := zr_some h
    exact z_iret dX12_asked_9
def f_X12_isFull  (S : zS) : Option (Int32 × zS) :=
  if (S.1 0 20) = 60 then
    some (1, S)
  else
    if (S.1 0 22) = 30 then
      some (1, S)
    else
      some (0, S)
set_option maxRecDepth 100000 in
theorem w_X12_isFull (l : Launch)  {S : zS} {r : Int32} {S1 : zS} (h : f_X12_isFull S = some (r, S1)) : zMet zLM l yX12_isFull cX12_isFull 1 (some .boolean) 1 [.ref 0] S (some (.int r)) S1 := by
  unfold f_X12_isFull at h
  refine zMet.of (by decide +kernel) (Nat.le_of_ble_eq_true rfl) ?_
  show WA zLM l RX12 cX12_isFull 1 (some .boolean) 1 (some (.int r)) S1 0 [(0, .ref 0)] [] S
  refine z_aload_n (pc := 0) (q := 0) dX12_isFull_0 rfl rfl ?_
  refine z_getI (pc := 1) dX12_isFull_1 zf_X12_270 gM_0_20 ?_
  refine z_bipush (pc := 4) (v := 60) dX12_isFull_4 zcb_60 ?_
  refine z_icmp_eq (pc := 6) (tgt := 18) dX12_isFull_6 (by decide) (fun c1 => ?_) (fun c1 => ?_)
  · have h := zt_some c1 h
    refine z_iconst (pc := 18) (v := 1) dX12_isFull_18 zci_1 ?_
    refine z_goto (pc := 19) (tgt := 23) dX12_isFull_19 (by decide) ?_
    obtain ⟨rfl, rfl⟩ := zr_some h
    exact z_zret dX12_isFull_23 rfl
  · have h := ze_some c1 h
    refine z_aload_n (pc := 9) (q := 0) dX12_isFull_9 rfl rfl ?_
    refine z_getI (pc := 10) dX12_isFull_10 zf_X12_273 gM_0_22 ?_
    refine z_bipush (pc := 13) (v := 30) dX12_isFull_13 zcb_30 ?_
    refine z_icmp_ne (pc := 15) (tgt := 22) dX12_isFull_15 (by decide) (fun c2 => ?_) (fun c2 => ?_)
    · have h := ze_some c2 h
      refine z_iconst (pc := 22) (v := 0) dX12_isFull_22 zci_0 ?_
      obtain ⟨rfl, rfl⟩ := zr_some h
      exact z_zret dX12_isFull_23 rfl
    · have h := zt_some c2 h
      refine z_iconst (pc := 18) (v := 1) dX12_isFull_18 zci_1 ?_
      refine z_goto (pc := 19) (tgt := 23) dX12_isFull_19 (by decide) ?_
      obtain ⟨rfl, rfl⟩ := zr_some h
      exact z_zret dX12_isFull_23 rfl
def f_X12_countUnit  (S : zS) : Option zS :=
  zlet (zput S 0 20 ((S.1 0 20) + 1)) fun T1 =>
  zlet (zput T1 0 22 ((T1.1 0 22) + 1)) fun T2 =>
  some T2
set_option maxRecDepth 100000 in
theorem w_X12_countUnit (l : Launch)  {S : zS} {S1 : zS} (h : f_X12_countUnit S = some S1) : zMet zLM l yX12_countUnit cX12_countUnit 1 none 1 [.ref 0] S none S1 := by
  unfold f_X12_countUnit at h
  refine zMet.of (by decide +kernel) (Nat.le_of_ble_eq_true rfl) ?_
  show WA zLM l RX12 cX12_countUnit 1 none 1 none S1 0 [(0, .ref 0)] [] S
  refine z_aload_n (pc := 0) (q := 0) dX12_countUnit_0 rfl rfl ?_
  refine z_dup (pc := 1) dX12_countUnit_1 rfl ?_
  refine z_getI (pc := 2) dX12_countUnit_2 zf_X12_270 gM_0_20 ?_
  refine z_iconst (pc := 5) (v := 1) dX12_countUnit_5 zci_1 ?_
  refine z_iadd (pc := 6) dX12_countUnit_6 ?_
  obtain ⟨T1, eT1, h⟩ := zl_some h
  refine z_putI (pc := 7) dX12_countUnit_7 zp_X12_270 gM_0_20 rfl rfl eT1 ?_
  refine z_aload_n (pc := 10) (q := 0) dX12_countUnit_10 rfl rfl ?_
  refine z_dup (pc := 11) dX12_countUnit_11 rfl ?_
  refine z_getI (pc := 12) dX12_countUnit_12 zf_X12_273 gM_0_22 ?_
  refine z_iconst (pc := 15) (v := 1) dX12_countUnit_15 zci_1 ?_
  refine z_iadd (pc := 16) dX12_countUnit_16 ?_
  obtain ⟨T2, eT2, h⟩ := zl_some h
  refine z_putI (pc := 17) dX12_countUnit_17 zp_X12_273 gM_0_22 rfl rfl eT2 ?_
  cases h
  exact z_vret dX12_countUnit_20
def f_X12_openUp (x1 : Int32) (S : zS) : Option zS :=
  if zin (S.1 0 19) 160 then
  zlet (zput S 7 (S.1 0 19).toNatClampNeg x1) fun T2 =>
  zlet (zput T2 0 19 ((T2.1 0 19) + 1)) fun T3 =>
  zlet (zput T3 0 23 ((T3.1 0 23) + 1)) fun T4 =>
  if (T4.1 0 2) = 0 then
    zu (f_X12_token T4) fun T7 =>
    some T7
  else
    some T4 else none
set_option maxRecDepth 100000 in
theorem w_X12_openUp (l : Launch) {x1 : Int32} {S : zS} {S1 : zS} (h : f_X12_openUp x1 S = some S1) : zMet zLM l yX12_openUp cX12_openUp 2 none 3 [.ref 0, .int x1] S none S1 := by
  unfold f_X12_openUp at h
  refine zMet.of (by decide +kernel) (Nat.le_of_ble_eq_true rfl) ?_
  show WA zLM l RX12 cX12_openUp 2 none 3 none S1 0 [(0, .ref 0), (1, .int x1)] [] S
  refine z_aload_n (pc := 0) (q := 0) dX12_openUp_0 rfl rfl ?_
  refine z_getR (pc := 1) dX12_openUp_1 zf_X12_33 gM_0_15 ?_
  refine z_aload_n (pc := 4) (q := 0) dX12_openUp_4 rfl rfl ?_
  refine z_getI (pc := 5) dX12_openUp_5 zf_X12_257 gM_0_19 ?_
  refine z_iload_n (pc := 8) (q := 1) dX12_openUp_8 rfl rfl ?_
  obtain ⟨c1, h⟩ := zg_some h
  obtain ⟨T2, eT2, h⟩ := zl_some h
  refine z_iast (pc := 9) dX12_openUp_9 aM_7 c1 eT2 ?_
  refine z_aload_n (pc := 10) (q := 0) dX12_openUp_10 rfl rfl ?_
  refine z_dup (pc := 11) dX12_openUp_11 rfl ?_
  refine z_getI (pc := 12) dX12_openUp_12 zf_X12_257 gM_0_19 ?_
  refine z_iconst (pc := 15) (v := 1) dX12_openUp_15 zci_1 ?_
  refine z_iadd (pc := 16) dX12_openUp_16 ?_
  obtain ⟨T3, eT3, h⟩ := zl_some h
  refine z_putI (pc := 17) dX12_openUp_17 zp_X12_257 gM_0_19 rfl rfl eT3 ?_
  refine z_aload_n (pc := 20) (q := 0) dX12_openUp_20 rfl rfl ?_
  refine z_dup (pc := 21) dX12_openUp_21 rfl ?_
  refine z_getI (pc := 22) dX12_openUp_22 zf_X12_267 gM_0_23 ?_
  refine z_iconst (pc := 25) (v := 1) dX12_openUp_25 zci_1 ?_
  refine z_iadd (pc := 26) dX12_openUp_26 ?_
  obtain ⟨T4, eT4, h⟩ := zl_some h
  refine z_putI (pc := 27) dX12_openUp_27 zp_X12_267 gM_0_23 rfl rfl eT4 ?_
  refine z_aload_n (pc := 30) (q := 0) dX12_openUp_30 rfl rfl ?_
  refine z_getI (pc := 31) dX12_openUp_31 zf_X12_173 gM_0_2 ?_
  refine z_if_ne (pc := 34) (tgt := 41) dX12_openUp_34 (by decide) (fun c5 => ?_) (fun c5 => ?_)
  · have h := ze_some c5 h
    cases h
    exact z_vret dX12_openUp_41
  · have h := zt_some c5 h
    refine z_aload_n (pc := 37) (q := 0) dX12_openUp_37 rfl rfl ?_
    obtain ⟨T7, q6, h⟩ := zu_some h
    refine z_callVv (pc := 38) (st := []) [] dX12_openUp_38 zm_X12_235 zM_X12_token (by decide) oM_0 rfl (w_X12_token l q6) rfl rfl (Nat.le_of_ble_eq_true rfl) ?_
    cases h
    exact z_vret dX12_openUp_41
def f_X12_unit_B172 (s0 : Int32) (s1 : Int32) (S : zS) : Option zS :=
  zu (f_X12_add s1 s0 S) fun T2 =>
  zu (f_X12_token T2) fun T4 =>
  some T4
def f_X12_unit_B160 (x2 : Int32) (s0 : Int32) (S : zS) : Option zS :=
  if x2 < 0 then
    f_X12_unit_B172 (S.1 0 8) s0 S
  else
    f_X12_unit_B172 x2 s0 S
def f_X12_unit_B138 (x2 : Int32) (S : zS) : Option zS :=
  if (0 : Int32) < (S.1 0 2) then
    some S
  else
    zu (f_X12_countUnit S) fun T3 =>
    if x2 < 0 then
      f_X12_unit_B160 x2 0 T3
    else
      f_X12_unit_B160 x2 1 T3
def f_X12_unit_B133 (x2 : Int32) (S : zS) : Option zS :=
  zu (f_X12_wrong 2 S) fun T2 =>
  f_X12_unit_B138 x2 T2
def f_X12_unit_B126 (x2 : Int32) (S : zS) : Option zS :=
  zb (f_X12_isFull S) fun r3 T2 =>
  if r3 = 0 then
    f_X12_unit_B138 x2 T2
  else
    f_X12_unit_B133 x2 T2
def f_X12_unit_B101  (S : zS) : Option zS :=
  if (0 : Int32) < (S.1 0 2) then
    some S
  else
    zb (f_X12_asked S) fun r4 T3 =>
    if (T3.1 0 6) = 2 then
      f_X12_unit_B126 r4 T3
    else
      if r4 < 0 then
        f_X12_unit_B133 r4 T3
      else
        f_X12_unit_B126 r4 T3
def f_X12_unit_B83 (K2 : Int32 → zS → Option zS) (x1 : Int32) (S : zS) : Option zS :=
  zu (f_X12_countUnit S) fun T2 =>
  zu (f_X12_openUp 20 T2) fun T4 =>
  K2 x1 T4
def f_X12_unit_B78 (K2 : Int32 → zS → Option zS) (x1 : Int32) (S : zS) : Option zS :=
  zu (f_X12_wrong 2 S) fun T2 =>
  f_X12_unit_B83 K2 x1 T2
def f_X12_unit_B53 (K2 : Int32 → zS → Option zS) (x1 : Int32) (S : zS) : Option zS :=
  if (S.1 0 6) = 40 then
    zb (f_X12_isFull S) fun r4 T3 =>
    if r4 = 0 then
      if (6 : Int32) < (T3.1 0 23) then
        f_X12_unit_B78 K2 x1 T3
      else
        f_X12_unit_B83 K2 x1 T3
    else
      f_X12_unit_B78 K2 x1 T3
  else
    K2 0 S
def f_X12_unit_B44 (K2 : Int32 → zS → Option zS) (x1 : Int32) (S : zS) : Option zS :=
  zu (f_X12_openUp 21 S) fun T2 =>
  K2 x1 T2
def f_X12_unit_L2 : Nat → Int32 → zS → Option zS
  | 0, _, _ => none
  | n + 1, x1, S =>
    if x1 = 0 then
      f_X12_unit_B101 S
    else
      if (S.1 0 2) = 0 then
        zb (f_X12_isWord 7237492 S) fun r5 T4 =>
        if r5 = 0 then
          f_X12_unit_B53 (f_X12_unit_L2 n) x1 T4
        else
          zb (f_X12_mayNot T4) fun r9 T8 =>
          if r9 = 0 then
            f_X12_unit_B53 (f_X12_unit_L2 n) x1 T8
          else
            if (6 : Int32) < (T8.1 0 23) then
              zu (f_X12_wrong 2 T8) fun T13 =>
              f_X12_unit_B44 (f_X12_unit_L2 n) x1 T13
            else
              f_X12_unit_B44 (f_X12_unit_L2 n) x1 T8
      else
        f_X12_unit_B101 S
def f_X12_unit  (S : zS) : Option zS :=
  f_X12_unit_L2 zN 1 S
set_option maxRecDepth 100000 in
theorem w_X12_unit_B172 (l : Launch) {S1 : zS} (s0 : Int32) (s1 : Int32) (S : zS) (h : f_X12_unit_B172 s0 s1 S = some S1) : WA zLM l RX12 cX12_unit 3 none 4 none S1 172 [(0, .ref 0)] [.int s0, .int s1, .ref 0] S := by
  unfold f_X12_unit_B172 at h
  obtain ⟨T2, q1, h⟩ := zu_some h
  refine z_callVv (pc := 172) (st := []) [.int s1, .int s0] dX12_unit_172 zm_X12_263 zM_X12_add (by decide) oM_0 rfl (w_X12_add l q1) rfl rfl (Nat.le_of_ble_eq_true rfl) ?_
  refine z_aload_n (pc := 175) (q := 0) dX12_unit_175 rfl rfl ?_
  obtain ⟨T4, q3, h⟩ := zu_some h
  refine z_callVv (pc := 176) (st := []) [] dX12_unit_176 zm_X12_235 zM_X12_token (by decide) oM_0 rfl (w_X12_token l q3) rfl rfl (Nat.le_of_ble_eq_true rfl) ?_
  cases h
  exact z_vret dX12_unit_179
set_option maxRecDepth 100000 in
theorem w_X12_unit_B160 (l : Launch) {S1 : zS} (x2 : Int32) (s0 : Int32) (S : zS) (h : f_X12_unit_B160 x2 s0 S = some S1) : WA zLM l RX12 cX12_unit 3 none 4 none S1 160 [(0, .ref 0), (2, .int x2)] [.int s0, .ref 0] S := by
  unfold f_X12_unit_B160 at h
  refine z_iload_n (pc := 160) (q := 1) dX12_unit_160 rfl rfl ?_
  refine z_if_ge (pc := 161) (tgt := 171) dX12_unit_161 (by decide) (fun c1 => ?_) (fun c1 => ?_)
  · have h := ze_some c1 h
    refine z_iload_n (pc := 171) (q := 1) dX12_unit_171 rfl rfl ?_
    exact z_sub [0] rfl (w_X12_unit_B172 l x2 s0 S h)
  · have h := zt_some c1 h
    refine z_aload_n (pc := 164) (q := 0) dX12_unit_164 rfl rfl ?_
    refine z_getI (pc := 165) dX12_unit_165 zf_X12_157 gM_0_8 ?_
    refine z_goto (pc := 168) (tgt := 172) dX12_unit_168 (by decide) ?_
    exact z_sub [0] rfl (w_X12_unit_B172 l (S.1 0 8) s0 S h)
set_option maxRecDepth 100000 in
theorem w_X12_unit_B138 (l : Launch) {S1 : zS} (x2 : Int32) (S : zS) (h : f_X12_unit_B138 x2 S = some S1) : WA zLM l RX12 cX12_unit 3 none 4 none S1 138 [(0, .ref 0), (2, .int x2)] [] S := by
  unfold f_X12_unit_B138 at h
  refine z_aload_n (pc := 138) (q := 0) dX12_unit_138 rfl rfl ?_
  refine z_getI (pc := 139) dX12_unit_139 zf_X12_173 gM_0_2 ?_
  refine z_if_le (pc := 142) (tgt := 146) dX12_unit_142 (by decide) (fun c1 => ?_) (fun c1 => ?_)
  · have h := ze_some c1 h
    refine z_aload_n (pc := 146) (q := 0) dX12_unit_146 rfl rfl ?_
    obtain ⟨T3, q2, h⟩ := zu_some h
    refine z_callVv (pc := 147) (st := []) [] dX12_unit_147 zm_X12_285 zM_X12_countUnit (by decide) oM_0 rfl (w_X12_countUnit l q2) rfl rfl (Nat.le_of_ble_eq_true rfl) ?_
    refine z_aload_n (pc := 150) (q := 0) dX12_unit_150 rfl rfl ?_
    refine z_iload_n (pc := 151) (q := 1) dX12_unit_151 rfl rfl ?_
    refine z_if_ge (pc := 152) (tgt := 159) dX12_unit_152 (by decide) (fun c4 => ?_) (fun c4 => ?_)
    · have h := ze_some c4 h
      refine z_iconst (pc := 159) (v := 1) dX12_unit_159 zci_1 ?_
      exact w_X12_unit_B160 l x2 1 T3 h
    · have h := zt_some c4 h
      refine z_iconst (pc := 155) (v := 0) dX12_unit_155 zci_0 ?_
      refine z_goto (pc := 156) (tgt := 160) dX12_unit_156 (by decide) ?_
      exact w_X12_unit_B160 l x2 0 T3 h
  · have h := zt_some c1 h
    cases h
    exact z_vret dX12_unit_145
set_option maxRecDepth 100000 in
theorem w_X12_unit_B133 (l : Launch) {S1 : zS} (x2 : Int32) (S : zS) (h : f_X12_unit_B133 x2 S = some S1) : WA zLM l RX12 cX12_unit 3 none 4 none S1 133 [(0, .ref 0), (2, .int x2)] [] S := by
  unfold f_X12_unit_B133 at h
  refine z_aload_n (pc := 133) (q := 0) dX12_unit_133 rfl rfl ?_
  refine z_iconst (pc := 134) (v := 2) dX12_unit_134 zci_2 ?_
  obtain ⟨T2, q1, h⟩ := zu_some h
  refine z_callVv (pc := 135) (st := []) [.int 2] dX12_unit_135 zm_X12_232 zM_X12_wrong (by decide) oM_0 rfl (w_X12_wrong l q1) rfl rfl (Nat.le_of_ble_eq_true rfl) ?_
  exact w_X12_unit_B138 l x2 T2 h
set_option maxRecDepth 100000 in
theorem w_X12_unit_B126 (l : Launch) {S1 : zS} (x2 : Int32) (S : zS) (h : f_X12_unit_B126 x2 S = some S1) : WA zLM l RX12 cX12_unit 3 none 4 none S1 126 [(0, .ref 0), (2, .int x2)] [] S := by
  unfold f_X12_unit_B126 at h
  refine z_aload_n (pc := 126) (q := 0) dX12_unit_126 rfl rfl ?_
  obtain ⟨r3, T2, q1, h⟩ := zb_some h
  refine z_callVi (pc := 127) (st := []) [] dX12_unit_127 zm_X12_282 zM_X12_isFull (by decide) oM_0 rfl (w_X12_isFull l q1) rfl rfl (Nat.le_of_ble_eq_true rfl) ?_
  refine z_if_eq (pc := 130) (tgt := 138) dX12_unit_130 (by decide) (fun c4 => ?_) (fun c4 => ?_)
  · have h := zt_some c4 h
    exact w_X12_unit_B138 l x2 T2 h
  · have h := ze_some c4 h
    exact w_X12_unit_B133 l x2 T2 h
set_option maxRecDepth 100000 in
theorem w_X12_unit_B101 (l : Launch) {S1 : zS}  (S : zS) (h : f_X12_unit_B101 S = some S1) : WA zLM l RX12 cX12_unit 3 none 4 none S1 101 [(0, .ref 0)] [] S := by
  unfold f_X12_unit_B101 at h
  refine z_aload_n (pc := 101) (q := 0) dX12_unit_101 rfl rfl ?_
  refine z_getI (pc := 102) dX12_unit_102 zf_X12_173 gM_0_2 ?_
  refine z_if_le (pc := 105) (tgt := 109) dX12_unit_105 (by decide) (fun c1 => ?_) (fun c1 => ?_)
  · have h := ze_some c1 h
    refine z_aload_n (pc := 109) (q := 0) dX12_unit_109 rfl rfl ?_
    obtain ⟨r4, T3, q2, h⟩ := zb_some h
    refine z_callVi (pc := 110) (st := []) [] dX12_unit_110 zm_X12_288 zM_X12_asked (by decide) oM_0 rfl (w_X12_asked l q2) rfl rfl (Nat.le_of_ble_eq_true rfl) ?_
    refine z_istore_n (pc := 113) (lo' := [(2, .int r4), (0, .ref 0)]) dX12_unit_113 rfl (by decide) rfl ?_
    refine z_aload_n (pc := 114) (q := 1) dX12_unit_114 rfl rfl ?_
    refine z_getI (pc := 115) dX12_unit_115 zf_X12_160 gM_0_6 ?_
    refine z_iconst (pc := 118) (v := 2) dX12_unit_118 zci_2 ?_
    refine z_icmp_eq (pc := 119) (tgt := 126) dX12_unit_119 (by decide) (fun c5 => ?_) (fun c5 => ?_)
    · have h := zt_some c5 h
      exact z_sub [1, 0] rfl (w_X12_unit_B126 l r4 T3 h)
    · have h := ze_some c5 h
      refine z_iload_n (pc := 122) (q := 0) dX12_unit_122 rfl rfl ?_
      refine z_if_lt (pc := 123) (tgt := 133) dX12_unit_123 (by decide) (fun c6 => ?_) (fun c6 => ?_)
      · have h := zt_some c6 h
        exact z_sub [1, 0] rfl (w_X12_unit_B133 l r4 T3 h)
      · have h := ze_some c6 h
        exact z_sub [1, 0] rfl (w_X12_unit_B126 l r4 T3 h)
  · have h := zt_some c1 h
    cases h
    exact z_vret dX12_unit_108
set_option maxRecDepth 100000 in
theorem w_X12_unit_B83 (l : Launch) {S1 : zS} (K2 : Int32 → zS → Option zS) (hK2 : ∀ (x1 : Int32) (S : zS), K2 x1 S = some S1 → WA zLM l RX12 cX12_unit 3 none 4 none S1 2 [(0, .ref 0), (1, .int x1)] [] S) (x1 : Int32) (S : zS) (h : f_X12_unit_B83 K2 x1 S = some S1) : WA zLM l RX12 cX12_unit 3 none 4 none S1 83 [(0, .ref 0), (1, .int x1)] [] S := by
  unfold f_X12_unit_B83 at h
  refine z_aload_n (pc := 83) (q := 0) dX12_unit_83 rfl rfl ?_
  obtain ⟨T2, q1, h⟩ := zu_some h
  refine z_callVv (pc := 84) (st := []) [] dX12_unit_84 zm_X12_285 zM_X12_countUnit (by decide) oM_0 rfl (w_X12_countUnit l q1) rfl rfl (Nat.le_of_ble_eq_true rfl) ?_
  refine z_aload_n (pc := 87) (q := 0) dX12_unit_87 rfl rfl ?_
  refine z_bipush (pc := 88) (v := 20) dX12_unit_88 zcb_20 ?_
  obtain ⟨T4, q3, h⟩ := zu_some h
  refine z_callVv (pc := 90) (st := []) [.int 20] dX12_unit_90 zm_X12_279 zM_X12_openUp (by decide) oM_0 rfl (w_X12_openUp l q3) rfl rfl (Nat.le_of_ble_eq_true rfl) ?_
  refine z_goto (pc := 93) (tgt := 2) dX12_unit_93 (by decide) ?_
  exact hK2 x1 T4 h
set_option maxRecDepth 100000 in
theorem w_X12_unit_B78 (l : Launch) {S1 : zS} (K2 : Int32 → zS → Option zS) (hK2 : ∀ (x1 : Int32) (S : zS), K2 x1 S = some S1 → WA zLM l RX12 cX12_unit 3 none 4 none S1 2 [(0, .ref 0), (1, .int x1)] [] S) (x1 : Int32) (S : zS) (h : f_X12_unit_B78 K2 x1 S = some S1) : WA zLM l RX12 cX12_unit 3 none 4 none S1 78 [(0, .ref 0), (1, .int x1)] [] S := by
  unfold f_X12_unit_B78 at h
  refine z_aload_n (pc := 78) (q := 0) dX12_unit_78 rfl rfl ?_
  refine z_iconst (pc := 79) (v := 2) dX12_unit_79 zci_2 ?_
  obtain ⟨T2, q1, h⟩ := zu_some h
  refine z_callVv (pc := 80) (st := []) [.int 2] dX12_unit_80 zm_X12_232 zM_X12_wrong (by decide) oM_0 rfl (w_X12_wrong l q1) rfl rfl (Nat.le_of_ble_eq_true rfl) ?_
  exact w_X12_unit_B83 l K2 hK2 x1 T2 h
set_option maxRecDepth 100000 in
theorem w_X12_unit_B53 (l : Launch) {S1 : zS} (K2 : Int32 → zS → Option zS) (hK2 : ∀ (x1 : Int32) (S : zS), K2 x1 S = some S1 → WA zLM l RX12 cX12_unit 3 none 4 none S1 2 [(0, .ref 0), (1, .int x1)] [] S) (x1 : Int32) (S : zS) (h : f_X12_unit_B53 K2 x1 S = some S1) : WA zLM l RX12 cX12_unit 3 none 4 none S1 53 [(0, .ref 0), (1, .int x1)] [] S := by
  unfold f_X12_unit_B53 at h
  refine z_aload_n (pc := 53) (q := 0) dX12_unit_53 rfl rfl ?_
  refine z_getI (pc := 54) dX12_unit_54 zf_X12_160 gM_0_6 ?_
  refine z_bipush (pc := 57) (v := 40) dX12_unit_57 zcb_40 ?_
  refine z_icmp_ne (pc := 59) (tgt := 96) dX12_unit_59 (by decide) (fun c1 => ?_) (fun c1 => ?_)
  · have h := ze_some c1 h
    refine z_iconst (pc := 96) (v := 0) dX12_unit_96 zci_0 ?_
    refine z_istore_n (pc := 97) (lo' := [(1, .int 0), (0, .ref 0)]) dX12_unit_97 rfl (by decide) rfl ?_
    refine z_goto (pc := 98) (tgt := 2) dX12_unit_98 (by decide) ?_
    exact z_sub [1, 0] rfl (hK2 0 S h)
  · have h := zt_some c1 h
    refine z_aload_n (pc := 62) (q := 0) dX12_unit_62 rfl rfl ?_
    obtain ⟨r4, T3, q2, h⟩ := zb_some h
    refine z_callVi (pc := 63) (st := []) [] dX12_unit_63 zm_X12_282 zM_X12_isFull (by decide) oM_0 rfl (w_X12_isFull l q2) rfl rfl (Nat.le_of_ble_eq_true rfl) ?_
    refine z_if_ne (pc := 66) (tgt := 78) dX12_unit_66 (by decide) (fun c5 => ?_) (fun c5 => ?_)
    · have h := ze_some c5 h
      exact w_X12_unit_B78 l K2 hK2 x1 T3 h
    · have h := zt_some c5 h
      refine z_aload_n (pc := 69) (q := 0) dX12_unit_69 rfl rfl ?_
      refine z_getI (pc := 70) dX12_unit_70 zf_X12_267 gM_0_23 ?_
      refine z_bipush (pc := 73) (v := 6) dX12_unit_73 zcb_6 ?_
      refine z_icmp_le (pc := 75) (tgt := 83) dX12_unit_75 (by decide) (fun c6 => ?_) (fun c6 => ?_)
      · have h := ze_some c6 h
        exact w_X12_unit_B83 l K2 hK2 x1 T3 h
      · have h := zt_some c6 h
        exact w_X12_unit_B78 l K2 hK2 x1 T3 h
set_option maxRecDepth 100000 in
theorem w_X12_unit_B44 (l : Launch) {S1 : zS} (K2 : Int32 → zS → Option zS) (hK2 : ∀ (x1 : Int32) (S : zS), K2 x1 S = some S1 → WA zLM l RX12 cX12_unit 3 none 4 none S1 2 [(0, .ref 0), (1, .int x1)] [] S) (x1 : Int32) (S : zS) (h : f_X12_unit_B44 K2 x1 S = some S1) : WA zLM l RX12 cX12_unit 3 none 4 none S1 44 [(0, .ref 0), (1, .int x1)] [] S := by
  unfold f_X12_unit_B44 at h
  refine z_aload_n (pc := 44) (q := 0) dX12_unit_44 rfl rfl ?_
  refine z_bipush (pc := 45) (v := 21) dX12_unit_45 zcb_21 ?_
  obtain ⟨T2, q1, h⟩ := zu_some h
  refine z_callVv (pc := 47) (st := []) [.int 21] dX12_unit_47 zm_X12_279 zM_X12_openUp (by decide) oM_0 rfl (w_X12_openUp l q1) rfl rfl (Nat.le_of_ble_eq_true rfl) ?_
  refine z_goto (pc := 50) (tgt := 2) dX12_unit_50 (by decide) ?_
  exact hK2 x1 T2 h
set_option maxRecDepth 100000 in
theorem w_X12_unit_L2 (l : Launch) {S1 : zS} : ∀ (n : Nat) (x1 : Int32) (S : zS), f_X12_unit_L2 n x1 S = some S1 → WA zLM l RX12 cX12_unit 3 none 4 none S1 2 [(0, .ref 0), (1, .int x1)] [] S := by
  intro n
  induction n with
  | zero =>
    intro x1 S h
    exact nomatch h
  | succ n ih =>
    intro x1 S h
    rw [f_X12_unit_L2] at h
    refine z_iload_n (pc := 2) (q := 1) dX12_unit_2 rfl rfl ?_
    refine z_if_eq (pc := 3) (tgt := 101) dX12_unit_3 (by decide) (fun c1 => ?_) (fun c1 => ?_)
    · have h := zt_some c1 h
      exact z_sub [0] rfl (w_X12_unit_B101 l S h)
    · have h := ze_some c1 h
      refine z_aload_n (pc := 6) (q := 0) dX12_unit_6 rfl rfl ?_
      refine z_getI (pc := 7) dX12_unit_7 zf_X12_173 gM_0_2 ?_
      refine z_if_ne (pc := 10) (tgt := 101) dX12_unit_10 (by decide) (fun c2 => ?_) (fun c2 => ?_)
      · have h := ze_some c2 h
        exact z_sub [0] rfl (w_X12_unit_B101 l S h)
      · have h := zt_some c2 h
        refine z_aload_n (pc := 13) (q := 0) dX12_unit_13 rfl rfl ?_
        refine z_ldc2 (pc := 14) dX12_unit_14 zk_X12_222 ?_
        obtain ⟨r5, T4, q3, h⟩ := zb_some h
        refine z_callVi (pc := 17) (st := []) [.long 7237492] dX12_unit_17 zm_X12_228 zM_X12_isWord (by decide) oM_0 rfl (w_X12_isWord l q3) rfl rfl (Nat.le_of_ble_eq_true rfl) ?_
        refine z_if_eq (pc := 20) (tgt := 53) dX12_unit_20 (by decide) (fun c6 => ?_) (fun c6 => ?_)
        · have h := zt_some c6 h
          exact w_X12_unit_B53 l (f_X12_unit_L2 n) ih x1 T4 h
        · have h := ze_some c6 h
          refine z_aload_n (pc := 23) (q := 0) dX12_unit_23 rfl rfl ?_
          obtain ⟨r9, T8, q7, h⟩ := zb_some h
          refine z_callVi (pc := 24) (st := []) [] dX12_unit_24 zm_X12_276 zM_X12_mayNot (by decide) oM_0 rfl (w_X12_mayNot l q7) rfl rfl (Nat.le_of_ble_eq_true rfl) ?_
          refine z_if_eq (pc := 27) (tgt := 53) dX12_unit_27 (by decide) (fun c10 => ?_) (fun c10 => ?_)
          · have h := zt_some c10 h
            exact w_X12_unit_B53 l (f_X12_unit_L2 n) ih x1 T8 h
          · have h := ze_some c10 h
            refine z_aload_n (pc := 30) (q := 0) dX12_unit_30 rfl rfl ?_
            refine z_getI (pc := 31) dX12_unit_31 zf_X12_267 gM_0_23 ?_
            refine z_bipush (pc := 34) (v := 6) dX12_unit_34 zcb_6 ?_
            refine z_icmp_le (pc := 36) (tgt := 44) dX12_unit_36 (by decide) (fun c11 => ?_) (fun c11 => ?_)
            · have h := ze_some c11 h
              exact w_X12_unit_B44 l (f_X12_unit_L2 n) ih x1 T8 h
            · have h := zt_some c11 h
              refine z_aload_n (pc := 39) (q := 0) dX12_unit_39 rfl rfl ?_
              refine z_iconst (pc := 40) (v := 2) dX12_unit_40 zci_2 ?_
              obtain ⟨T13, q12, h⟩ := zu_some h
              refine z_callVv (pc := 41) (st := []) [.int 2] dX12_unit_41 zm_X12_232 zM_X12_wrong (by decide) oM_0 rfl (w_X12_wrong l q12) rfl rfl (Nat.le_of_ble_eq_true rfl) ?_
              exact w_X12_unit_B44 l (f_X12_unit_L2 n) ih x1 T13 h
set_option maxRecDepth 100000 in
theorem w_X12_unit (l : Launch)  {S : zS} {S1 : zS} (h : f_X12_unit S = some S1) : zMet zLM l yX12_unit cX12_unit 3 none 4 [.ref 0] S none S1 := by
  unfold f_X12_unit at h
  refine zMet.of (by decide +kernel) (Nat.le_of_ble_eq_true rfl) ?_
  show WA zLM l RX12 cX12_unit 3 none 4 none S1 0 [(0, .ref 0)] [] S
  refine z_iconst (pc := 0) (v := 1) dX12_unit_0 zci_1 ?_
  refine z_istore_n (pc := 1) (lo' := [(1, .int 1), (0, .ref 0)]) dX12_unit_1 rfl (by decide) rfl ?_
  exact z_sub [1, 0] rfl (w_X12_unit_L2 l zN 1 S h)
def f_X12_sign  (S : zS) : Option (Int32 × zS) :=
  zb (f_X12_isWord 6385252 S) fun r3 T2 =>
  if r3 = 0 then
    zb (f_X12_isWord 28530 T2) fun r7 T6 =>
    if r7 = 0 then
      if (T6.1 0 6) = 60 then
        some (T6.1 0 6, T6)
      else
        if (T6.1 0 6) = 62 then
          some (T6.1 0 6, T6)
        else
          if (T6.1 0 6) = 61 then
            some (T6.1 0 6, T6)
          else
            if (T6.1 0 6) = 43 then
              some (T6.1 0 6, T6)
            else
              if (T6.1 0 6) = 45 then
                some (T6.1 0 6, T6)
              else
                if (T6.1 0 6) = 42 then
                  some (T6.1 0 6, T6)
                else
                  if (T6.1 0 6) = 47 then
                    some (T6.1 0 6, T6)
                  else
                    if (T6.1 0 6) = 37 then
                      some (T6.1 0 6, T6)
                    else
                      some (0, T6)
    else
      some (124, T6)
  else
    some (38, T2)
set_option maxRecDepth 100000 in
theorem w_X12_sign (l : Launch)  {S : zS} {r : Int32} {S1 : zS} (h : f_X12_sign S = some (r, S1)) : zMet zLM l yX12_sign cX12_sign 1 (some .int) 2 [.ref 0] S (some (.int r)) S1 := by
  unfold f_X12_sign at h
  refine zMet.of (by decide +kernel) (Nat.le_of_ble_eq_true rfl) ?_
  show WA zLM l RX12 cX12_sign 1 (some .int) 2 (some (.int r)) S1 0 [(0, .ref 0)] [] S
  refine z_aload_n (pc := 0) (q := 0) dX12_sign_0 rfl rfl ?_
  refine z_ldc2 (pc := 1) dX12_sign_1 zk_X12_218 ?_
  obtain ⟨r3, T2, q1, h⟩ := zb_some h
  refine z_callVi (pc := 4) (st := []) [.long 6385252] dX12_sign_4 zm_X12_228 zM_X12_isWord (by decide) oM_0 rfl (w_X12_isWord l q1) rfl rfl (Nat.le_of_ble_eq_true rfl) ?_
  refine z_if_eq (pc := 7) (tgt := 13) dX12_sign_7 (by decide) (fun c4 => ?_) (fun c4 => ?_)
  · have h := zt_some c4 h
    refine z_aload_n (pc := 13) (q := 0) dX12_sign_13 rfl rfl ?_
    refine z_ldc2 (pc := 14) dX12_sign_14 zk_X12_220 ?_
    obtain ⟨r7, T6, q5, h⟩ := zb_some h
    refine z_callVi (pc := 17) (st := []) [.long 28530] dX12_sign_17 zm_X12_228 zM_X12_isWord (by decide) oM_0 rfl (w_X12_isWord l q5) rfl rfl (Nat.le_of_ble_eq_true rfl) ?_
    refine z_if_eq (pc := 20) (tgt := 26) dX12_sign_20 (by decide) (fun c8 => ?_) (fun c8 => ?_)
    · have h := zt_some c8 h
      refine z_aload_n (pc := 26) (q := 0) dX12_sign_26 rfl rfl ?_
      refine z_getI (pc := 27) dX12_sign_27 zf_X12_160 gM_0_6 ?_
      refine z_bipush (pc := 30) (v := 60) dX12_sign_30 zcb_60 ?_
      refine z_icmp_eq (pc := 32) (tgt := 98) dX12_sign_32 (by decide) (fun c9 => ?_) (fun c9 => ?_)
      · have h := zt_some c9 h
        refine z_aload_n (pc := 98) (q := 0) dX12_sign_98 rfl rfl ?_
        refine z_getI (pc := 99) dX12_sign_99 zf_X12_160 gM_0_6 ?_
        refine z_goto (pc := 102) (tgt := 106) dX12_sign_102 (by decide) ?_
        obtain ⟨rfl, rfl⟩ := zr_some h
        exact z_iret dX12_sign_106
      · have h := ze_some c9 h
        refine z_aload_n (pc := 35) (q := 0) dX12_sign_35 rfl rfl ?_
        refine z_getI (pc := 36) dX12_sign_36 zf_X12_160 gM_0_6 ?_
        refine z_bipush (pc := 39) (v := 62) dX12_sign_39 zcb_62 ?_
        refine z_icmp_eq (pc := 41) (tgt := 98) dX12_sign_41 (by decide) (fun c10 => ?_) (fun c10 => ?_)
        · have h := zt_some c10 h
          refine z_aload_n (pc := 98) (q := 0) dX12_sign_98 rfl rfl ?_
          refine z_getI (pc := 99) dX12_sign_99 zf_X12_160 gM_0_6 ?_
          refine z_goto (pc := 102) (tgt := 106) dX12_sign_102 (by decide) ?_
          obtain ⟨rfl, rfl⟩ := zr_some h
          exact z_iret dX12_sign_106
        · have h := ze_some c10 h
          refine z_aload_n (pc := 44) (q := 0) dX12_sign_44 rfl rfl ?_
          refine z_getI (pc := 45) dX12_sign_45 zf_X12_160 gM_0_6 ?_
          refine z_bipush (pc := 48) (v := 61) dX12_sign_48 zcb_61 ?_
          refine z_icmp_eq (pc := 50) (tgt := 98) dX12_sign_50 (by decide) (fun c11 => ?_) (fun c11 => ?_)
          · have h := zt_some c11 h
            refine z_aload_n (pc := 98) (q := 0) dX12_sign_98 rfl rfl ?_
            refine z_getI (pc := 99) dX12_sign_99 zf_X12_160 gM_0_6 ?_
            refine z_goto (pc := 102) (tgt := 106) dX12_sign_102 (by decide) ?_
            obtain ⟨rfl, rfl⟩ := zr_some h
            exact z_iret dX12_sign_106
          · have h := ze_some c11 h
            refine z_aload_n (pc := 53) (q := 0) dX12_sign_53 rfl rfl ?_
            refine z_getI (pc := 54) dX12_sign_54 zf_X12_160 gM_0_6 ?_
            refine z_bipush (pc := 57) (v := 43) dX12_sign_57 zcb_43 ?_
            refine z_icmp_eq (pc := 59) (tgt := 98) dX12_sign_59 (by decide) (fun c12 => ?_) (fun c12 => ?_)
            · have h := zt_some c12 h
              refine z_aload_n (pc := 98) (q := 0) dX12_sign_98 rfl rfl ?_
              refine z_getI (pc := 99) dX12_sign_99 zf_X12_160 gM_0_6 ?_
              refine z_goto (pc := 102) (tgt := 106) dX12_sign_102 (by decide) ?_
              obtain ⟨rfl, rfl⟩ := zr_some h
              exact z_iret dX12_sign_106
            · have h := ze_some c12 h
              refine z_aload_n (pc := 62) (q := 0) dX12_sign_62 rfl rfl ?_
              refine z_getI (pc := 63) dX12_sign_63 zf_X12_160 gM_0_6 ?_
              refine z_bipush (pc := 66) (v := 45) dX12_sign_66 zcb_45 ?_
              refine z_icmp_eq (pc := 68) (tgt := 98) dX12_sign_68 (by decide) (fun c13 => ?_) (fun c13 => ?_)
              · have h := zt_some c13 h
                refine z_aload_n (pc := 98) (q := 0) dX12_sign_98 rfl rfl ?_
                refine z_getI (pc := 99) dX12_sign_99 zf_X12_160 gM_0_6 ?_
                refine z_goto (pc := 102) (tgt := 106) dX12_sign_102 (by decide) ?_
                obtain ⟨rfl, rfl⟩ := zr_some h
                exact z_iret dX12_sign_106
              · have h := ze_some c13 h
                refine z_aload_n (pc := 71) (q := 0) dX12_sign_71 rfl rfl ?_
                refine z_getI (pc := 72) dX12_sign_72 zf_X12_160 gM_0_6 ?_
                refine z_bipush (pc := 75) (v := 42) dX12_sign_75 zcb_42 ?_
                refine z_icmp_eq (pc := 77) (tgt := 98) dX12_sign_77 (by decide) (fun c14 => ?_) (fun c14 => ?_)
                · have h := zt_some c14 h
                  refine z_aload_n (pc := 98) (q := 0) dX12_sign_98 rfl rfl ?_
                  refine z_getI (pc := 99) dX12_sign_99 zf_X12_160 gM_0_6 ?_
                  refine z_goto (pc := 102) (tgt := 106) dX12_sign_102 (by decide) ?_
                  obtain ⟨rfl, rfl⟩ := zr_some h
                  exact z_iret dX12_sign_106
                · have h := ze_some c14 h
                  refine z_aload_n (pc := 80) (q := 0) dX12_sign_80 rfl rfl ?_
                  refine z_getI (pc := 81) dX12_sign_81 zf_X12_160 gM_0_6 ?_
                  refine z_bipush (pc := 84) (v := 47) dX12_sign_84 zcb_47 ?_
                  refine z_icmp_eq (pc := 86) (tgt := 98) dX12_sign_86 (by decide) (fun c15 => ?_) (fun c15 => ?_)
                  · have h := zt_some c15 h
                    refine z_aload_n (pc := 98) (q := 0) dX12_sign_98 rfl rfl ?_
                    refine z_getI (pc := 99) dX12_sign_99 zf_X12_160 gM_0_6 ?_
                    refine z_goto (pc := 102) (tgt := 106) dX12_sign_102 (by decide) ?_
                    obtain ⟨rfl, rfl⟩ := zr_some h
                    exact z_iret dX12_sign_106
                  · have h := ze_some c15 h
                    refine z_aload_n (pc := 89) (q := 0) dX12_sign_89 rfl rfl ?_
                    refine z_getI (pc := 90) dX12_sign_90 zf_X12_160 gM_0_6 ?_
                    refine z_bipush (pc := 93) (v := 37) dX12_sign_93 zcb_37 ?_
                    refine z_icmp_ne (pc := 95) (tgt := 105) dX12_sign_95 (by decide) (fun c16 => ?_) (fun c16 => ?_)
                    · have h := ze_some c16 h
                      refine z_iconst (pc := 105) (v := 0) dX12_sign_105 zci_0 ?_
                      obtain ⟨rfl, rfl⟩ := zr_some h
                      exact z_iret dX12_sign_106
                    · have h := zt_some c16 h
                      refine z_aload_n (pc := 98) (q := 0) dX12_sign_98 rfl rfl ?_
                      refine z_getI (pc := 99) dX12_sign_99 zf_X12_160 gM_0_6 ?_
                      refine z_goto (pc := 102) (tgt := 106) dX12_sign_102 (by decide) ?_
                      obtain ⟨rfl, rfl⟩ := zr_some h
                      exact z_iret dX12_sign_106
    · have h := ze_some c8 h
      refine z_bipush (pc := 23) (v := 124) dX12_sign_23 zcb_124 ?_
      obtain ⟨rfl, rfl⟩ := zr_some h
      exact z_iret dX12_sign_25
  · have h := ze_some c4 h
    refine z_bipush (pc := 10) (v := 38) dX12_sign_10 zcb_38 ?_
    obtain ⟨rfl, rfl⟩ := zr_some h
    exact z_iret dX12_sign_12
