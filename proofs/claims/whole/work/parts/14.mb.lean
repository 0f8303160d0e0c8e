def f_X12_hasBracket_L4 : Nat → Int32 → Int32 → zS → Option (Int32 × zS)
  | 0, _, _, _ => none
  | n + 1, x1, x2, S =>
    if x2 < (S.1 0 19) then
      if x1 = 0 then
        if zin x2 160 then
        if (S.1 7 x2.toNatClampNeg) = 20 then
          zlet (x2 + 1) fun v5 =>
          (f_X12_hasBracket_L4 n) 1 v5 S
        else
          zlet (x2 + 1) fun v5 =>
          (f_X12_hasBracket_L4 n) 0 v5 S else none
      else
        zlet (x2 + 1) fun v3 =>
        (f_X12_hasBracket_L4 n) 1 v3 S
    else
      if znb x1 then some (x1, S) else none
def f_X12_hasBracket  (S : zS) : Option (Int32 × zS) :=
  f_X12_hasBracket_L4 zN 0 0 S
set_option maxRecDepth 100000 in
theorem w_X12_hasBracket_L4 (l : Launch) {r : Int32} {S1 : zS} : ∀ (n : Nat) (x1 : Int32) (x2 : Int32) (S : zS), f_X12_hasBracket_L4 n x1 x2 S = some (r, S1) → WA zLM l RX12 cX12_hasBracket 3 (some .boolean) 1 (some (.int r)) S1 4 [(0, .ref 0), (1, .int x1), (2, .int x2)] [] S := by
  intro n
  induction n with
  | zero =>
    intro x1 x2 S h
    exact nomatch h
  | succ n ih =>
    intro x1 x2 S h
    rw [f_X12_hasBracket_L4] at h
    refine z_iload_n (pc := 4) (q := 2) dX12_hasBracket_4 rfl rfl ?_
    refine z_aload_n (pc := 5) (q := 0) dX12_hasBracket_5 rfl rfl ?_
    refine z_getI (pc := 6) dX12_hasBracket_6 zf_X12_257 gM_0_19 ?_
    refine z_icmp_ge (pc := 9) (tgt := 39) dX12_hasBracket_9 (by decide) (fun c1 => ?_) (fun c1 => ?_)
    · have h := ze_some c1 h
      refine z_iload_n (pc := 39) (q := 1) dX12_hasBracket_39 rfl rfl ?_
      obtain ⟨c2, h⟩ := zg_some h
      obtain ⟨rfl, rfl⟩ := zr_some h
      exact z_zret dX12_hasBracket_40 (znb_n c2)
    · have h := zt_some c1 h
      refine z_iload_n (pc := 12) (q := 1) dX12_hasBracket_12 rfl rfl ?_
      refine z_if_ne (pc := 13) (tgt := 27) dX12_hasBracket_13 (by decide) (fun c2 => ?_) (fun c2 => ?_)
      · have h := ze_some c2 h
        refine z_iconst (pc := 27) (v := 1) dX12_hasBracket_27 zci_1 ?_
        refine z_goto (pc := 28) (tgt := 32) dX12_hasBracket_28 (by decide) ?_
        refine z_istore_n (pc := 32) (lo' := [(1, .int 1), (0, .ref 0), (2, .int x2)]) dX12_hasBracket_32 rfl (by decide) rfl ?_
        obtain ⟨v3, ev3, h⟩ := zl_some h
        refine z_iinc (pc := 33) (q := 2) (v := v3) (lo' := [(2, .int v3), (1, .int 1), (0, .ref 0)]) dX12_hasBracket_33 rfl (by rw [ev3, zci_1]) (by decide) rfl ?_
        refine z_goto (pc := 36) (tgt := 4) dX12_hasBracket_36 (by decide) ?_
        exact z_sub [2, 1, 0] rfl (ih 1 v3 S h)
      · have h := zt_some c2 h
        refine z_aload_n (pc := 16) (q := 0) dX12_hasBracket_16 rfl rfl ?_
        refine z_getR (pc := 17) dX12_hasBracket_17 zf_X12_33 gM_0_15 ?_
        refine z_iload_n (pc := 20) (q := 2) dX12_hasBracket_20 rfl rfl ?_
        obtain ⟨c3, h⟩ := zg_some h
        refine z_iald (pc := 21) dX12_hasBracket_21 aM_7 c3 ?_
        refine z_bipush (pc := 22) (v := 20) dX12_hasBracket_22 zcb_20 ?_
        refine z_icmp_ne (pc := 24) (tgt := 31) dX12_hasBracket_24 (by decide) (fun c4 => ?_) (fun c4 => ?_)
        · have h := ze_some c4 h
          refine z_iconst (pc := 31) (v := 0) dX12_hasBracket_31 zci_0 ?_
          refine z_istore_n (pc := 32) (lo' := [(1, .int 0), (0, .ref 0), (2, .int x2)]) dX12_hasBracket_32 rfl (by decide) rfl ?_
          obtain ⟨v5, ev5, h⟩ := zl_some h
          refine z_iinc (pc := 33) (q := 2) (v := v5) (lo' := [(2, .int v5), (1, .int 0), (0, .ref 0)]) dX12_hasBracket_33 rfl (by rw [ev5, zci_1]) (by decide) rfl ?_
          refine z_goto (pc := 36) (tgt := 4) dX12_hasBracket_36 (by decide) ?_
          exact z_sub [2, 1, 0] rfl (ih 0 v5 S h)
        · have h := zt_some c4 h
          refine z_iconst (pc := 27) (v := 1) dX12_hasBracket_27 zci_1 ?_
          refine z_goto (pc := 28) (tgt := 32) dX12_hasBracket_28 (by decide) ?_
          refine z_istore_n (pc := 32) (lo' := [(1, .int 1), (0, .ref 0), (2, .int x2)]) dX12_hasBracket_32 rfl (by decide) rfl ?_
          obtain ⟨v5, ev5, h⟩ := zl_some h
          refine z_iinc (pc := 33) (q := 2) (v := v5) (lo' := [(2, .int v5), (1, .int 1), (0, .ref 0)]) dX12_hasBracket_33 rfl (by rw [ev5, zci_1]) (by decide) rfl ?_
          refine z_goto (pc := 36) (tgt := 4) dX12_hasBracket_36 (by decide) ?_
          exact z_sub [2, 1, 0] rfl (ih 1 v5 S h)
set_option maxRecDepth 100000 in
theorem w_X12_hasBracket (l : Launch)  {S : zS} {r : Int32} {S1 : zS} (h : f_X12_hasBracket S = some (r, S1)) : zMet zLM l yX12_hasBracket cX12_hasBracket 3 (some .boolean) 1 [.ref 0] S (some (.int r)) S1 := by
  unfold f_X12_hasBracket at h
  refine zMet.of (by decide +kernel) (Nat.le_of_ble_eq_true rfl) ?_
  show WA zLM l RX12 cX12_hasBracket 3 (some .boolean) 1 (some (.int r)) S1 0 [(0, .ref 0)] [] S
  refine z_iconst (pc := 0) (v := 0) dX12_hasBracket_0 zci_0 ?_
  refine z_istore_n (pc := 1) (lo' := [(1, .int 0), (0, .ref 0)]) dX12_hasBracket_1 rfl (by decide) rfl ?_
  refine z_iconst (pc := 2) (v := 0) dX12_hasBracket_2 zci_0 ?_
  refine z_istore_n (pc := 3) (lo' := [(2, .int 0), (1, .int 0), (0, .ref 0)]) dX12_hasBracket_3 rfl (by decide) rfl ?_
  exact z_sub [2, 1, 0] rfl (w_X12_hasBracket_L4 l zN 0 0 S h)
def f_X12_readGrow_B176  (S : zS) : Option zS :=
  if (S.1 0 2) = 0 then
    zu (f_X12_close 0 S) fun T3 =>
    some T3
  else
    some S
def f_X12_readGrow_B157  (S : zS) : Option zS :=
  if (S.1 0 2) = 0 then
    zb (f_X12_hasBracket S) fun r4 T3 =>
    if r4 = 0 then
      f_X12_readGrow_B176 T3
    else
      zu (f_X12_wrong 2 T3) fun T7 =>
      f_X12_readGrow_B176 T7
  else
    f_X12_readGrow_B176 S
def f_X12_readGrow_B113 (K30 : Int32 → zS → Option zS) (x1 : Int32) (x2 : Int32) (S : zS) : Option zS :=
  zb (f_X12_tight x2 S) fun r3 T2 =>
  zu (f_X12_close r3 T2) fun T5 =>
  if zin (T5.1 0 19) 160 then
  zlet (zput T5 7 (T5.1 0 19).toNatClampNeg x2) fun T7 =>
  zlet (zput T7 0 19 ((T7.1 0 19) + 1)) fun T8 =>
  zu (f_X12_token T8) fun T10 =>
  zu (f_X12_unit T10) fun T12 =>
  K30 x1 T12 else none
def f_X12_readGrow_B94 (K30 : Int32 → zS → Option zS) (x1 : Int32) (x2 : Int32) (S : zS) : Option zS :=
  if x2 = 0 then
    K30 0 S
  else
    zb (f_X12_tight x2 S) fun r4 T3 =>
    if r4 = 4 then
      zb (f_X12_hasRelation T3) fun r8 T7 =>
      if r8 = 0 then
        f_X12_readGrow_B113 K30 x1 x2 T7
      else
        K30 0 T7
    else
      f_X12_readGrow_B113 K30 x1 x2 T3
def f_X12_readGrow_L30 : Nat → Int32 → zS → Option zS
  | 0, _, _ => none
  | n + 1, x1, S =>
    if x1 = 0 then
      f_X12_readGrow_B157 S
    else
      if (S.1 0 2) = 0 then
        zb (f_X12_sign S) fun r5 T4 =>
        if (T4.1 0 6) = 41 then
          zb (f_X12_hasBracket T4) fun r9 T8 =>
          if r9 = 0 then
            f_X12_readGrow_B94 (f_X12_readGrow_L30 n) x1 r5 T8
          else
            zu (f_X12_close 0 T8) fun T12 =>
            zlet (zput T12 0 19 ((T12.1 0 19) - 1)) fun T13 =>
            zlet (zput T13 0 23 ((T13.1 0 23) - 1)) fun T14 =>
            zu (f_X12_token T14) fun T16 =>
            (f_X12_readGrow_L30 n) x1 T16
        else
          f_X12_readGrow_B94 (f_X12_readGrow_L30 n) x1 r5 T4
      else
        f_X12_readGrow_B157 S
def f_X12_readGrow  (S : zS) : Option zS :=
  zu (f_X12_token S) fun T2 =>
  zlet (zput T2 0 17 0) fun T3 =>
  zlet (zput T3 0 19 0) fun T4 =>
  zlet (zput T4 0 23 0) fun T5 =>
  zlet (zput T5 0 22 0) fun T6 =>
  zu (f_X12_unit T6) fun T8 =>
  f_X12_readGrow_L30 zN 1 T8
set_option maxRecDepth 100000 in
theorem w_X12_readGrow_B176 (l : Launch) {S1 : zS}  (S : zS) (h : f_X12_readGrow_B176 S = some S1) : WA zLM l RX12 cX12_readGrow 3 none 5 none S1 176 [(0, .ref 0)] [] S := by
  unfold f_X12_readGrow_B176 at h
  refine z_aload_n (pc := 176) (q := 0) dX12_readGrow_176 rfl rfl ?_
  refine z_getI (pc := 177) dX12_readGrow_177 zf_X12_173 gM_0_2 ?_
  refine z_if_ne (pc := 180) (tgt := 188) dX12_readGrow_180 (by decide) (fun c1 => ?_) (fun c1 => ?_)
  · have h := ze_some c1 h
    cases h
    exact z_vret dX12_readGrow_188
  · have h := zt_some c1 h
    refine z_aload_n (pc := 183) (q := 0) dX12_readGrow_183 rfl rfl ?_
    refine z_iconst (pc := 184) (v := 0) dX12_readGrow_184 zci_0 ?_
    obtain ⟨T3, q2, h⟩ := zu_some h
    refine z_callVv (pc := 185) (st := []) [.int 0] dX12_readGrow_185 zm_X12_301 zM_X12_close (by decide) oM_0 rfl (w_X12_close l q2) rfl rfl (Nat.le_of_ble_eq_true rfl) ?_
    cases h
    exact z_vret dX12_readGrow_188
set_option maxRecDepth 100000 in
theorem w_X12_readGrow_B157 (l : Launch) {S1 : zS}  (S : zS) (h : f_X12_readGrow_B157 S = some S1) : WA zLM l RX12 cX12_readGrow 3 none 5 none S1 157 [(0, .ref 0)] [] S := by
  unfold f_X12_readGrow_B157 at h
  refine z_aload_n (pc := 157) (q := 0) dX12_readGrow_157 rfl rfl ?_
  refine z_getI (pc := 158) dX12_readGrow_158 zf_X12_173 gM_0_2 ?_
  refine z_if_ne (pc := 161) (tgt := 176) dX12_readGrow_161 (by decide) (fun c1 => ?_) (fun c1 => ?_)
  · have h := ze_some c1 h
    exact w_X12_readGrow_B176 l S h
  · have h := zt_some c1 h
    refine z_aload_n (pc := 164) (q := 0) dX12_readGrow_164 rfl rfl ?_
    obtain ⟨r4, T3, q2, h⟩ := zb_some h
    refine z_callVi (pc := 165) (st := []) [] dX12_readGrow_165 zm_X12_298 zM_X12_hasBracket (by decide) oM_0 rfl (w_X12_hasBracket l q2) rfl rfl (Nat.le_of_ble_eq_true rfl) ?_
    refine z_if_eq (pc := 168) (tgt := 176) dX12_readGrow_168 (by decide) (fun c5 => ?_) (fun c5 => ?_)
    · have h := zt_some c5 h
      exact w_X12_readGrow_B176 l T3 h
    · have h := ze_some c5 h
      refine z_aload_n (pc := 171) (q := 0) dX12_readGrow_171 rfl rfl ?_
      refine z_iconst (pc := 172) (v := 2) dX12_readGrow_172 zci_2 ?_
      obtain ⟨T7, q6, h⟩ := zu_some h
      refine z_callVv (pc := 173) (st := []) [.int 2] dX12_readGrow_173 zm_X12_232 zM_X12_wrong (by decide) oM_0 rfl (w_X12_wrong l q6) rfl rfl (Nat.le_of_ble_eq_true rfl) ?_
      exact w_X12_readGrow_B176 l T7 h
set_option maxRecDepth 100000 in
theorem w_X12_readGrow_B113 (l : Launch) {S1 : zS} (K30 : Int32 → zS → Option zS) (hK30 : ∀ (x1 : Int32) (S : zS), K30 x1 S = some S1 → WA zLM l RX12 cX12_readGrow 3 none 5 none S1 30 [(0, .ref 0), (1, .int x1)] [] S) (x1 : Int32) (x2 : Int32) (S : zS) (h : f_X12_readGrow_B113 K30 x1 x2 S = some S1) : WA zLM l RX12 cX12_readGrow 3 none 5 none S1 113 [(0, .ref 0), (1, .int x1), (2, .int x2)] [] S := by
  unfold f_X12_readGrow_B113 at h
  refine z_aload_n (pc := 113) (q := 0) dX12_readGrow_113 rfl rfl ?_
  refine z_iload_n (pc := 114) (q := 2) dX12_readGrow_114 rfl rfl ?_
  obtain ⟨r3, T2, q1, h⟩ := zb_some h
  refine z_callSi (pc := 115) (st := [.ref 0]) [.int x2] dX12_readGrow_115 zm_X12_260 zM_X12_tight (by decide) (w_X12_tight l q1) rfl rfl (Nat.le_of_ble_eq_true rfl) ?_
  obtain ⟨T5, q4, h⟩ := zu_some h
  refine z_callVv (pc := 118) (st := []) [.int r3] dX12_readGrow_118 zm_X12_301 zM_X12_close (by decide) oM_0 rfl (w_X12_close l q4) rfl rfl (Nat.le_of_ble_eq_true rfl) ?_
  refine z_aload_n (pc := 121) (q := 0) dX12_readGrow_121 rfl rfl ?_
  refine z_getR (pc := 122) dX12_readGrow_122 zf_X12_33 gM_0_15 ?_
  refine z_aload_n (pc := 125) (q := 0) dX12_readGrow_125 rfl rfl ?_
  refine z_getI (pc := 126) dX12_readGrow_126 zf_X12_257 gM_0_19 ?_
  refine z_iload_n (pc := 129) (q := 2) dX12_readGrow_129 rfl rfl ?_
  obtain ⟨c6, h⟩ := zg_some h
  obtain ⟨T7, eT7, h⟩ := zl_some h
  refine z_iast (pc := 130) dX12_readGrow_130 aM_7 c6 eT7 ?_
  refine z_aload_n (pc := 131) (q := 0) dX12_readGrow_131 rfl rfl ?_
  refine z_dup (pc := 132) dX12_readGrow_132 rfl ?_
  refine z_getI (pc := 133) dX12_readGrow_133 zf_X12_257 gM_0_19 ?_
  refine z_iconst (pc := 136) (v := 1) dX12_readGrow_136 zci_1 ?_
  refine z_iadd (pc := 137) dX12_readGrow_137 ?_
  obtain ⟨T8, eT8, h⟩ := zl_some h
  refine z_putI (pc := 138) dX12_readGrow_138 zp_X12_257 gM_0_19 rfl rfl eT8 ?_
  refine z_aload_n (pc := 141) (q := 0) dX12_readGrow_141 rfl rfl ?_
  obtain ⟨T10, q9, h⟩ := zu_some h
  refine z_callVv (pc := 142) (st := []) [] dX12_readGrow_142 zm_X12_235 zM_X12_token (by decide) oM_0 rfl (w_X12_token l q9) rfl rfl (Nat.le_of_ble_eq_true rfl) ?_
  refine z_aload_n (pc := 145) (q := 0) dX12_readGrow_145 rfl rfl ?_
  obtain ⟨T12, q11, h⟩ := zu_some h
  refine z_callVv (pc := 146) (st := []) [] dX12_readGrow_146 zm_X12_292 zM_X12_unit (by decide) oM_0 rfl (w_X12_unit l q11) rfl rfl (Nat.le_of_ble_eq_true rfl) ?_
  refine z_goto (pc := 149) (tgt := 154) dX12_readGrow_149 (by decide) ?_
  refine z_goto (pc := 154) (tgt := 30) dX12_readGrow_154 (by decide) ?_
  exact z_sub [0, 1] rfl (hK30 x1 T12 h)
set_option maxRecDepth 100000 in
theorem w_X12_readGrow_B94 (l : Launch) {S1 : zS} (K30 : Int32 → zS → Option zS) (hK30 : ∀ (x1 : Int32) (S : zS), K30 x1 S = some S1 → WA zLM l RX12 cX12_readGrow 3 none 5 none S1 30 [(0, .ref 0), (1, .int x1)] [] S) (x1 : Int32) (x2 : Int32) (S : zS) (h : f_X12_readGrow_B94 K30 x1 x2 S = some S1) : WA zLM l RX12 cX12_readGrow 3 none 5 none S1 94 [(0, .ref 0), (1, .int x1), (2, .int x2)] [] S := by
  unfold f_X12_readGrow_B94 at h
  refine z_iload_n (pc := 94) (q := 2) dX12_readGrow_94 rfl rfl ?_
  refine z_if_eq (pc := 95) (tgt := 152) dX12_readGrow_95 (by decide) (fun c1 => ?_) (fun c1 => ?_)
  · have h := zt_some c1 h
    refine z_iconst (pc := 152) (v := 0) dX12_readGrow_152 zci_0 ?_
    refine z_istore_n (pc := 153) (lo' := [(1, .int 0), (0, .ref 0), (2, .int x2)]) dX12_readGrow_153 rfl (by decide) rfl ?_
    refine z_goto (pc := 154) (tgt := 30) dX12_readGrow_154 (by decide) ?_
    exact z_sub [1, 0] rfl (hK30 0 S h)
  · have h := ze_some c1 h
    refine z_iload_n (pc := 98) (q := 2) dX12_readGrow_98 rfl rfl ?_
    obtain ⟨r4, T3, q2, h⟩ := zb_some h
    refine z_callSi (pc := 99) (st := []) [.int x2] dX12_readGrow_99 zm_X12_260 zM_X12_tight (by decide) (w_X12_tight l q2) rfl rfl (Nat.le_of_ble_eq_true rfl) ?_
    refine z_iconst (pc := 102) (v := 4) dX12_readGrow_102 zci_4 ?_
    refine z_icmp_ne (pc := 103) (tgt := 113) dX12_readGrow_103 (by decide) (fun c5 => ?_) (fun c5 => ?_)
    · have h := ze_some c5 h
      exact w_X12_readGrow_B113 l K30 hK30 x1 x2 T3 h
    · have h := zt_some c5 h
      refine z_aload_n (pc := 106) (q := 0) dX12_readGrow_106 rfl rfl ?_
      obtain ⟨r8, T7, q6, h⟩ := zb_some h
      refine z_callVi (pc := 107) (st := []) [] dX12_readGrow_107 zm_X12_304 zM_X12_hasRelation (by decide) oM_0 rfl (w_X12_hasRelation l q6) rfl rfl (Nat.le_of_ble_eq_true rfl) ?_
      refine z_if_ne (pc := 110) (tgt := 152) dX12_readGrow_110 (by decide) (fun c9 => ?_) (fun c9 => ?_)
      · have h := ze_some c9 h
        refine z_iconst (pc := 152) (v := 0) dX12_readGrow_152 zci_0 ?_
        refine z_istore_n (pc := 153) (lo' := [(1, .int 0), (0, .ref 0), (2, .int x2)]) dX12_readGrow_153 rfl (by decide) rfl ?_
        refine z_goto (pc := 154) (tgt := 30) dX12_readGrow_154 (by decide) ?_
        exact z_sub [1, 0] rfl (hK30 0 T7 h)
      · have h := zt_some c9 h
        exact w_X12_readGrow_B113 l K30 hK30 x1 x2 T7 h
set_option maxRecDepth 100000 in
theorem w_X12_readGrow_L30 (l : Launch) {S1 : zS} : ∀ (n : Nat) (x1 : Int32) (S : zS), f_X12_readGrow_L30 n x1 S = some S1 → WA zLM l RX12 cX12_readGrow 3 none 5 none S1 30 [(0, .ref 0), (1, .int x1)] [] S := by
  intro n
  induction n with
  | zero =>
    intro x1 S h
    exact nomatch h
  | succ n ih =>
    intro x1 S h
    rw [f_X12_readGrow_L30] at h
    refine z_iload_n (pc := 30) (q := 1) dX12_readGrow_30 rfl rfl ?_
    refine z_if_eq (pc := 31) (tgt := 157) dX12_readGrow_31 (by decide) (fun c1 => ?_) (fun c1 => ?_)
    · have h := zt_some c1 h
      exact z_sub [0] rfl (w_X12_readGrow_B157 l S h)
    · have h := ze_some c1 h
      refine z_aload_n (pc := 34) (q := 0) dX12_readGrow_34 rfl rfl ?_
      refine z_getI (pc := 35) dX12_readGrow_35 zf_X12_173 gM_0_2 ?_
      refine z_if_ne (pc := 38) (tgt := 157) dX12_readGrow_38 (by decide) (fun c2 => ?_) (fun c2 => ?_)
      · have h := ze_some c2 h
        exact z_sub [0] rfl (w_X12_readGrow_B157 l S h)
      · have h := zt_some c2 h
        refine z_aload_n (pc := 41) (q := 0) dX12_readGrow_41 rfl rfl ?_
        obtain ⟨r5, T4, q3, h⟩ := zb_some h
        refine z_callVi (pc := 42) (st := []) [] dX12_readGrow_42 zm_X12_295 zM_X12_sign (by decide) oM_0 rfl (w_X12_sign l q3) rfl rfl (Nat.le_of_ble_eq_true rfl) ?_
        refine z_istore_n (pc := 45) (lo' := [(2, .int r5), (0, .ref 0), (1, .int x1)]) dX12_readGrow_45 rfl (by decide) rfl ?_
        refine z_aload_n (pc := 46) (q := 1) dX12_readGrow_46 rfl rfl ?_
        refine z_getI (pc := 47) dX12_readGrow_47 zf_X12_160 gM_0_6 ?_
        refine z_bipush (pc := 50) (v := 41) dX12_readGrow_50 zcb_41 ?_
        refine z_icmp_ne (pc := 52) (tgt := 94) dX12_readGrow_52 (by decide) (fun c6 => ?_) (fun c6 => ?_)
        · have h := ze_some c6 h
          exact z_sub [1, 2, 0] rfl (w_X12_readGrow_B94 l (f_X12_readGrow_L30 n) ih x1 r5 T4 h)
        · have h := zt_some c6 h
          refine z_aload_n (pc := 55) (q := 1) dX12_readGrow_55 rfl rfl ?_
          obtain ⟨r9, T8, q7, h⟩ := zb_some h
          refine z_callVi (pc := 56) (st := []) [] dX12_readGrow_56 zm_X12_298 zM_X12_hasBracket (by decide) oM_0 rfl (w_X12_hasBracket l q7) rfl rfl (Nat.le_of_ble_eq_true rfl) ?_
          refine z_if_eq (pc := 59) (tgt := 94) dX12_readGrow_59 (by decide) (fun c10 => ?_) (fun c10 => ?_)
          · have h := zt_some c10 h
            exact z_sub [1, 2, 0] rfl (w_X12_readGrow_B94 l (f_X12_readGrow_L30 n) ih x1 r5 T8 h)
          · have h := ze_some c10 h
            refine z_aload_n (pc := 62) (q := 1) dX12_readGrow_62 rfl rfl ?_
            refine z_iconst (pc := 63) (v := 0) dX12_readGrow_63 zci_0 ?_
            obtain ⟨T12, q11, h⟩ := zu_some h
            refine z_callVv (pc := 64) (st := []) [.int 0] dX12_readGrow_64 zm_X12_301 zM_X12_close (by decide) oM_0 rfl (w_X12_close l q11) rfl rfl (Nat.le_of_ble_eq_true rfl) ?_
            refine z_aload_n (pc := 67) (q := 1) dX12_readGrow_67 rfl rfl ?_
            refine z_dup (pc := 68) dX12_readGrow_68 rfl ?_
            refine z_getI (pc := 69) dX12_readGrow_69 zf_X12_257 gM_0_19 ?_
            refine z_iconst (pc := 72) (v := 1) dX12_readGrow_72 zci_1 ?_
            refine z_isub (pc := 73) dX12_readGrow_73 ?_
            obtain ⟨T13, eT13, h⟩ := zl_some h
            refine z_putI (pc := 74) dX12_readGrow_74 zp_X12_257 gM_0_19 rfl rfl eT13 ?_
            refine z_aload_n (pc := 77) (q := 1) dX12_readGrow_77 rfl rfl ?_
            refine z_dup (pc := 78) dX12_readGrow_78 rfl ?_
            refine z_getI (pc := 79) dX12_readGrow_79 zf_X12_267 gM_0_23 ?_
            refine z_iconst (pc := 82) (v := 1) dX12_readGrow_82 zci_1 ?_
            refine z_isub (pc := 83) dX12_readGrow_83 ?_
            obtain ⟨T14, eT14, h⟩ := zl_some h
            refine z_putI (pc := 84) dX12_readGrow_84 zp_X12_267 gM_0_23 rfl rfl eT14 ?_
            refine z_aload_n (pc := 87) (q := 1) dX12_readGrow_87 rfl rfl ?_
            obtain ⟨T16, q15, h⟩ := zu_some h
            refine z_callVv (pc := 88) (st := []) [] dX12_readGrow_88 zm_X12_235 zM_X12_token (by decide) oM_0 rfl (w_X12_token l q15) rfl rfl (Nat.le_of_ble_eq_true rfl) ?_
            refine z_goto (pc := 91) (tgt := 154) dX12_readGrow_91 (by decide) ?_
            refine z_goto (pc := 154) (tgt := 30) dX12_readGrow_154 (by decide) ?_
            exact z_sub [1, 2] rfl (ih x1 T16 h)
set_option maxRecDepth 100000 in
theorem w_X12_readGrow (l : Launch)  {S : zS} {S1 : zS} (h : f_X12_readGrow S = some S1) : zMet zLM l yX12_readGrow cX12_readGrow 3 none 5 [.ref 0] S none S1 := by
  unfold f_X12_readGrow at h
  refine zMet.of (by decide +kernel) (Nat.le_of_ble_eq_true rfl) ?_
  show WA zLM l RX12 cX12_readGrow 3 none 5 none S1 0 [(0, .ref 0)] [] S
  refine z_aload_n (pc := 0) (q := 0) dX12_readGrow_0 rfl rfl ?_
  obtain ⟨T2, q1, h⟩ := zu_some h
  refine z_callVv (pc := 1) (st := []) [] dX12_readGrow_1 zm_X12_235 zM_X12_token (by decide) oM_0 rfl (w_X12_token l q1) rfl rfl (Nat.le_of_ble_eq_true rfl) ?_
  refine z_aload_n (pc := 4) (q := 0) dX12_readGrow_4 rfl rfl ?_
  refine z_iconst (pc := 5) (v := 0) dX12_readGrow_5 zci_0 ?_
  obtain ⟨T3, eT3, h⟩ := zl_some h
  refine z_putI (pc := 6) dX12_readGrow_6 zp_X12_254 gM_0_17 rfl rfl eT3 ?_
  refine z_aload_n (pc := 9) (q := 0) dX12_readGrow_9 rfl rfl ?_
  refine z_iconst (pc := 10) (v := 0) dX12_readGrow_10 zci_0 ?_
  obtain ⟨T4, eT4, h⟩ := zl_some h
  refine z_putI (pc := 11) dX12_readGrow_11 zp_X12_257 gM_0_19 rfl rfl eT4 ?_
  refine z_aload_n (pc := 14) (q := 0) dX12_readGrow_14 rfl rfl ?_
  refine z_iconst (pc := 15) (v := 0) dX12_readGrow_15 zci_0 ?_
  obtain ⟨T5, eT5, h⟩ := zl_some h
  refine z_putI (pc := 16) dX12_readGrow_16 zp_X12_267 gM_0_23 rfl rfl eT5 ?_
  refine z_aload_n (pc := 19) (q := 0) dX12_readGrow_19 rfl rfl ?_
  refine z_iconst (pc := 20) (v := 0) dX12_readGrow_20 zci_0 ?_
  obtain ⟨T6, eT6, h⟩ := zl_some h
  refine z_putI (pc := 21) dX12_readGrow_21 zp_X12_273 gM_0_22 rfl rfl eT6 ?_
  refine z_aload_n (pc := 24) (q := 0) dX12_readGrow_24 rfl rfl ?_
  obtain ⟨T8, q7, h⟩ := zu_some h
  refine z_callVv (pc := 25) (st := []) [] dX12_readGrow_25 zm_X12_292 zM_X12_unit (by decide) oM_0 rfl (w_X12_unit l q7) rfl rfl (Nat.le_of_ble_eq_true rfl) ?_
  refine z_iconst (pc := 28) (v := 1) dX12_readGrow_28 zci_1 ?_
  refine z_istore_n (pc := 29) (lo' := [(1, .int 1), (0, .ref 0)]) dX12_readGrow_29 rfl (by decide) rfl ?_
  exact z_sub [1, 0] rfl (w_X12_readGrow_L30 l zN 1 T8 h)
def f_X12_truth (x0 : Int32) (S : zS) : Option (Int32 × zS) :=
  if x0 = 0 then
    some (0, S)
  else
    some (1, S)
set_option maxRecDepth 100000 in
theorem w_X12_truth (l : Launch) {x0 : Int32} {S : zS} {r : Int32} {S1 : zS} (h : f_X12_truth x0 S = some (r, S1)) : zMet zLM l yX12_truth cX12_truth 1 (some .int) 1 [.int x0] S (some (.int r)) S1 := by
  unfold f_X12_truth at h
  refine zMet.of (by decide +kernel) (Nat.le_of_ble_eq_true rfl) ?_
  show WA zLM l RX12 cX12_truth 1 (some .int) 1 (some (.int r)) S1 0 [(0, .int x0)] [] S
  refine z_iload_n (pc := 0) (q := 0) dX12_truth_0 rfl rfl ?_
  refine z_if_eq (pc := 1) (tgt := 8) dX12_truth_1 (by decide) (fun c1 => ?_) (fun c1 => ?_)
  · have h := zt_some c1 h
    refine z_iconst (pc := 8) (v := 0) dX12_truth_8 zci_0 ?_
    obtain ⟨rfl, rfl⟩ := zr_some h
    exact z_iret dX12_truth_9
  · have h := ze_some c1 h
    refine z_iconst (pc := 4) (v := 1) dX12_truth_4 zci_1 ?_
    refine z_goto (pc := 5) (tgt := 9) dX12_truth_5 (by decide) ?_
    obtain ⟨rfl, rfl⟩ := zr_some h
    exact z_iret dX12_truth_9
def f_X12_done_B211 (s0 : Int32) (S : zS) : Option (Int32 × zS) :=
  zb (f_X12_truth s0 S) fun r3 T2 =>
  some (r3, T2)
def f_X12_done_B166 (s0 : Int32) (S : zS) : Option (Int32 × zS) :=
  zb (f_X12_truth s0 S) fun r3 T2 =>
  some (r3, T2)
def f_X12_done_B194 (s0 : Int32) (S : zS) : Option (Int32 × zS) :=
  zb (f_X12_truth s0 S) fun r3 T2 =>
  some (r3, T2)
def f_X12_done_B180 (s0 : Int32) (S : zS) : Option (Int32 × zS) :=
  zb (f_X12_truth s0 S) fun r3 T2 =>
  some (r3, T2)
def f_X12_done_B228 (s0 : Int32) (S : zS) : Option (Int32 × zS) :=
  zb (f_X12_truth s0 S) fun r3 T2 =>
  some (r3, T2)
def f_X12_done (x0 : Int32) (x1 : Int32) (x2 : Int32) (S : zS) : Option (Int32 × zS) :=
  if x0 = 37 then
    if x2 = 0 then
      some (0, S)
    else
      if ¬ x2 = 0 then
      some (zrem x1 x2, S) else none
  else
    if x0 = 38 then
      if x1 = 0 then
        f_X12_done_B211 0 S
      else
        if x2 = 0 then
          f_X12_done_B211 0 S
        else
          f_X12_done_B211 1 S
    else
      if x0 = 42 then
        some (x1 * x2, S)
      else
        if x0 = 43 then
          some (x1 + x2, S)
        else
          if x0 = 45 then
            some (x1 - x2, S)
          else
            if x0 = 47 then
              if x2 = 0 then
                some (0, S)
              else
                if ¬ x2 = 0 then
                some (x1 / x2, S) else none
            else
              if x0 = 60 then
                if x1 < x2 then
                  f_X12_done_B166 1 S
                else
                  f_X12_done_B166 0 S
              else
                if x0 = 61 then
                  if x1 = x2 then
                    f_X12_done_B194 1 S
                  else
                    f_X12_done_B194 0 S
                else
                  if x0 = 62 then
                    if x2 < x1 then
                      f_X12_done_B180 1 S
                    else
                      f_X12_done_B180 0 S
                  else
                    if x1 = 0 then
                      if x2 = 0 then
                        f_X12_done_B228 0 S
                      else
                        f_X12_done_B228 1 S
                    else
                      f_X12_done_B228 1 S
set_option maxRecDepth 100000 in
theorem w_X12_done_B211 (l : Launch) {r : Int32} {S1 : zS} (s0 : Int32) (S : zS) (h : f_X12_done_B211 s0 S = some (r, S1)) : WA zLM l RX12 cX12_done 3 (some .int) 2 (some (.int r)) S1 211 [] [.int s0] S := by
  unfold f_X12_done_B211 at h
  obtain ⟨r3, T2, q1, h⟩ := zb_some h
  refine z_callSi (pc := 211) (st := []) [.int s0] dX12_done_211 zm_X12_307 zM_X12_truth (by decide) (w_X12_truth l q1) rfl rfl (Nat.le_of_ble_eq_true rfl) ?_
  obtain ⟨rfl, rfl⟩ := zr_some h
  exact z_iret dX12_done_214
set_option maxRecDepth 100000 in
theorem w_X12_done_B166 (l : Launch) {r : Int32} {S1 : zS} (s0 : Int32) (S : zS) (h : f_X12_done_B166 s0 S = some (r, S1)) : WA zLM l RX12 cX12_done 3 (some .int) 2 (some (.int r)) S1 166 [] [.int s0] S := by
  unfold f_X12_done_B166 at h
  obtain ⟨r3, T2, q1, h⟩ := zb_some h
  refine z_callSi (pc := 166) (st := []) [.int s0] dX12_done_166 zm_X12_307 zM_X12_truth (by decide) (w_X12_truth l q1) rfl rfl (Nat.le_of_ble_eq_true rfl) ?_
  obtain ⟨rfl, rfl⟩ := zr_some h
  exact z_iret dX12_done_169
set_option maxRecDepth 100000 in
theorem w_X12_done_B194 (l : Launch) {r : Int32} {S1 : zS} (s0 : Int32) (S : zS) (h : f_X12_done_B194 s0 S = some (r, S1)) : WA zLM l RX12 cX12_done 3 (some .int) 2 (some (.int r)) S1 194 [] [.int s0] S := by
  unfold f_X12_done_B194 at h
  obtain ⟨r3, T2, q1, h⟩ := zb_some h
  refine z_callSi (pc := 194) (st := []) [.int s0] dX12_done_194 zm_X12_307 zM_X12_truth (by decide) (w_X12_truth l q1) rfl rfl (Nat.le_of_ble_eq_true rfl) ?_
  obtain ⟨rfl, rfl⟩ := zr_some h
  exact z_iret dX12_done_197
set_option maxRecDepth 100000 in
theorem w_X12_done_B180 (l : Launch) {r : Int32} {S1 : zS} (s0 : Int32) (S : zS) (h : f_X12_done_B180 s0 S = some (r, S1)) : WA zLM l RX12 cX12_done 3 (some .int) 2 (some (.int r)) S1 180 [] [.int s0] S := by
  unfold f_X12_done_B180 at h
  obtain ⟨r3, T2, q1, h⟩ := zb_some h
  refine z_callSi (pc := 180) (st := []) [.int s0] dX12_done_180 zm_X12_307 zM_X12_truth (by decide) (w_X12_truth l q1) rfl rfl (Nat.le_of_ble_eq_true rfl) ?_
  obtain ⟨rfl, rfl⟩ := zr_some h
  exact z_iret dX12_done_183
set_option maxRecDepth 100000 in
theorem w_X12_done_B228 (l : Launch) {r : Int32} {S1 : zS} (s0 : Int32) (S : zS) (h : f_X12_done_B228 s0 S = some (r, S1)) : WA zLM l RX12 cX12_done 3 (some .int) 2 (some (.int r)) S1 228 [] [.int s0] S := by
  unfold f_X12_done_B228 at h
  obtain ⟨r3, T2, q1, h⟩ := zb_some h
  refine z_callSi (pc := 228) (st := []) [.int s0] dX12_done_228 zm_X12_307 zM_X12_truth (by decide) (w_X12_truth l q1) rfl rfl (Nat.le_of_ble_eq_true rfl) ?_
  obtain ⟨rfl, rfl⟩ := zr_some h
  exact z_iret dX12_done_231
set_option maxRecDepth 100000 in
theorem w_X12_done (l : Launch) {x0 : Int32} {x1 : Int32} {x2 : Int32} {S : zS} {r : Int32} {S1 : zS} (h : f_X12_done x0 x1 x2 S = some (r, S1)) : zMet zLM l yX12_done cX12_done 3 (some .int) 2 [.int x0, .int x1, .int x2] S (some (.int r)) S1 := by
  unfold f_X12_done at h
  refine zMet.of (by decide +kernel) (Nat.le_of_ble_eq_true rfl) ?_
  show WA zLM l RX12 cX12_done 3 (some .int) 2 (some (.int r)) S1 0 [(0, .int x0), (1, .int x1), (2, .int x2)] [] S
  refine z_iload_n (pc := 0) (q := 0) dX12_done_0 rfl rfl ?_
  refine z_tsw (pc := 1) 215 [(37, 144), (38, 198), (42, 128), (43, 120), (45, 124), (47, 132), (60, 156), (61, 184), (62, 170)] dX12_done_1 (by decide) (by decide +kernel) (by decide +kernel) ?_
  refine zsw_c (fun c1 => ?_) (fun c1 => ?_)
  · have h := zt_some c1 h
    refine z_iload_n (pc := 144) (q := 2) dX12_done_144 rfl rfl ?_
    refine z_if_ne (pc := 145) (tgt := 152) dX12_done_145 (by decide) (fun c2 => ?_) (fun c2 => ?_)
    · have h := ze_some c2 h
      refine z_iload_n (pc := 152) (q := 1) dX12_done_152 rfl rfl ?_
      refine z_iload_n (pc := 153) (q := 2) dX12_done_153 rfl rfl ?_
      obtain ⟨c3, h⟩ := zg_some h
      refine z_irem (pc := 154) dX12_done_154 c3 ?_
      refine zrem_fold ?_
      obtain ⟨rfl, rfl⟩ := zr_some h
      exact z_iret dX12_done_155
    · have h := zt_some c2 h
      refine z_iconst (pc := 148) (v := 0) dX12_done_148 zci_0 ?_
      refine z_goto (pc := 149) (tgt := 155) dX12_done_149 (by decide) ?_
      obtain ⟨rfl, rfl⟩ := zr_some h
      exact z_iret dX12_done_155
  · have h := ze_some c1 h
    refine zsw_c (fun c2 => ?_) (fun c2 => ?_)
    · have h := zt_some c2 h
      refine z_iload_n (pc := 198) (q := 1) dX12_done_198 rfl rfl ?_
      refine z_if_eq (pc := 199) (tgt := 210) dX12_done_199 (by decide) (fun c3 => ?_) (fun c3 => ?_)
      · have h := zt_some c3 h
        refine z_iconst (pc := 210) (v := 0) dX12_done_210 zci_0 ?_
        exact z_sub [] rfl (w_X12_done_B211 l 0 S h)
      · have h := ze_some c3 h
        refine z_iload_n (pc := 202) (q := 2) dX12_done_202 rfl rfl ?_
        refine z_if_eq (pc := 203) (tgt := 210) dX12_done_203 (by decide) (fun c4 => ?_) (fun c4 => ?_)
        · have h := zt_some c4 h
          refine z_iconst (pc := 210) (v := 0) dX12_done_210 zci_0 ?_
          exact z_sub [] rfl (w_X12_done_B211 l 0 S h)
        · have h := ze_some c4 h
          refine z_iconst (pc := 206) (v := 1) dX12_done_206 zci_1 ?_
          refine z_goto (pc := 207) (tgt := 211) dX12_done_207 (by decide) ?_
          exact z_sub [] rfl (w_X12_done_B211 l 1 S h)
    · have h := ze_some c2 h
      refine zsw_c (fun c3 => ?_) (fun c3 => ?_)
      · have h := zt_some c3 h
        refine z_iload_n (pc := 128) (q := 1) dX12_done_128 rfl rfl ?_
        refine z_iload_n (pc := 129) (q := 2) dX12_done_129 rfl rfl ?_
        refine z_imul (pc := 130) dX12_done_130 ?_
        obtain ⟨rfl, rfl⟩ := zr_some h
        exact z_iret dX12_done_131
      · have h := ze_some c3 h
        refine zsw_c (fun c4 => ?_) (fun c4 => ?_)
        · have h := zt_some c4 h
          refine z_iload_n (pc := 120) (q := 1) dX12_done_120 rfl rfl ?_
          refine z_iload_n (pc := 121) (q := 2) dX12_done_121 rfl rfl ?_
          refine z_iadd (pc := 122) dX12_done_122 ?_
          obtain ⟨rfl, rfl⟩ := zr_some h
          exact z_iret dX12_done_123
        · have h := ze_some c4 h
          refine zsw_c (fun c5 => ?_) (fun c5 => ?_)
          · have h := zt_some c5 h
            refine z_iload_n (pc := 124) (q := 1) dX12_done_124 rfl rfl ?_
            refine z_iload_n (pc := 125) (q := 2) dX12_done_125 rfl rfl ?_
            refine z_isub (pc := 126) dX12_done_126 ?_
            obtain ⟨rfl, rfl⟩ := zr_some h
            exact z_iret dX12_done_127
          · have h := ze_some c5 h
            refine zsw_c (fun c6 => ?_) (fun c6 => ?_)
            · have h := zt_some c6 h
              refine z_iload_n (pc := 132) (q := 2) dX12_done_132 rfl rfl ?_
              refine z_if_ne (pc := 133) (tgt := 140) dX12_done_133 (by decide) (fun c7 => ?_) (fun c7 => ?_)
              · have h := ze_some c7 h
                refine z_iload_n (pc := 140) (q := 1) dX12_done_140 rfl rfl ?_
                refine z_iload_n (pc := 141) (q := 2) dX12_done_141 rfl rfl ?_
                obtain ⟨c8, h⟩ := zg_some h
                refine z_idiv (pc := 142) dX12_done_142 c8 ?_
                obtain ⟨rfl, rfl⟩ := zr_some h
                exact z_iret dX12_done_143
              · have h := zt_some c7 h
                refine z_iconst (pc := 136) (v := 0) dX12_done_136 zci_0 ?_
                refine z_goto (pc := 137) (tgt := 143) dX12_done_137 (by decide) ?_
                obtain ⟨rfl, rfl⟩ := zr_some h
                exact z_iret dX12_done_143
            · have h := ze_some c6 h
              refine zsw_c (fun c7 => ?_) (fun c7 => ?_)
              · have h := zt_some c7 h
                refine z_iload_n (pc := 156) (q := 1) dX12_done_156 rfl rfl ?_
                refine z_iload_n (pc := 157) (q := 2) dX12_done_157 rfl rfl ?_
                refine z_icmp_ge (pc := 158) (tgt := 165) dX12_done_158 (by decide) (fun c8 => ?_) (fun c8 => ?_)
                · have h := ze_some c8 h
                  refine z_iconst (pc := 165) (v := 0) dX12_done_165 zci_0 ?_
                  exact z_sub [] rfl (w_X12_done_B166 l 0 S h)
                · have h := zt_some c8 h
                  refine z_iconst (pc := 161) (v := 1) dX12_done_161 zci_1 ?_
                  refine z_goto (pc := 162) (tgt := 166) dX12_done_162 (by decide) ?_
                  exact z_sub [] rfl (w_X12_done_B166 l 1 S h)
              · have h := ze_some c7 h
                refine zsw_c (fun c8 => ?_) (fun c8 => ?_)
                · have h := zt_some c8 h
                  refine z_iload_n (pc := 184) (q := 1) dX12_done_184 rfl rfl ?_
                  refine z_iload_n (pc := 185) (q := 2) dX12_done_185 rfl rfl ?_
                  refine z_icmp_ne (pc := 186) (tgt := 193) dX12_done_186 (by decide) (fun c9 => ?_) (fun c9 => ?_)
                  · have h := ze_some c9 h
                    refine z_iconst (pc := 193) (v := 0) dX12_done_193 zci_0 ?_
                    exact z_sub [] rfl (w_X12_done_B194 l 0 S h)
                  · have h := zt_some c9 h
                    refine z_iconst (pc := 189) (v := 1) dX12_done_189 zci_1 ?_
                    refine z_goto (pc := 190) (tgt := 194) dX12_done_190 (by decide) ?_
                    exact z_sub [] rfl (w_X12_done_B194 l 1 S h)
                · have h := ze_some c8 h
                  refine zsw_c (fun c9 => ?_) (fun c9 => ?_)
                  · have h := zt_some c9 h
                    refine z_iload_n (pc := 170) (q := 1) dX12_done_170 rfl rfl ?_
                    refine z_iload_n (pc := 171) (q := 2) dX12_done_171 rfl rfl ?_
                    refine z_icmp_le (pc := 172) (tgt := 179) dX12_done_172 (by decide) (fun c10 => ?_) (fun c10 => ?_)
                    · have h := ze_some c10 h
                      refine z_iconst (pc := 179) (v := 0) dX12_done_179 zci_0 ?_
                      exact z_sub [] rfl (w_X12_done_B180 l 0 S h)
                    · have h := zt_some c10 h
                      refine z_iconst (pc := 175) (v := 1) dX12_done_175 zci_1 ?_
                      refine z_goto (pc := 176) (tgt := 180) dX12_done_176 (by decide) ?_
                      exact z_sub [] rfl (w_X12_done_B180 l 1 S h)
                  · have h := ze_some c9 h
                    refine zsw_n ?_
                    refine z_iload_n (pc := 215) (q := 1) dX12_done_215 rfl rfl ?_
                    refine z_if_ne (pc := 216) (tgt := 223) dX12_done_216 (by decide) (fun c10 => ?_) (fun c10 => ?_)
                    · have h := ze_some c10 h
                      refine z_iconst (pc := 223) (v := 1) dX12_done_223 zci_1 ?_
                      refine z_goto (pc := 224) (tgt := 228) dX12_done_224 (by decide) ?_
                      exact z_sub [] rfl (w_X12_done_B228 l 1 S h)
                    · have h := zt_some c10 h
                      refine z_iload_n (pc := 219) (q := 2) dX12_done_219 rfl rfl ?_
                      refine z_if_eq (pc := 220) (tgt := 227) dX12_done_220 (by decide) (fun c11 => ?_) (fun c11 => ?_)
                      · have h := zt_some c11 h
                        refine z_iconst (pc := 227) (v := 0) dX12_done_227 zci_0 ?_
                        exact z_sub [] rfl (w_X12_done_B228 l 0 S h)
                      · have h := ze_some c11 h
                        refine z_iconst (pc := 223) (v := 1) dX12_done_223 zci_1 ?_
                        refine z_goto (pc := 224) (tgt := 228) dX12_done_224 (by decide) ?_
                        exact z_sub [] rfl (w_X12_done_B228 l 1 S h)
def f_X12_grown_B74 (K13 : Int32 → Int32 → zS → Option (Int32 × zS)) (x1 : Int32) (x2 : Int32) (s0 : Int32) (s1 : Int32) (S : zS) : Option (Int32 × zS) :=
  if zin s1 64 then
  zlet (zput S 8 s1.toNatClampNeg s0) fun T2 =>
  zlet (x1 + 1) fun v3 =>
  zlet (x2 + 1) fun v4 =>
  K13 v3 v4 T2 else none
def f_X12_grown_B40 (K13 : Int32 → Int32 → zS → Option (Int32 × zS)) (x1 : Int32) (x2 : Int32) (S : zS) : Option (Int32 × zS) :=
  if zin x2 320 then
  if (S.1 5 x2.toNatClampNeg) = 0 then
    if zin x2 320 then
    f_X12_grown_B74 K13 x1 x2 (S.1 6 x2.toNatClampNeg) x1 S else none
  else
    if zin x2 320 then
    if zin (S.1 6 x2.toNatClampNeg) 5 then
    f_X12_grown_B74 K13 x1 x2 (S.1 9 (S.1 6 x2.toNatClampNeg).toNatClampNeg) x1 S else none else none else none
def f_X12_grown_B114 (K13 : Int32 → Int32 → zS → Option (Int32 × zS)) (x1 : Int32) (x2 : Int32) (s0 : Int32) (s1 : Int32) (S : zS) : Option (Int32 × zS) :=
  zb (f_X12_truth s0 S) fun r3 T2 =>
  if zin s1 64 then
  zlet (zput T2 8 s1.toNatClampNeg r3) fun T5 =>
  zlet (x2 + 1) fun v6 =>
  K13 x1 v6 T5 else none
def f_X12_grown_L13 : Nat → Int32 → Int32 → zS → Option (Int32 × zS)
  | 0, _, _, _ => none
  | n + 1, x1, x2, S =>
    if x2 < (S.1 0 18) then
      if zin x2 320 then
      if (S.1 5 x2.toNatClampNeg) = 0 then
        f_X12_grown_B40 (f_X12_grown_L13 n) x1 x2 S
      else
        if zin x2 320 then
        if (S.1 5 x2.toNatClampNeg) = 1 then
          f_X12_grown_B40 (f_X12_grown_L13 n) x1 x2 S
        else
          if zin x2 320 then
          if (S.1 5 x2.toNatClampNeg) = 2 then
            if zin (x1 - 1) 64 then
            if (S.1 8 (x1 - 1).toNatClampNeg) = 0 then
              f_X12_grown_B114 (f_X12_grown_L13 n) x1 x2 1 (x1 - 1) S
            else
              f_X12_grown_B114 (f_X12_grown_L13 n) x1 x2 0 (x1 - 1) S else none
          else
            zlet (x1 + (-1)) fun v8 =>
            if zin x2 320 then
            if zin (v8 - 1) 64 then
            if zin v8 64 then
            zb (f_X12_done (S.1 6 x2.toNatClampNeg) (S.1 8 (v8 - 1).toNatClampNeg) (S.1 8 v8.toNatClampNeg) S) fun r14 T13 =>
            if zin (v8 - 1) 64 then
            zlet (zput T13 8 (v8 - 1).toNatClampNeg r14) fun T16 =>
            zlet (x2 + 1) fun v17 =>
            (f_X12_grown_L13 n) v8 v17 T16 else none else none else none else none else none else none else none
    else
      some (S.1 8 (Int32.toNatClampNeg 0), S)
def f_X12_grown  (S : zS) : Option (Int32 × zS) :=
  if (S.1 0 52) = 0 then
    some (0, S)
  else
    f_X12_grown_L13 zN 0 0 S
set_option maxRecDepth 100000 in
theorem w_X12_grown_B74 (l : Launch) {r : Int32} {S1 : zS} (K13 : Int32 → Int32 → zS → Option (Int32 × zS)) (hK13 : ∀ (x1 : Int32) (x2 : Int32) (S : zS), K13 x1 x2 S = some (r, S1) → WA zLM l RX12 cX12_grown 3 (some .int) 3 (some (.int r)) S1 13 [(0, .ref 0), (1, .int x1), (2, .int x2)] [] S) (x1 : Int32) (x2 : Int32) (s0 : Int32) (s1 : Int32) (S : zS) (h : f_X12_grown_B74 K13 x1 x2 s0 s1 S = some (r, S1)) : WA zLM l RX12 cX12_grown 3 (some .int) 3 (some (.int r)) S1 74 [(0, .ref 0), (1, .int x1), (2, .int x2)] [.int s0, .int s1, .ref 8] S := by
  unfold f_X12_grown_B74 at h
  obtain ⟨c1, h⟩ := zg_some h
  obtain ⟨T2, eT2, h⟩ := zl_some h
  refine z_iast (pc := 74) dX12_grown_74 aM_8 c1 eT2 ?_
  obtain ⟨v3, ev3, h⟩ := zl_some h
  refine z_iinc (pc := 75) (q := 1) (v := v3) (lo' := [(1, .int v3), (0, .ref 0), (2, .int x2)]) dX12_grown_75 rfl (by rw [ev3, zci_1]) (by decide) rfl ?_
  refine z_goto (pc := 78) (tgt := 155) dX12_grown_78 (by decide) ?_
  obtain ⟨v4, ev4, h⟩ := zl_some h
  refine z_iinc (pc := 155) (q := 2) (v := v4) (lo' := [(2, .int v4), (1, .int v3), (0, .ref 0)]) dX12_grown_155 rfl (by rw [ev4, zci_1]) (by decide) rfl ?_
  refine z_goto (pc := 158) (tgt := 13) dX12_grown_158 (by decide) ?_
  exact z_sub [2, 1, 0] rfl (hK13 v3 v4 T2 h)
set_option maxRecDepth 100000 in
theorem w_X12_grown_B40 (l : Launch) {r : Int32} {S1 : zS} (K13 : Int32 → Int32 → zS → Option (Int32 × zS)) (hK13 : ∀ (x1 : Int32) (x2 : Int32) (S : zS), K13 x1 x2 S = some (r, S1) → WA zLM l RX12 cX12_grown 3 (some .int) 3 (some (.int r)) S1 13 [(0, .ref 0), (1, .int x1), (2, .int x2)] [] S) (x1 : Int32) (x2 : Int32) (S : zS) (h : f_X12_grown_B40 K13 x1 x2 S = some (r, S1)) : WA zLM l RX12 cX12_grown 3 (some .int) 3 (some (.int r)) S1 40 [(0, .ref 0), (1, .int x1), (2, .int x2)] [] S := by
  unfold f_X12_grown_B40 at h
  refine z_aload_n (pc := 40) (q := 0) dX12_grown_40 rfl rfl ?_
  refine z_getR (pc := 41) dX12_grown_41 zf_X12_36 gM_0_16 ?_
  refine z_iload_n (pc := 44) (q := 1) dX12_grown_44 rfl rfl ?_
  refine z_aload_n (pc := 45) (q := 0) dX12_grown_45 rfl rfl ?_
  refine z_getR (pc := 46) dX12_grown_46 zf_X12_27 gM_0_13 ?_
  refine z_iload_n (pc := 49) (q := 2) dX12_grown_49 rfl rfl ?_
  obtain ⟨c1, h⟩ := zg_some h
  refine z_iald (pc := 50) dX12_grown_50 aM_5 c1 ?_
  refine z_if_ne (pc := 51) (tgt := 63) dX12_grown_51 (by decide) (fun c2 => ?_) (fun c2 => ?_)
  · have h := ze_some c2 h
    refine z_aload_n (pc := 63) (q := 0) dX12_grown_63 rfl rfl ?_
    refine z_getR (pc := 64) dX12_grown_64 zf_X12_39 gM_0_24 ?_
    refine z_aload_n (pc := 67) (q := 0) dX12_grown_67 rfl rfl ?_
    refine z_getR (pc := 68) dX12_grown_68 zf_X12_30 gM_0_14 ?_
    refine z_iload_n (pc := 71) (q := 2) dX12_grown_71 rfl rfl ?_
    obtain ⟨c3, h⟩ := zg_some h
    refine z_iald (pc := 72) dX12_grown_72 aM_6 c3 ?_
    obtain ⟨c4, h⟩ := zg_some h
    refine z_iald (pc := 73) dX12_grown_73 aM_9 c4 ?_
    exact w_X12_grown_B74 l K13 hK13 x1 x2 (S.1 9 (S.1 6 x2.toNatClampNeg).toNatClampNeg) x1 S h
  · have h := zt_some c2 h
    refine z_aload_n (pc := 54) (q := 0) dX12_grown_54 rfl rfl ?_
    refine z_getR (pc := 55) dX12_grown_55 zf_X12_30 gM_0_14 ?_
    refine z_iload_n (pc := 58) (q := 2) dX12_grown_58 rfl rfl ?_
    obtain ⟨c3, h⟩ := zg_some h
    refine z_iald (pc := 59) dX12_grown_59 aM_6 c3 ?_
    refine z_goto (pc := 60) (tgt := 74) dX12_grown_60 (by decide) ?_
    exact w_X12_grown_B74 l K13 hK13 x1 x2 (S.1 6 x2.toNatClampNeg) x1 S h
set_option maxRecDepth 100000 in
theorem w_X12_grown_B114 (l : Launch) {r : Int32} {S1 : zS} (K13 : Int32 → Int32 → zS → Option (Int32 × zS)) (hK13 : ∀ (x1 : Int32) (x2 : Int32) (S : zS), K13 x1 x2 S = some (r, S1) → WA zLM l RX12 cX12_grown 3 (some .int) 3 (some (.int r)) S1 13 [(0, .ref 0), (1, .int x1), (2, .int x2)] [] S) (x1 : Int32) (x2 : Int32) (s0 : Int32) (s1 : Int32) (S : zS) (h : f_X12_grown_B114 K13 x1 x2 s0 s1 S = some (r, S1)) : WA zLM l RX12 cX12_grown 3 (some .int) 3 (some (.int r)) S1 114 [(0, .ref 0), (1, .int x1), (2, .int x2)] [.int s0, .int s1, .ref 8] S := by
  unfold f_X12_grown_B114 at h
  obtain ⟨r3, T2, q1, h⟩ := zb_some h
  refine z_callSi (pc := 114) (st := [.int s1, .ref 8]) [.int s0] dX12_grown_114 zm_X12_307 zM_X12_truth (by decide) (w_X12_truth l q1) rfl rfl (Nat.le_of_ble_eq_true rfl) ?_
  obtain ⟨c4, h⟩ := zg_some h
  obtain ⟨T5, eT5, h⟩ := zl_some h
  refine z_iast (pc := 117) dX12_grown_117 aM_8 c4 eT5 ?_
  refine z_goto (pc := 118) (tgt := 155) dX12_grown_118 (by decide) ?_
  obtain ⟨v6, ev6, h⟩ := zl_some h
  refine z_iinc (pc := 155) (q := 2) (v := v6) (lo' := [(2, .int v6), (0, .ref 0), (1, .int x1)]) dX12_grown_155 rfl (by rw [ev6, zci_1]) (by decide) rfl ?_
  refine z_goto (pc := 158) (tgt := 13) dX12_grown_158 (by decide) ?_
  exact z_sub [1, 2, 0] rfl (hK13 x1 v6 T5 h)
set_option maxRecDepth 100000 in
theorem w_X12_grown_L13 (l : Launch) {r : Int32} {S1 : zS} : ∀ (n : Nat) (x1 : Int32) (x2 : Int32) (S : zS), f_X12_grown_L13 n x1 x2 S = some (r, S1) → WA zLM l RX12 cX12_grown 3 (some .int) 3 (some (.int r)) S1 13 [(0, .ref 0), (1, .int x1), (2, .int x2)] [] S := by
  intro n
  induction n with
  | zero =>
    intro x1 x2 S h
    exact nomatch h
  | succ n ih =>
    intro x1 x2 S h
    rw [f_X12_grown_L13] at h
    refine z_iload_n (pc := 13) (q := 2) dX12_grown_13 rfl rfl ?_
    refine z_aload_n (pc := 14) (q := 0) dX12_grown_14 rfl rfl ?_
    refine z_getI (pc := 15) dX12_grown_15 zf_X12_315 gM_0_18 ?_
    refine z_icmp_ge (pc := 18) (tgt := 161) dX12_grown_18 (by decide) (fun c1 => ?_) (fun c1 => ?_)
    · have h := ze_some c1 h
      refine z_aload_n (pc := 161) (q := 0) dX12_grown_161 rfl rfl ?_
      refine z_getR (pc := 162) dX12_grown_162 zf_X12_36 gM_0_16 ?_
      refine z_iconst (pc := 165) (v := 0) dX12_grown_165 zci_0 ?_
      refine z_iald (pc := 166) dX12_grown_166 aM_8 (by decide) ?_
      obtain ⟨rfl, rfl⟩ := zr_some h
      exact z_iret dX12_grown_167
    · have h := zt_some c1 h
      refine z_aload_n (pc := 21) (q := 0) dX12_grown_21 rfl rfl ?_
      refine z_getR (pc := 22) dX12_grown_22 zf_X12_27 gM_0_13 ?_
      refine z_iload_n (pc := 25) (q := 2) dX12_grown_25 rfl rfl ?_
      obtain ⟨c2, h⟩ := zg_some h
      refine z_iald (pc := 26) dX12_grown_26 aM_5 c2 ?_
      refine z_if_eq (pc := 27) (tgt := 40) dX12_grown_27 (by decide) (fun c3 => ?_) (fun c3 => ?_)
      · have h := zt_some c3 h
        exact w_X12_grown_B40 l (f_X12_grown_L13 n) ih x1 x2 S h
      · have h := ze_some c3 h
        refine z_aload_n (pc := 30) (q := 0) dX12_grown_30 rfl rfl ?_
        refine z_getR (pc := 31) dX12_grown_31 zf_X12_27 gM_0_13 ?_
        refine z_iload_n (pc := 34) (q := 2) dX12_grown_34 rfl rfl ?_
        obtain ⟨c4, h⟩ := zg_some h
        refine z_iald (pc := 35) dX12_grown_35 aM_5 c4 ?_
        refine z_iconst (pc := 36) (v := 1) dX12_grown_36 zci_1 ?_
        refine z_icmp_ne (pc := 37) (tgt := 81) dX12_grown_37 (by decide) (fun c5 => ?_) (fun c5 => ?_)
        · have h := ze_some c5 h
          refine z_aload_n (pc := 81) (q := 0) dX12_grown_81 rfl rfl ?_
          refine z_getR (pc := 82) dX12_grown_82 zf_X12_27 gM_0_13 ?_
          refine z_iload_n (pc := 85) (q := 2) dX12_grown_85 rfl rfl ?_
          obtain ⟨c6, h⟩ := zg_some h
          refine z_iald (pc := 86) dX12_grown_86 aM_5 c6 ?_
          refine z_iconst (pc := 87) (v := 2) dX12_grown_87 zci_2 ?_
          refine z_icmp_ne (pc := 88) (tgt := 121) dX12_grown_88 (by decide) (fun c7 => ?_) (fun c7 => ?_)
          · have h := ze_some c7 h
            obtain ⟨v8, ev8, h⟩ := zl_some h
            refine z_iinc (pc := 121) (q := 1) (v := v8) (lo' := [(1, .int v8), (0, .ref 0), (2, .int x2)]) dX12_grown_121 rfl (by rw [ev8, zci_m1]) (by decide) rfl ?_
            refine z_aload_n (pc := 124) (q := 1) dX12_grown_124 rfl rfl ?_
            refine z_getR (pc := 125) dX12_grown_125 zf_X12_36 gM_0_16 ?_
            refine z_iload_n (pc := 128) (q := 0) dX12_grown_128 rfl rfl ?_
            refine z_iconst (pc := 129) (v := 1) dX12_grown_129 zci_1 ?_
            refine z_isub (pc := 130) dX12_grown_130 ?_
            refine z_aload_n (pc := 131) (q := 1) dX12_grown_131 rfl rfl ?_
            refine z_getR (pc := 132) dX12_grown_132 zf_X12_30 gM_0_14 ?_
            refine z_iload_n (pc := 135) (q := 2) dX12_grown_135 rfl rfl ?_
            obtain ⟨c9, h⟩ := zg_some h
            refine z_iald (pc := 136) dX12_grown_136 aM_6 c9 ?_
            refine z_aload_n (pc := 137) (q := 1) dX12_grown_137 rfl rfl ?_
            refine z_getR (pc := 138) dX12_grown_138 zf_X12_36 gM_0_16 ?_
            refine z_iload_n (pc := 141) (q := 0) dX12_grown_141 rfl rfl ?_
            refine z_iconst (pc := 142) (v := 1) dX12_grown_142 zci_1 ?_
            refine z_isub (pc := 143) dX12_grown_143 ?_
            obtain ⟨c10, h⟩ := zg_some h
            refine z_iald (pc := 144) dX12_grown_144 aM_8 c10 ?_
            refine z_aload_n (pc := 145) (q := 1) dX12_grown_145 rfl rfl ?_
            refine z_getR (pc := 146) dX12_grown_146 zf_X12_36 gM_0_16 ?_
            refine z_iload_n (pc := 149) (q := 0) dX12_grown_149 rfl rfl ?_
            obtain ⟨c11, h⟩ := zg_some h
            refine z_iald (pc := 150) dX12_grown_150 aM_8 c11 ?_
            obtain ⟨r14, T13, q12, h⟩ := zb_some h
            refine z_callSi (pc := 151) (st := [.int (v8 - 1), .ref 8]) [.int (S.1 6 x2.toNatClampNeg), .int (S.1 8 (v8 - 1).toNatClampNeg), .int (S.1 8 v8.toNatClampNeg)] dX12_grown_151 zm_X12_318 zM_X12_done (by decide) (w_X12_done l q12) rfl rfl (Nat.le_of_ble_eq_true rfl) ?_
            obtain ⟨c15, h⟩ := zg_some h
            obtain ⟨T16, eT16, h⟩ := zl_some h
            refine z_iast (pc := 154) dX12_grown_154 aM_8 c15 eT16 ?_
            obtain ⟨v17, ev17, h⟩ := zl_some h
            refine z_iinc (pc := 155) (q := 2) (v := v17) (lo' := [(2, .int v17), (1, .int v8), (0, .ref 0)]) dX12_grown_155 rfl (by rw [ev17, zci_1]) (by decide) rfl ?_
            refine z_goto (pc := 158) (tgt := 13) dX12_grown_158 (by decide) ?_
            exact z_sub [2, 1, 0] rfl (ih v8 v17 T16 h)
          · have h := zt_some c7 h
            refine z_aload_n (pc := 91) (q := 0) dX12_grown_91 rfl rfl ?_
            refine z_getR (pc := 92) dX12_grown_92 zf_X12_36 gM_0_16 ?_
            refine z_iload_n (pc := 95) (q := 1) dX12_grown_95 rfl rfl ?_
            refine z_iconst (pc := 96) (v := 1) dX12_grown_96 zci_1 ?_
            refine z_isub (pc := 97) dX12_grown_97 ?_
            refine z_aload_n (pc := 98) (q := 0) dX12_grown_98 rfl rfl ?_
            refine z_getR (pc := 99) dX12_grown_99 zf_X12_36 gM_0_16 ?_
            refine z_iload_n (pc := 102) (q := 1) dX12_grown_102 rfl rfl ?_
            refine z_iconst (pc := 103) (v := 1) dX12_grown_103 zci_1 ?_
            refine z_isub (pc := 104) dX12_grown_104 ?_
            obtain ⟨c8, h⟩ := zg_some h
            refine z_iald (pc := 105) dX12_grown_105 aM_8 c8 ?_
            refine z_if_ne (pc := 106) (tgt := 113) dX12_grown_106 (by decide) (fun c9 => ?_) (fun c9 => ?_)
            · have h := ze_some c9 h
              refine z_iconst (pc := 113) (v := 0) dX12_grown_113 zci_0 ?_
              exact w_X12_grown_B114 l (f_X12_grown_L13 n) ih x1 x2 0 (x1 - 1) S h
            · have h := zt_some c9 h
              refine z_iconst (pc := 109) (v := 1) dX12_grown_109 zci_1 ?_
              refine z_goto (pc := 110) (tgt := 114) dX12_grown_110 (by decide) ?_
              exact w_X12_grown_B114 l (f_X12_grown_L13 n) ih x1 x2 1 (x1 - 1) S h
        · have h := zt_some c5 h
          exact w_X12_grown_B40 l (f_X12_grown_L13 n) ih x1 x2 S h
set_option maxRecDepth 100000 in
theorem w_X12_grown (l : Launch)  {S : zS} {r : Int32} {S1 : zS} (h : f_X12_grown S = some (r, S1)) : zMet zLM l yX12_grown cX12_grown 3 (some .int) 3 [.ref 0] S (some (.int r)) S1 := by
  unfold f_X12_grown at h
  refine zMet.of (by decide +kernel) (Nat.le_of_ble_eq_true rfl) ?_
  show WA zLM l RX12 cX12_grown 3 (some .int) 3 (some (.int r)) S1 0 [(0, .ref 0)] [] S
  refine z_aload_n (pc := 0) (q := 0) dX12_grown_0 rfl rfl ?_
  refine z_getI (pc := 1) dX12_grown_1 zf_X12_311 gM_0_52 ?_
  refine z_if_ne (pc := 4) (tgt := 9) dX12_grown_4 (by decide) (fun c1 => ?_) (fun c1 => ?_)
  · have h := ze_some c1 h
    refine z_iconst (pc := 9) (v := 0) dX12_grown_9 zci_0 ?_
    refine z_istore_n (pc := 10) (lo' := [(1, .int 0), (0, .ref 0)]) dX12_grown_10 rfl (by decide) rfl ?_
    refine z_iconst (pc := 11) (v := 0) dX12_grown_11 zci_0 ?_
    refine z_istore_n (pc := 12) (lo' := [(2, .int 0), (1, .int 0), (0, .ref 0)]) dX12_grown_12 rfl (by decide) rfl ?_
    exact z_sub [2, 1, 0] rfl (w_X12_grown_L13 l zN 0 0 S h)
  · have h := zt_some c1 h
    refine z_iconst (pc := 7) (v := 0) dX12_grown_7 zci_0 ?_
    obtain ⟨rfl, rfl⟩ := zr_some h
    exact z_iret dX12_grown_8
def f_X12_readPlant_B75  (S : zS) : Option zS :=
  if (S.1 0 2) = 0 then
    zlet (zput S 0 35 ((S.1 0 35) + 1)) fun T2 =>
    some T2
  else
    some S
def f_X12_readPlant_B58 (s0 : Int32) (s1 : Int32) (S : zS) : Option zS :=
  if zin s1 4 then
  zlet (zput S 16 s1.toNatClampNeg (vp_nar .boolean s0)) fun T2 =>
  if zin (T2.1 0 35) 4 then
  if (T2.1 16 (T2.1 0 35).toNatClampNeg) = 0 then
    f_X12_readPlant_B75 T2
  else
    zu (f_X12_token T2) fun T6 =>
    f_X12_readPlant_B75 T6 else none else none
def f_X12_readPlant  (S : zS) : Option zS :=
  zu (f_X12_newName 0 (S.1 0 35) S) fun T2 =>
  zb (f_X12_told 1818846821 1 99 T2) fun r5 T4 =>
  if zin (T2.1 0 35) 4 then
  zlet (zput T4 10 (T2.1 0 35).toNatClampNeg r5) fun T7 =>
  if (T7.1 0 2) = 0 then
    zb (f_X12_isWord 448311485561 T7) fun r11 T10 =>
    if r11 = 0 then
      f_X12_readPlant_B58 0 (T7.1 0 35) T10
    else
      f_X12_readPlant_B58 1 (T7.1 0 35) T10
  else
    f_X12_readPlant_B58 0 (T7.1 0 35) T7 else none
set_option maxRecDepth 100000 in
theorem w_X12_readPlant_B75 (l : Launch) {S1 : zS}  (S : zS) (h : f_X12_readPlant_B75 S = some S1) : WA zLM l RX12 cX12_readPlant 1 none 5 none S1 75 [(0, .ref 0)] [] S := by
  unfold f_X12_readPlant_B75 at h
  refine z_aload_n (pc := 75) (q := 0) dX12_readPlant_75 rfl rfl ?_
  refine z_getI (pc := 76) dX12_readPlant_76 zf_X12_173 gM_0_2 ?_
  refine z_if_ne (pc := 79) (tgt := 92) dX12_readPlant_79 (by decide) (fun c1 => ?_) (fun c1 => ?_)
  · have h := ze_some c1 h
    cases h
    exact z_vret dX12_readPlant_92
  · have h := zt_some c1 h
    refine z_aload_n (pc := 82) (q := 0) dX12_readPlant_82 rfl rfl ?_
    refine z_dup (pc := 83) dX12_readPlant_83 rfl ?_
    refine z_getI (pc := 84) dX12_readPlant_84 zf_X12_322 gM_0_35 ?_
    refine z_iconst (pc := 87) (v := 1) dX12_readPlant_87 zci_1 ?_
    refine z_iadd (pc := 88) dX12_readPlant_88 ?_
    obtain ⟨T2, eT2, h⟩ := zl_some h
    refine z_putI (pc := 89) dX12_readPlant_89 zp_X12_322 gM_0_35 rfl rfl eT2 ?_
    cases h
    exact z_vret dX12_readPlant_92
set_option maxRecDepth 100000 in
theorem w_X12_readPlant_B58 (l : Launch) {S1 : zS} (s0 : Int32) (s1 : Int32) (S : zS) (h : f_X12_readPlant_B58 s0 s1 S = some S1) : WA zLM l RX12 cX12_readPlant 1 none 5 none S1 58 [(0, .ref 0)] [.int s0, .int s1, .ref 16] S := by
  unfold f_X12_readPlant_B58 at h
  obtain ⟨c1, h⟩ := zg_some h
  obtain ⟨T2, eT2, h⟩ := zl_some h
  refine z_zast (pc := 58) dX12_readPlant_58 aM_16 c1 eT2 ?_
  refine z_aload_n (pc := 59) (q := 0) dX12_readPlant_59 rfl rfl ?_
  refine z_getR (pc := 60) dX12_readPlant_60 zf_X12_60 gM_0_31 ?_
  refine z_aload_n (pc := 63) (q := 0) dX12_readPlant_63 rfl rfl ?_
  refine z_getI (pc := 64) dX12_readPlant_64 zf_X12_322 gM_0_35 ?_
  obtain ⟨c3, h⟩ := zg_some h
  refine z_zald (pc := 67) dX12_readPlant_67 aM_16 c3 ?_
  refine z_if_eq (pc := 68) (tgt := 75) dX12_readPlant_68 (by decide) (fun c4 => ?_) (fun c4 => ?_)
  · have h := zt_some c4 h
    exact w_X12_readPlant_B75 l T2 h
  · have h := ze_some c4 h
    refine z_aload_n (pc := 71) (q := 0) dX12_readPlant_71 rfl rfl ?_
    obtain ⟨T6, q5, h⟩ := zu_some h
    refine z_callVv (pc := 72) (st := []) [] dX12_readPlant_72 zm_X12_235 zM_X12_token (by decide) oM_0 rfl (w_X12_token l q5) rfl rfl (Nat.le_of_ble_eq_true rfl) ?_
    exact w_X12_readPlant_B75 l T6 h
set_option maxRecDepth 100000 in
theorem w_X12_readPlant (l : Launch)  {S : zS} {S1 : zS} (h : f_X12_readPlant S = some S1) : zMet zLM l yX12_readPlant cX12_readPlant 1 none 5 [.ref 0] S none S1 := by
  unfold f_X12_readPlant at h
  refine zMet.of (by decide +kernel) (Nat.le_of_ble_eq_true rfl) ?_
  show WA zLM l RX12 cX12_readPlant 1 none 5 none S1 0 [(0, .ref 0)] [] S
  refine z_aload_n (pc := 0) (q := 0) dX12_readPlant_0 rfl rfl ?_
  refine z_iconst (pc := 1) (v := 0) dX12_readPlant_1 zci_0 ?_
  refine z_aload_n (pc := 2) (q := 0) dX12_readPlant_2 rfl rfl ?_
  refine z_getI (pc := 3) dX12_readPlant_3 zf_X12_322 gM_0_35 ?_
  obtain ⟨T2, q1, h⟩ := zu_some h
  refine z_callVv (pc := 6) (st := []) [.int 0, .int (S.1 0 35)] dX12_readPlant_6 zm_X12_325 zM_X12_newName (by decide) oM_0 rfl (w_X12_newName l q1) rfl rfl (Nat.le_of_ble_eq_true rfl) ?_
  refine z_aload_n (pc := 9) (q := 0) dX12_readPlant_9 rfl rfl ?_
  refine z_getR (pc := 10) dX12_readPlant_10 zf_X12_42 gM_0_25 ?_
  refine z_aload_n (pc := 13) (q := 0) dX12_readPlant_13 rfl rfl ?_
  refine z_getI (pc := 14) dX12_readPlant_14 zf_X12_322 gM_0_35 ?_
  refine z_aload_n (pc := 17) (q := 0) dX12_readPlant_17 rfl rfl ?_
  refine z_ldc2 (pc := 18) dX12_readPlant_18 zk_X12_180 ?_
  refine z_iconst (pc := 21) (v := 1) dX12_readPlant_21 zci_1 ?_
  refine z_bipush (pc := 22) (v := 99) dX12_readPlant_22 zcb_99 ?_
  obtain ⟨r5, T4, q3, h⟩ := zb_some h
  refine z_callVi (pc := 24) (st := [.int (T2.1 0 35), .ref 10]) [.long 1818846821, .int 1, .int 99] dX12_readPlant_24 zm_X12_328 zM_X12_told (by decide) oM_0 rfl (w_X12_told l q3) rfl rfl (Nat.le_of_ble_eq_true rfl) ?_
  obtain ⟨c6, h⟩ := zg_some h
  obtain ⟨T7, eT7, h⟩ := zl_some h
  refine z_iast (pc := 27) dX12_readPlant_27 aM_10 c6 eT7 ?_
  refine z_aload_n (pc := 28) (q := 0) dX12_readPlant_28 rfl rfl ?_
  refine z_getR (pc := 29) dX12_readPlant_29 zf_X12_60 gM_0_31 ?_
  refine z_aload_n (pc := 32) (q := 0) dX12_readPlant_32 rfl rfl ?_
  refine z_getI (pc := 33) dX12_readPlant_33 zf_X12_322 gM_0_35 ?_
  refine z_aload_n (pc := 36) (q := 0) dX12_readPlant_36 rfl rfl ?_
  refine z_getI (pc := 37) dX12_readPlant_37 zf_X12_173 gM_0_2 ?_
  refine z_if_ne (pc := 40) (tgt := 57) dX12_readPlant_40 (by decide) (fun c8 => ?_) (fun c8 => ?_)
  · have h := ze_some c8 h
    refine z_iconst (pc := 57) (v := 0) dX12_readPlant_57 zci_0 ?_
    exact w_X12_readPlant_B58 l 0 (T7.1 0 35) T7 h
  · have h := zt_some c8 h
    refine z_aload_n (pc := 43) (q := 0) dX12_readPlant_43 rfl rfl ?_
    refine z_ldc2 (pc := 44) dX12_readPlant_44 zk_X12_182 ?_
    obtain ⟨r11, T10, q9, h⟩ := zb_some h
    refine z_callVi (pc := 47) (st := [.int (T7.1 0 35), .ref 16]) [.long 448311485561] dX12_readPlant_47 zm_X12_228 zM_X12_isWord (by decide) oM_0 rfl (w_X12_isWord l q9) rfl rfl (Nat.le_of_ble_eq_true rfl) ?_
    refine z_if_eq (pc := 50) (tgt := 57) dX12_readPlant_50 (by decide) (fun c12 => ?_) (fun c12 => ?_)
    · have h := zt_some c12 h
      refine z_iconst (pc := 57) (v := 0) dX12_readPlant_57 zci_0 ?_
      exact w_X12_readPlant_B58 l 0 (T7.1 0 35) T10 h
    · have h := ze_some c12 h
      refine z_iconst (pc := 53) (v := 1) dX12_readPlant_53 zci_1 ?_
      refine z_goto (pc := 54) (tgt := 58) dX12_readPlant_54 (by decide) ?_
      exact w_X12_readPlant_B58 l 1 (T7.1 0 35) T10 h
def f_X12_readTopic  (S : zS) : Option zS :=
  zu (f_X12_newName 4 (S.1 0 36) S) fun T2 =>
  if (T2.1 0 2) = 0 then
    zlet (zput T2 0 36 ((T2.1 0 36) + 1)) fun T4 =>
    some T4
  else
    some T2
set_option maxRecDepth 100000 in
theorem w_X12_readTopic (l : Launch)  {S : zS} {S1 : zS} (h : f_X12_readTopic S = some S1) : zMet zLM l yX12_readTopic cX12_readTopic 1 none 4 [.ref 0] S none S1 := by
  unfold f_X12_readTopic at h
  refine zMet.of (by decide +kernel) (Nat.le_of_ble_eq_true rfl) ?_
  show WA zLM l RX12 cX12_readTopic 1 none 4 none S1 0 [(0, .ref 0)] [] S
  refine z_aload_n (pc := 0) (q := 0) dX12_readTopic_0 rfl rfl ?_
  refine z_iconst (pc := 1) (v := 4) dX12_readTopic_1 zci_4 ?_
  refine z_aload_n (pc := 2) (q := 0) dX12_readTopic_2 rfl rfl ?_
  refine z_getI (pc := 3) dX12_readTopic_3 zf_X12_332 gM_0_36 ?_
  obtain ⟨T2, q1, h⟩ := zu_some h
  refine z_callVv (pc := 6) (st := []) [.int 4, .int (S.1 0 36)] dX12_readTopic_6 zm_X12_325 zM_X12_newName (by decide) oM_0 rfl (w_X12_newName l q1) rfl rfl (Nat.le_of_ble_eq_true rfl) ?_
  refine z_aload_n (pc := 9) (q := 0) dX12_readTopic_9 rfl rfl ?_
  refine z_getI (pc := 10) dX12_readTopic_10 zf_X12_173 gM_0_2 ?_
  refine z_if_ne (pc := 13) (tgt := 26) dX12_readTopic_13 (by decide) (fun c3 => ?_) (fun c3 => ?_)
  · have h := ze_some c3 h
    cases h
    exact z_vret dX12_readTopic_26
  · have h := zt_some c3 h
    refine z_aload_n (pc := 16) (q := 0) dX12_readTopic_16 rfl rfl ?_
    refine z_dup (pc := 17) dX12_readTopic_17 rfl ?_
    refine z_getI (pc := 18) dX12_readTopic_18 zf_X12_332 gM_0_36 ?_
    refine z_iconst (pc := 21) (v := 1) dX12_readTopic_21 zci_1 ?_
    refine z_iadd (pc := 22) dX12_readTopic_22 ?_
    obtain ⟨T4, eT4, h⟩ := zl_some h
    refine z_putI (pc := 23) dX12_readTopic_23 zp_X12_332 gM_0_36 rfl rfl eT4 ?_
    cases h
    exact z_vret dX12_readTopic_26
def f_X12_readBill_B130 (x1 : Int32) (s0 : Int32) (s1 : Int32) (S : zS) : Option zS :=
  if zin s1 96 then
  zlet (zput S 18 s1.toNatClampNeg s0) fun T2 =>
  zb (f_X12_nameBehind 107122481063027 8 (T2.1 0 37) T2) fun r5 T4 =>
  if zin (x1 + 6) 96 then
  zlet (zput T4 18 (x1 + 6).toNatClampNeg r5) fun T7 =>
  zb (f_X12_nameBehind 32199680756640883 8 (T7.1 0 37) T7) fun r10 T9 =>
  if zin (x1 + 7) 96 then
  zlet (zput T9 18 (x1 + 7).toNatClampNeg r10) fun T12 =>
  if (0 : Int32) < (T12.1 0 2) then
    some T12
  else
    if zin (x1 + 3) 96 then
    if zin (T12.1 18 (x1 + 3).toNatClampNeg) 4 then
    if zin (x1 + 0) 96 then
    zlet (zput T12 18 (x1 + 0).toNatClampNeg (T12.1 10 (T12.1 18 (x1 + 3).toNatClampNeg).toNatClampNeg)) fun T17 =>
    if zin (x1 + 1) 96 then
    zlet (zput T17 18 (x1 + 1).toNatClampNeg 0) fun T19 =>
    zlet (zput T19 0 37 ((T19.1 0 37) + 1)) fun T20 =>
    some T20 else none else none else none else none else none else none else none
def f_X12_readBill_B53 (x1 : Int32) (S : zS) : Option zS :=
  zb (f_X12_told 24948 0 ((S.1 0 34) - 1) S) fun r3 T2 =>
  if zin (x1 + 2) 96 then
  zlet (zput T2 18 (x1 + 2).toNatClampNeg r3) fun T5 =>
  zb (f_X12_nameBehind 1935767923 4 (T5.1 0 36) T5) fun r8 T7 =>
  if zin (x1 + 4) 96 then
  zlet (zput T7 18 (x1 + 4).toNatClampNeg r8) fun T10 =>
  if (T10.1 0 2) = 0 then
    if zin (x1 + 4) 96 then
    if (T10.1 18 (x1 + 4).toNatClampNeg) < 0 then
      f_X12_readBill_B130 x1 0 (x1 + 5) T10
    else
      zb (f_X12_toldValue 9 T10) fun r16 T15 =>
      f_X12_readBill_B130 x1 r16 (x1 + 5) T15 else none
  else
    f_X12_readBill_B130 x1 0 (x1 + 5) T10 else none else none
def f_X12_readBill  (S : zS) : Option zS :=
  zu (f_X12_newName 8 (S.1 0 37) S) fun T2 =>
  zlet (8 * (T2.1 0 37)) fun v3 =>
  zu (f_X12_want 28518 T2) fun T5 =>
  zb (f_X12_oldName 0 (T5.1 0 35) T5) fun r8 T7 =>
  if zin (v3 + 3) 96 then
  zlet (zput T7 18 (v3 + 3).toNatClampNeg r8) fun T10 =>
  if (T10.1 0 2) = 0 then
    zu (f_X12_token T10) fun T13 =>
    f_X12_readBill_B53 v3 T13
  else
    f_X12_readBill_B53 v3 T10 else none
set_option maxRecDepth 100000 in
theorem w_X12_readBill_B130 (l : Launch) {S1 : zS} (x1 : Int32) (s0 : Int32) (s1 : Int32) (S : zS) (h : f_X12_readBill_B130 x1 s0 s1 S = some S1) : WA zLM l RX12 cX12_readBill 2 none 5 none S1 130 [(0, .ref 0), (1, .int x1)] [.int s0, .int s1, .ref 18] S := by
  unfold f_X12_readBill_B130 at h
  obtain ⟨c1, h⟩ := zg_some h
  obtain ⟨T2, eT2, h⟩ := zl_some h
  refine z_iast (pc := 130) dX12_readBill_130 aM_18 c1 eT2 ?_
  refine z_aload_n (pc := 131) (q := 0) dX12_readBill_131 rfl rfl ?_
  refine z_getR (pc := 132) dX12_readBill_132 zf_X12_67 gM_0_33 ?_
  refine z_iload_n (pc := 135) (q := 1) dX12_readBill_135 rfl rfl ?_
  refine z_bipush (pc := 136) (v := 6) dX12_readBill_136 zcb_6 ?_
  refine z_iadd (pc := 138) dX12_readBill_138 ?_
  refine z_aload_n (pc := 139) (q := 0) dX12_readBill_139 rfl rfl ?_
  refine z_ldc2 (pc := 140) dX12_readBill_140 zk_X12_194 ?_
  refine z_bipush (pc := 143) (v := 8) dX12_readBill_143 zcb_8 ?_
  refine z_aload_n (pc := 145) (q := 0) dX12_readBill_145 rfl rfl ?_
  refine z_getI (pc := 146) dX12_readBill_146 zf_X12_335 gM_0_37 ?_
  obtain ⟨r5, T4, q3, h⟩ := zb_some h
  refine z_callVi (pc := 149) (st := [.int (x1 + 6), .ref 18]) [.long 107122481063027, .int 8, .int (T2.1 0 37)] dX12_readBill_149 zm_X12_341 zM_X12_nameBehind (by decide) oM_0 rfl (w_X12_nameBehind l q3) rfl rfl (Nat.le_of_ble_eq_true rfl) ?_
  obtain ⟨c6, h⟩ := zg_some h
  obtain ⟨T7, eT7, h⟩ := zl_some h
  refine z_iast (pc := 152) dX12_readBill_152 aM_18 c6 eT7 ?_
  refine z_aload_n (pc := 153) (q := 0) dX12_readBill_153 rfl rfl ?_
  refine z_getR (pc := 154) dX12_readBill_154 zf_X12_67 gM_0_33 ?_
  refine z_iload_n (pc := 157) (q := 1) dX12_readBill_157 rfl rfl ?_
  refine z_bipush (pc := 158) (v := 7) dX12_readBill_158 zcb_7 ?_
  refine z_iadd (pc := 160) dX12_readBill_160 ?_
  refine z_aload_n (pc := 161) (q := 0) dX12_readBill_161 rfl rfl ?_
  refine z_ldc2 (pc := 162) dX12_readBill_162 zk_X12_196 ?_
  refine z_bipush (pc := 165) (v := 8) dX12_readBill_165 zcb_8 ?_
  refine z_aload_n (pc := 167) (q := 0) dX12_readBill_167 rfl rfl ?_
  refine z_getI (pc := 168) dX12_readBill_168 zf_X12_335 gM_0_37 ?_
  obtain ⟨r10, T9, q8, h⟩ := zb_some h
  refine z_callVi (pc := 171) (st := [.int (x1 + 7), .ref 18]) [.long 32199680756640883, .int 8, .int (T7.1 0 37)] dX12_readBill_171 zm_X12_341 zM_X12_nameBehind (by decide) oM_0 rfl (w_X12_nameBehind l q8) rfl rfl (Nat.le_of_ble_eq_true rfl) ?_
  obtain ⟨c11, h⟩ := zg_some h
  obtain ⟨T12, eT12, h⟩ := zl_some h
  refine z_iast (pc := 174) dX12_readBill_174 aM_18 c11 eT12 ?_
  refine z_aload_n (pc := 175) (q := 0) dX12_readBill_175 rfl rfl ?_
  refine z_getI (pc := 176) dX12_readBill_176 zf_X12_173 gM_0_2 ?_
  refine z_if_le (pc := 179) (tgt := 183) dX12_readBill_179 (by decide) (fun c13 => ?_) (fun c13 => ?_)
  · have h := ze_some c13 h
    refine z_aload_n (pc := 183) (q := 0) dX12_readBill_183 rfl rfl ?_
    refine z_getR (pc := 184) dX12_readBill_184 zf_X12_67 gM_0_33 ?_
    refine z_iload_n (pc := 187) (q := 1) dX12_readBill_187 rfl rfl ?_
    refine z_iconst (pc := 188) (v := 0) dX12_readBill_188 zci_0 ?_
    refine z_iadd (pc := 189) dX12_readBill_189 ?_
    refine z_aload_n (pc := 190) (q := 0) dX12_readBill_190 rfl rfl ?_
    refine z_getR (pc := 191) dX12_readBill_191 zf_X12_42 gM_0_25 ?_
    refine z_aload_n (pc := 194) (q := 0) dX12_readBill_194 rfl rfl ?_
    refine z_getR (pc := 195) dX12_readBill_195 zf_X12_67 gM_0_33 ?_
    refine z_iload_n (pc := 198) (q := 1) dX12_readBill_198 rfl rfl ?_
    refine z_iconst (pc := 199) (v := 3) dX12_readBill_199 zci_3 ?_
    refine z_iadd (pc := 200) dX12_readBill_200 ?_
    obtain ⟨c14, h⟩ := zg_some h
    refine z_iald (pc := 201) dX12_readBill_201 aM_18 c14 ?_
    obtain ⟨c15, h⟩ := zg_some h
    refine z_iald (pc := 202) dX12_readBill_202 aM_10 c15 ?_
    obtain ⟨c16, h⟩ := zg_some h
    obtain ⟨T17, eT17, h⟩ := zl_some h
    refine z_iast (pc := 203) dX12_readBill_203 aM_18 c16 eT17 ?_
    refine z_aload_n (pc := 204) (q := 0) dX12_readBill_204 rfl rfl ?_
    refine z_getR (pc := 205) dX12_readBill_205 zf_X12_67 gM_0_33 ?_
    refine z_iload_n (pc := 208) (q := 1) dX12_readBill_208 rfl rfl ?_
    refine z_iconst (pc := 209) (v := 1) dX12_readBill_209 zci_1 ?_
    refine z_iadd (pc := 210) dX12_readBill_210 ?_
    refine z_iconst (pc := 211) (v := 0) dX12_readBill_211 zci_0 ?_
    obtain ⟨c18, h⟩ := zg_some h
    obtain ⟨T19, eT19, h⟩ := zl_some h
    refine z_iast (pc := 212) dX12_readBill_212 aM_18 c18 eT19 ?_
    refine z_aload_n (pc := 213) (q := 0) dX12_readBill_213 rfl rfl ?_
    refine z_dup (pc := 214) dX12_readBill_214 rfl ?_
    refine z_getI (pc := 215) dX12_readBill_215 zf_X12_335 gM_0_37 ?_
    refine z_iconst (pc := 218) (v := 1) dX12_readBill_218 zci_1 ?_
    refine z_iadd (pc := 219) dX12_readBill_219 ?_
    obtain ⟨T20, eT20, h⟩ := zl_some h
    refine z_putI (pc := 220) dX12_readBill_220 zp_X12_335 gM_0_37 rfl rfl eT20 ?_
    cases h
    exact z_vret dX12_readBill_223
  · have h := zt_some c13 h
    cases h
    exact z_vret dX12_readBill_182
set_option maxRecDepth 100000 in
theorem w_X12_readBill_B53 (l : Launch) {S1 : zS} (x1 : Int32) (S : zS) (h : f_X12_readBill_B53 x1 S = some S1) : WA zLM l RX12 cX12_readBill 2 none 5 none S1 53 [(0, .ref 0), (1, .int x1)] [] S := by
  unfold f_X12_readBill_B53 at h
  refine z_aload_n (pc := 53) (q := 0) dX12_readBill_53 rfl rfl ?_
  refine z_getR (pc := 54) dX12_readBill_54 zf_X12_67 gM_0_33 ?_
  refine z_iload_n (pc := 57) (q := 1) dX12_readBill_57 rfl rfl ?_
  refine z_iconst (pc := 58) (v := 2) dX12_readBill_58 zci_2 ?_
  refine z_iadd (pc := 59) dX12_readBill_59 ?_
  refine z_aload_n (pc := 60) (q := 0) dX12_readBill_60 rfl rfl ?_
  refine z_ldc2 (pc := 61) dX12_readBill_61 zk_X12_190 ?_
  refine z_iconst (pc := 64) (v := 0) dX12_readBill_64 zci_0 ?_
  refine z_aload_n (pc := 65) (q := 0) dX12_readBill_65 rfl rfl ?_
  refine z_getI (pc := 66) dX12_readBill_66 zf_X12_338 gM_0_34 ?_
  refine z_iconst (pc := 69) (v := 1) dX12_readBill_69 zci_1 ?_
  refine z_isub (pc := 70) dX12_readBill_70 ?_
  obtain ⟨r3, T2, q1, h⟩ := zb_some h
  refine z_callVi (pc := 71) (st := [.int (x1 + 2), .ref 18]) [.long 24948, .int 0, .int ((S.1 0 34) - 1)] dX12_readBill_71 zm_X12_328 zM_X12_told (by decide) oM_0 rfl (w_X12_told l q1) rfl rfl (Nat.le_of_ble_eq_true rfl) ?_
  obtain ⟨c4, h⟩ := zg_some h
  obtain ⟨T5, eT5, h⟩ := zl_some h
  refine z_iast (pc := 74) dX12_readBill_74 aM_18 c4 eT5 ?_
  refine z_aload_n (pc := 75) (q := 0) dX12_readBill_75 rfl rfl ?_
  refine z_getR (pc := 76) dX12_readBill_76 zf_X12_67 gM_0_33 ?_
  refine z_iload_n (pc := 79) (q := 1) dX12_readBill_79 rfl rfl ?_
  refine z_iconst (pc := 80) (v := 4) dX12_readBill_80 zci_4 ?_
  refine z_iadd (pc := 81) dX12_readBill_81 ?_
  refine z_aload_n (pc := 82) (q := 0) dX12_readBill_82 rfl rfl ?_
  refine z_ldc2 (pc := 83) dX12_readBill_83 zk_X12_192 ?_
  refine z_iconst (pc := 86) (v := 4) dX12_readBill_86 zci_4 ?_
  refine z_aload_n (pc := 87) (q := 0) dX12_readBill_87 rfl rfl ?_
  refine z_getI (pc := 88) dX12_readBill_88 zf_X12_332 gM_0_36 ?_
  obtain ⟨r8, T7, q6, h⟩ := zb_some h
  refine z_callVi (pc := 91) (st := [.int (x1 + 4), .ref 18]) [.long 1935767923, .int 4, .int (T5.1 0 36)] dX12_readBill_91 zm_X12_341 zM_X12_nameBehind (by decide) oM_0 rfl (w_X12_nameBehind l q6) rfl rfl (Nat.le_of_ble_eq_true rfl) ?_
  obtain ⟨c9, h⟩ := zg_some h
  obtain ⟨T10, eT10, h⟩ := zl_some h
  refine z_iast (pc := 94) dX12_readBill_94 aM_18 c9 eT10 ?_
  refine z_aload_n (pc := 95) (q := 0) dX12_readBill_95 rfl rfl ?_
  refine z_getR (pc := 96) dX12_readBill_96 zf_X12_67 gM_0_33 ?_
  refine z_iload_n (pc := 99) (q := 1) dX12_readBill_99 rfl rfl ?_
  refine z_iconst (pc := 100) (v := 5) dX12_readBill_100 zci_5 ?_
  refine z_iadd (pc := 101) dX12_readBill_101 ?_
  refine z_aload_n (pc := 102) (q := 0) dX12_readBill_102 rfl rfl ?_
  refine z_getI (pc := 103) dX12_readBill_103 zf_X12_173 gM_0_2 ?_
  refine z_if_ne (pc := 106) (tgt := 129) dX12_readBill_106 (by decide) (fun c11 => ?_) (fun c11 => ?_)
  · have h := ze_some c11 h
    refine z_iconst (pc := 129) (v := 0) dX12_readBill_129 zci_0 ?_
    exact w_X12_readBill_B130 l x1 0 (x1 + 5) T10 h
  · have h := zt_some c11 h
    refine z_aload_n (pc := 109) (q := 0) dX12_readBill_109 rfl rfl ?_
    refine z_getR (pc := 110) dX12_readBill_110 zf_X12_67 gM_0_33 ?_
    refine z_iload_n (pc := 113) (q := 1) dX12_readBill_113 rfl rfl ?_
    refine z_iconst (pc := 114) (v := 4) dX12_readBill_114 zci_4 ?_
    refine z_iadd (pc := 115) dX12_readBill_115 ?_
    obtain ⟨c12, h⟩ := zg_some h
    refine z_iald (pc := 116) dX12_readBill_116 aM_18 c12 ?_
    refine z_if_lt (pc := 117) (tgt := 129) dX12_readBill_117 (by decide) (fun c13 => ?_) (fun c13 => ?_)
    · have h := zt_some c13 h
      refine z_iconst (pc := 129) (v := 0) dX12_readBill_129 zci_0 ?_
      exact w_X12_readBill_B130 l x1 0 (x1 + 5) T10 h
    · have h := ze_some c13 h
      refine z_aload_n (pc := 120) (q := 0) dX12_readBill_120 rfl rfl ?_
      refine z_bipush (pc := 121) (v := 9) dX12_readBill_121 zcb_9 ?_
      obtain ⟨r16, T15, q14, h⟩ := zb_some h
      refine z_callVi (pc := 123) (st := [.int (x1 + 5), .ref 18]) [.int 9] dX12_readBill_123 zm_X12_344 zM_X12_toldValue (by decide) oM_0 rfl (w_X12_toldValue l q14) rfl rfl (Nat.le_of_ble_eq_true rfl) ?_
      refine z_goto (pc := 126) (tgt := 130) dX12_readBill_126 (by decide) ?_
      exact w_X12_readBill_B130 l x1 r16 (x1 + 5) T15 h
set_option maxRecDepth 100000 in
theorem w_X12_readBill (l : Launch)  {S : zS} {S1 : zS} (h : f_X12_readBill S = some S1) : zMet zLM l yX12_readBill cX12_readBill 2 none 5 [.ref 0] S none S1 := by
  unfold f_X12_readBill at h
  refine zMet.of (by decide +kernel) (Nat.le_of_ble_eq_true rfl) ?_
  show WA zLM l RX12 cX12_readBill 2 none 5 none S1 0 [(0, .ref 0)] [] S
  refine z_aload_n (pc := 0) (q := 0) dX12_readBill_0 rfl rfl ?_
  refine z_bipush (pc := 1) (v := 8) dX12_readBill_1 zcb_8 ?_
  refine z_aload_n (pc := 3) (q := 0) dX12_readBill_3 rfl rfl ?_
  refine z_getI (pc := 4) dX12_readBill_4 zf_X12_335 gM_0_37 ?_
  obtain ⟨T2, q1, h⟩ := zu_some h
  refine z_callVv (pc := 7) (st := []) [.int 8, .int (S.1 0 37)] dX12_readBill_7 zm_X12_325 zM_X12_newName (by decide) oM_0 rfl (w_X12_newName l q1) rfl rfl (Nat.le_of_ble_eq_true rfl) ?_
  refine z_bipush (pc := 10) (v := 8) dX12_readBill_10 zcb_8 ?_
  refine z_aload_n (pc := 12) (q := 0) dX12_readBill_12 rfl rfl ?_
  refine z_getI (pc := 13) dX12_readBill_13 zf_X12_335 gM_0_37 ?_
  refine z_imul (pc := 16) dX12_readBill_16 ?_
  obtain ⟨v3, ev3, h⟩ := zl_some h
  refine z_top ev3 ?_
  refine z_istore_n (pc := 17) (lo' := [(1, .int v3), (0, .ref 0)]) dX12_readBill_17 rfl (by decide) rfl ?_
  refine z_aload_n (pc := 18) (q := 1) dX12_readBill_18 rfl rfl ?_
  refine z_ldc2 (pc := 19) dX12_readBill_19 zk_X12_188 ?_
  obtain ⟨T5, q4, h⟩ := zu_some h
  refine z_callVv (pc := 22) (st := []) [.long 28518] dX12_readBill_22 zm_X12_238 zM_X12_want (by decide) oM_0 rfl (w_X12_want l q4) rfl rfl (Nat.le_of_ble_eq_true rfl) ?_
  refine z_aload_n (pc := 25) (q := 1) dX12_readBill_25 rfl rfl ?_
  refine z_getR (pc := 26) dX12_readBill_26 zf_X12_67 gM_0_33 ?_
  refine z_iload_n (pc := 29) (q := 0) dX12_readBill_29 rfl rfl ?_
  refine z_iconst (pc := 30) (v := 3) dX12_readBill_30 zci_3 ?_
  refine z_iadd (pc := 31) dX12_readBill_31 ?_
  refine z_aload_n (pc := 32) (q := 1) dX12_readBill_32 rfl rfl ?_
  refine z_iconst (pc := 33) (v := 0) dX12_readBill_33 zci_0 ?_
  refine z_aload_n (pc := 34) (q := 1) dX12_readBill_34 rfl rfl ?_
  refine z_getI (pc := 35) dX12_readBill_35 zf_X12_322 gM_0_35 ?_
  obtain ⟨r8, T7, q6, h⟩ := zb_some h
  refine z_callVi (pc := 38) (st := [.int (v3 + 3), .ref 18]) [.int 0, .int (T5.1 0 35)] dX12_readBill_38 zm_X12_251 zM_X12_oldName (by decide) oM_0 rfl (w_X12_oldName l q6) rfl rfl (Nat.le_of_ble_eq_true rfl) ?_
  obtain ⟨c9, h⟩ := zg_some h
  obtain ⟨T10, eT10, h⟩ := zl_some h
  refine z_iast (pc := 41) dX12_readBill_41 aM_18 c9 eT10 ?_
  refine z_aload_n (pc := 42) (q := 1) dX12_readBill_42 rfl rfl ?_
  refine z_getI (pc := 43) dX12_readBill_43 zf_X12_173 gM_0_2 ?_
  refine z_if_ne (pc := 46) (tgt := 53) dX12_readBill_46 (by decide) (fun c11 => ?_) (fun c11 => ?_)
  · have h := ze_some c11 h
    exact z_sub [1, 0] rfl (w_X12_readBill_B53 l v3 T10 h)
  · have h := zt_some c11 h
    refine z_aload_n (pc := 49) (q := 1) dX12_readBill_49 rfl rfl ?_
    obtain ⟨T13, q12, h⟩ := zu_some h
    refine z_callVv (pc := 50) (st := []) [] dX12_readBill_50 zm_X12_235 zM_X12_token (by decide) oM_0 rfl (w_X12_token l q12) rfl rfl (Nat.le_of_ble_eq_true rfl) ?_
    exact z_sub [1, 0] rfl (w_X12_readBill_B53 l v3 T13 h)
def f_X12_readParty_L20 : Nat → Int32 → zS → Option zS
  | 0, _, _ => none
  | n + 1, x1, S =>
    if x1 < 4 then
      if zin ((4 * (S.1 0 38)) + x1) 12 then
      zlet (zput S 13 ((4 * (S.1 0 38)) + x1).toNatClampNeg 0) fun T3 =>
      zlet (x1 + 1) fun v4 =>
      (f_X12_readParty_L20 n) v4 T3 else none
    else
      zlet (zput S 0 38 ((S.1 0 38) + 1)) fun T2 =>
      some T2
def f_X12_readParty  (S : zS) : Option zS :=
  zu (f_X12_newName 16 (S.1 0 38) S) fun T2 =>
  if (0 : Int32) < (T2.1 0 2) then
    some T2
  else
    f_X12_readParty_L20 zN 0 T2
set_option maxRecDepth 100000 in
theorem w_X12_readParty_L20 (l : Launch) {S1 : zS} : ∀ (n : Nat) (x1 : Int32) (S : zS), f_X12_readParty_L20 n x1 S = some S1 → WA zLM l RX12 cX12_readParty 2 none 4 none S1 20 [(0, .ref 0), (1, .int x1)] [] S := by
  intro n
  induction n with
  | zero =>
    intro x1 S h
    exact nomatch h
  | succ n ih =>
    intro x1 S h
    rw [f_X12_readParty_L20] at h
    refine z_iload_n (pc := 20) (q := 1) dX12_readParty_20 rfl rfl ?_
    refine z_iconst (pc := 21) (v := 4) dX12_readParty_21 zci_4 ?_
    refine z_icmp_ge (pc := 22) (tgt := 45) dX12_readParty_22 (by decide) (fun c1 => ?_) (fun c1 => ?_)
    · have h := ze_some c1 h
      refine z_aload_n (pc := 45) (q := 0) dX12_readParty_45 rfl rfl ?_
      refine z_dup (pc := 46) dX12_readParty_46 rfl ?_
      refine z_getI (pc := 47) dX12_readParty_47 zf_X12_347 gM_0_38 ?_
      refine z_iconst (pc := 50) (v := 1) dX12_readParty_50 zci_1 ?_
      refine z_iadd (pc := 51) dX12_readParty_51 ?_
      obtain ⟨T2, eT2, h⟩ := zl_some h
      refine z_putI (pc := 52) dX12_readParty_52 zp_X12_347 gM_0_38 rfl rfl eT2 ?_
      cases h
      exact z_vret dX12_readParty_55
    · have h := zt_some c1 h
      refine z_aload_n (pc := 25) (q := 0) dX12_readParty_25 rfl rfl ?_
      refine z_getR (pc := 26) dX12_readParty_26 zf_X12_51 gM_0_28 ?_
      refine z_iconst (pc := 29) (v := 4) dX12_readParty_29 zci_4 ?_
      refine z_aload_n (pc := 30) (q := 0) dX12_readParty_30 rfl rfl ?_
      refine z_getI (pc := 31) dX12_readParty_31 zf_X12_347 gM_0_38 ?_
      refine z_imul (pc := 34) dX12_readParty_34 ?_
      refine z_iload_n (pc := 35) (q := 1) dX12_readParty_35 rfl rfl ?_
      refine z_iadd (pc := 36) dX12_readParty_36 ?_
      refine z_iconst (pc := 37) (v := 0) dX12_readParty_37 zci_0 ?_
      obtain ⟨c2, h⟩ := zg_some h
      obtain ⟨T3, eT3, h⟩ := zl_some h
      refine z_iast (pc := 38) dX12_readParty_38 aM_13 c2 eT3 ?_
      obtain ⟨v4, ev4, h⟩ := zl_some h
      refine z_iinc (pc := 39) (q := 1) (v := v4) (lo' := [(1, .int v4), (0, .ref 0)]) dX12_readParty_39 rfl (by rw [ev4, zci_1]) (by decide) rfl ?_
      refine z_goto (pc := 42) (tgt := 20) dX12_readParty_42 (by decide) ?_
      exact z_sub [1, 0] rfl (ih v4 T3 h)
set_option maxRecDepth 100000 in
theorem w_X12_readParty (l : Launch)  {S : zS} {S1 : zS} (h : f_X12_readParty S = some S1) : zMet zLM l yX12_readParty cX12_readParty 2 none 4 [.ref 0] S none S1 := by
  unfold f_X12_readParty at h
  refine zMet.of (by decide +kernel) (Nat.le_of_ble_eq_true rfl) ?_
  show WA zLM l RX12 cX12_readParty 2 none 4 none S1 0 [(0, .ref 0)] [] S
  refine z_aload_n (pc := 0) (q := 0) dX12_readParty_0 rfl rfl ?_
  refine z_bipush (pc := 1) (v := 16) dX12_readParty_1 zcb_16 ?_
  refine z_aload_n (pc := 3) (q := 0) dX12_readParty_3 rfl rfl ?_
  refine z_getI (pc := 4) dX12_readParty_4 zf_X12_347 gM_0_38 ?_
  obtain ⟨T2, q1, h⟩ := zu_some h
  refine z_callVv (pc := 7) (st := []) [.int 16, .int (S.1 0 38)] dX12_readParty_7 zm_X12_325 zM_X12_newName (by decide) oM_0 rfl (w_X12_newName l q1) rfl rfl (Nat.le_of_ble_eq_true rfl) ?_
  refine z_aload_n (pc := 10) (q := 0) dX12_readParty_10 rfl rfl ?_
  refine z_getI (pc := 11) dX12_readParty_11 zf_X12_173 gM_0_2 ?_
  refine z_if_le (pc := 14) (tgt := 18) dX12_readParty_14 (by decide) (fun c3 => ?_) (fun c3 => ?_)
  · have h := ze_some c3 h
    refine z_iconst (pc := 18) (v := 0) dX12_readParty_18 zci_0 ?_
    refine z_istore_n (pc := 19) (lo' := [(1, .int 0), (0, .ref 0)]) dX12_readParty_19 rfl (by decide) rfl ?_
    exact z_sub [1, 0] rfl (w_X12_readParty_L20 l zN 0 T2 h)
  · have h := zt_some c3 h
    cases h
    exact z_vret dX12_readParty_17
def f_X12_readWants_B72 (x1 : Int32) (x2 : Int32) (S : zS) : Option zS :=
  zb (f_X12_toldValue 9 S) fun r3 T2 =>
  zb (f_X12_told 25209 1 9 T2) fun r6 T5 =>
  if (0 : Int32) < (T5.1 0 2) then
    some T5
  else
    if zin ((4 * x1) + x2) 12 then
    zlet (zput T5 12 ((4 * x1) + x2).toNatClampNeg r3) fun T9 =>
    if zin ((4 * x1) + x2) 12 then
    zlet (zput T9 13 ((4 * x1) + x2).toNatClampNeg r6) fun T11 =>
    some T11 else none else none
def f_X12_readWants_B61 (x1 : Int32) (x2 : Int32) (S : zS) : Option zS :=
  if (S.1 0 2) = 0 then
    zu (f_X12_token S) fun T3 =>
    f_X12_readWants_B72 x1 x2 T3
  else
    f_X12_readWants_B72 x1 x2 S
def f_X12_readWants_B26 (x1 : Int32) (S : zS) : Option zS :=
  zb (f_X12_oldName 4 (S.1 0 36) S) fun r3 T2 =>
  if (T2.1 0 2) = 0 then
    if zin ((4 * x1) + r3) 12 then
    if (0 : Int32) < (T2.1 13 ((4 * x1) + r3).toNatClampNeg) then
      zu (f_X12_wrong 3 T2) fun T8 =>
      f_X12_readWants_B61 x1 r3 T8
    else
      f_X12_readWants_B61 x1 r3 T2 else none
  else
    f_X12_readWants_B61 x1 r3 T2
def f_X12_readWants  (S : zS) : Option zS :=
  zu (f_X12_token S) fun T2 =>
  zb (f_X12_oldName 16 (T2.1 0 38) T2) fun r5 T4 =>
  if (T4.1 0 2) = 0 then
    zu (f_X12_token T4) fun T8 =>
    f_X12_readWants_B26 r5 T8
  else
    f_X12_readWants_B26 r5 T4
set_option maxRecDepth 100000 in
theorem w_X12_readWants_B72 (l : Launch) {S1 : zS} (x1 : Int32) (x2 : Int32) (S : zS) (h : f_X12_readWants_B72 x1 x2 S = some S1) : WA zLM l RX12 cX12_readWants 5 none 5 none S1 72 [(0, .ref 0), (1, .int x1), (2, .int x2)] [] S := by
  unfold f_X12_readWants_B72 at h
  refine z_aload_n (pc := 72) (q := 0) dX12_readWants_72 rfl rfl ?_
  refine z_bipush (pc := 73) (v := 9) dX12_readWants_73 zcb_9 ?_
  obtain ⟨r3, T2, q1, h⟩ := zb_some h
  refine z_callVi (pc := 75) (st := []) [.int 9] dX12_readWants_75 zm_X12_344 zM_X12_toldValue (by decide) oM_0 rfl (w_X12_toldValue l q1) rfl rfl (Nat.le_of_ble_eq_true rfl) ?_
  refine z_istore_n (pc := 78) (lo' := [(3, .int r3), (0, .ref 0), (1, .int x1), (2, .int x2)]) dX12_readWants_78 rfl (by decide) rfl ?_
  refine z_aload_n (pc := 79) (q := 1) dX12_readWants_79 rfl rfl ?_
  refine z_ldc2 (pc := 80) dX12_readWants_80 zk_X12_202 ?_
  refine z_iconst (pc := 83) (v := 1) dX12_readWants_83 zci_1 ?_
  refine z_bipush (pc := 84) (v := 9) dX12_readWants_84 zcb_9 ?_
  obtain ⟨r6, T5, q4, h⟩ := zb_some h
  refine z_callVi (pc := 86) (st := []) [.long 25209, .int 1, .int 9] dX12_readWants_86 zm_X12_328 zM_X12_told (by decide) oM_0 rfl (w_X12_told l q4) rfl rfl (Nat.le_of_ble_eq_true rfl) ?_
  refine z_istore (pc := 89) (lo' := [(4, .int r6), (3, .int r3), (0, .ref 0), (1, .int x1), (2, .int x2)]) dX12_readWants_89 (by decide) rfl ?_
  refine z_aload_n (pc := 91) (q := 2) dX12_readWants_91 rfl rfl ?_
  refine z_getI (pc := 92) dX12_readWants_92 zf_X12_173 gM_0_2 ?_
  refine z_if_le (pc := 95) (tgt := 99) dX12_readWants_95 (by decide) (fun c7 => ?_) (fun c7 => ?_)
  · have h := ze_some c7 h
    refine z_aload_n (pc := 99) (q := 2) dX12_readWants_99 rfl rfl ?_
    refine z_getR (pc := 100) dX12_readWants_100 zf_X12_48 gM_0_27 ?_
    refine z_iconst (pc := 103) (v := 4) dX12_readWants_103 zci_4 ?_
    refine z_iload_n (pc := 104) (q := 3) dX12_readWants_104 rfl rfl ?_
    refine z_imul (pc := 105) dX12_readWants_105 ?_
    refine z_iload_n (pc := 106) (q := 4) dX12_readWants_106 rfl rfl ?_
    refine z_iadd (pc := 107) dX12_readWants_107 ?_
    refine z_iload_n (pc := 108) (q := 1) dX12_readWants_108 rfl rfl ?_
    obtain ⟨c8, h⟩ := zg_some h
    obtain ⟨T9, eT9, h⟩ := zl_some h
    refine z_iast (pc := 109) dX12_readWants_109 aM_12 c8 eT9 ?_
    refine z_aload_n (pc := 110) (q := 2) dX12_readWants_110 rfl rfl ?_
    refine z_getR (pc := 111) dX12_readWants_111 zf_X12_51 gM_0_28 ?_
    refine z_iconst (pc := 114) (v := 4) dX12_readWants_114 zci_4 ?_
    refine z_iload_n (pc := 115) (q := 3) dX12_readWants_115 rfl rfl ?_
    refine z_imul (pc := 116) dX12_readWants_116 ?_
    refine z_iload_n (pc := 117) (q := 4) dX12_readWants_117 rfl rfl ?_
    refine z_iadd (pc := 118) dX12_readWants_118 ?_
    refine z_iload (pc := 119) (q := 0) dX12_readWants_119 rfl ?_
    obtain ⟨c10, h⟩ := zg_some h
    obtain ⟨T11, eT11, h⟩ := zl_some h
    refine z_iast (pc := 121) dX12_readWants_121 aM_13 c10 eT11 ?_
    cases h
    exact z_vret dX12_readWants_122
  · have h := zt_some c7 h
    cases h
    exact z_vret dX12_readWants_98
set_option maxRecDepth 100000 in
theorem w_X12_readWants_B61 (l : Launch) {S1 : zS} (x1 : Int32) (x2 : Int32) (S : zS) (h : f_X12_readWants_B61 x1 x2 S = some S1) : WA zLM l RX12 cX12_readWants 5 none 5 none S1 61 [(0, .ref 0), (1, .int x1), (2, .int x2)] [] S := by
  unfold f_X12_readWants_B61 at h
  refine z_aload_n (pc := 61) (q := 0) dX12_readWants_61 rfl rfl ?_
  refine z_getI (pc := 62) dX12_readWants_62 zf_X12_173 gM_0_2 ?_
  refine z_if_ne (pc := 65) (tgt := 72) dX12_readWants_65 (by decide) (fun c1 => ?_) (fun c1 => ?_)
  · have h := ze_some c1 h
    exact w_X12_readWants_B72 l x1 x2 S h
  · have h := zt_some c1 h
    refine z_aload_n (pc := 68) (q := 0) dX12_readWants_68 rfl rfl ?_
    obtain ⟨T3, q2, h⟩ := zu_some h
    refine z_callVv (pc := 69) (st := []) [] dX12_readWants_69 zm_X12_235 zM_X12_token (by decide) oM_0 rfl (w_X12_token l q2) rfl rfl (Nat.le_of_ble_eq_true rfl) ?_
    exact w_X12_readWants_B72 l x1 x2 T3 h
set_option maxRecDepth 100000 in
theorem w_X12_readWants_B26 (l : Launch) {S1 : zS} (x1 : Int32) (S : zS) (h : f_X12_readWants_B26 x1 S = some S1) : WA zLM l RX12 cX12_readWants 5 none 5 none S1 26 [(0, .ref 0), (1, .int x1)] [] S := by
  unfold f_X12_readWants_B26 at h
  refine z_aload_n (pc := 26) (q := 0) dX12_readWants_26 rfl rfl ?_
  refine z_iconst (pc := 27) (v := 4) dX12_readWants_27 zci_4 ?_
  refine z_aload_n (pc := 28) (q := 0) dX12_readWants_28 rfl rfl ?_
  refine z_getI (pc := 29) dX12_readWants_29 zf_X12_332 gM_0_36 ?_
  obtain ⟨r3, T2, q1, h⟩ := zb_some h
  refine z_callVi (pc := 32) (st := []) [.int 4, .int (S.1 0 36)] dX12_readWants_32 zm_X12_251 zM_X12_oldName (by decide) oM_0 rfl (w_X12_oldName l q1) rfl rfl (Nat.le_of_ble_eq_true rfl) ?_
  refine z_istore_n (pc := 35) (lo' := [(2, .int r3), (0, .ref 0), (1, .int x1)]) dX12_readWants_35 rfl (by decide) rfl ?_
  refine z_aload_n (pc := 36) (q := 1) dX12_readWants_36 rfl rfl ?_
  refine z_getI (pc := 37) dX12_readWants_37 zf_X12_173 gM_0_2 ?_
  refine z_if_ne (pc := 40) (tgt := 61) dX12_readWants_40 (by decide) (fun c4 => ?_) (fun c4 => ?_)
  · have h := ze_some c4 h
    exact z_sub [1, 2, 0] rfl (w_X12_readWants_B61 l x1 r3 T2 h)
  · have h := zt_some c4 h
    refine z_aload_n (pc := 43) (q := 1) dX12_readWants_43 rfl rfl ?_
    refine z_getR (pc := 44) dX12_readWants_44 zf_X12_51 gM_0_28 ?_
    refine z_iconst (pc := 47) (v := 4) dX12_readWants_47 zci_4 ?_
    refine z_iload_n (pc := 48) (q := 2) dX12_readWants_48 rfl rfl ?_
    refine z_imul (pc := 49) dX12_readWants_49 ?_
    refine z_iload_n (pc := 50) (q := 0) dX12_readWants_50 rfl rfl ?_
    refine z_iadd (pc := 51) dX12_readWants_51 ?_
    obtain ⟨c5, h⟩ := zg_some h
    refine z_iald (pc := 52) dX12_readWants_52 aM_13 c5 ?_
    refine z_if_le (pc := 53) (tgt := 61) dX12_readWants_53 (by decide) (fun c6 => ?_) (fun c6 => ?_)
    · have h := ze_some c6 h
      exact z_sub [1, 2, 0] rfl (w_X12_readWants_B61 l x1 r3 T2 h)
    · have h := zt_some c6 h
      refine z_aload_n (pc := 56) (q := 1) dX12_readWants_56 rfl rfl ?_
      refine z_iconst (pc := 57) (v := 3) dX12_readWants_57 zci_3 ?_
      obtain ⟨T8, q7, h⟩ := zu_some h
      refine z_callVv (pc := 58) (st := []) [.int 3] dX12_readWants_58 zm_X12_232 zM_X12_wrong (by decide) oM_0 rfl (w_X12_wrong l q7) rfl rfl (Nat.le_of_ble_eq_true rfl) ?_
      exact z_sub [1, 2, 0] rfl (w_X12_readWants_B61 l x1 r3 T8 h)
set_option maxRecDepth 100000 in
theorem w_X12_readWants (l : Launch)  {S : zS} {S1 : zS} (h : f_X12_readWants S = some S1) : zMet zLM l yX12_readWants cX12_readWants 5 none 5 [.ref 0] S none S1 := by
  unfold f_X12_readWants at h
  refine zMet.of (by decide +kernel) (Nat.le_of_ble_eq_true rfl) ?_
  show WA zLM l RX12 cX12_readWants 5 none 5 none S1 0 [(0, .ref 0)] [] S
  refine z_aload_n (pc := 0) (q := 0) dX12_readWants_0 rfl rfl ?_
  obtain ⟨T2, q1, h⟩ := zu_some h
  refine z_callVv (pc := 1) (st := []) [] dX12_readWants_1 zm_X12_235 zM_X12_token (by decide) oM_0 rfl (w_X12_token l q1) rfl rfl (Nat.le_of_ble_eq_true rfl) ?_
  refine z_aload_n (pc := 4) (q := 0) dX12_readWants_4 rfl rfl ?_
  refine z_bipush (pc := 5) (v := 16) dX12_readWants_5 zcb_16 ?_
  refine z_aload_n (pc := 7) (q := 0) dX12_readWants_7 rfl rfl ?_
  refine z_getI (pc := 8) dX12_readWants_8 zf_X12_347 gM_0_38 ?_
  obtain ⟨r5, T4, q3, h⟩ := zb_some h
  refine z_callVi (pc := 11) (st := []) [.int 16, .int (T2.1 0 38)] dX12_readWants_11 zm_X12_251 zM_X12_oldName (by decide) oM_0 rfl (w_X12_oldName l q3) rfl rfl (Nat.le_of_ble_eq_true rfl) ?_
  refine z_istore_n (pc := 14) (lo' := [(1, .int r5), (0, .ref 0)]) dX12_readWants_14 rfl (by decide) rfl ?_
  refine z_aload_n (pc := 15) (q := 1) dX12_readWants_15 rfl rfl ?_
  refine z_getI (pc := 16) dX12_readWants_16 zf_X12_173 gM_0_2 ?_
  refine z_if_ne (pc := 19) (tgt := 26) dX12_readWants_19 (by decide) (fun c6 => ?_) (fun c6 => ?_)
  · have h := ze_some c6 h
    exact z_sub [1, 0] rfl (w_X12_readWants_B26 l r5 T4 h)
  · have h := zt_some c6 h
    refine z_aload_n (pc := 22) (q := 1) dX12_readWants_22 rfl rfl ?_
    obtain ⟨T8, q7, h⟩ := zu_some h
    refine z_callVv (pc := 23) (st := []) [] dX12_readWants_23 zm_X12_235 zM_X12_token (by decide) oM_0 rfl (w_X12_token l q7) rfl rfl (Nat.le_of_ble_eq_true rfl) ?_
    exact z_sub [1, 0] rfl (w_X12_readWants_B26 l r5 T8 h)
def f_X12_readLine_B305  (S : zS) : Option zS :=
  if (S.1 0 2) = 0 then
    zu (f_X12_token S) fun T3 =>
    some T3
  else
    some S
def f_X12_readLine_B279  (S : zS) : Option zS :=
  zlet (zput S 0 48 1) fun T1 =>
  if (T1.1 0 2) = 0 then
    if (T1.1 0 6) = 59 then
      f_X12_readLine_B305 T1
    else
      zu (f_X12_wrong 2 T1) fun T5 =>
      f_X12_readLine_B305 T5
  else
    f_X12_readLine_B305 T1
def f_X12_readLine_B274  (S : zS) : Option zS :=
  zu (f_X12_wrong 2 S) fun T2 =>
  f_X12_readLine_B279 T2
def f_X12_readLine_B234  (S : zS) : Option zS :=
  zb (f_X12_isWord 1685217655 S) fun r3 T2 =>
  if r3 = 0 then
    f_X12_readLine_B274 T2
  else
    if (T2.1 0 51) = 0 then
      zlet (zput T2 0 51 1) fun T6 =>
      zb (f_X12_told 1685217655 0 999 T6) fun r9 T8 =>
      zlet (zput T8 0 41 r9) fun T10 =>
      f_X12_readLine_B279 T10
    else
      f_X12_readLine_B274 T2
def f_X12_readLine_B181  (S : zS) : Option zS :=
  zb (f_X12_isWord 440006570868 S) fun r3 T2 =>
  if r3 = 0 then
    f_X12_readLine_B234 T2
  else
    if (T2.1 0 50) = 0 then
      zlet (zput T2 0 50 1) fun T6 =>
      zb (f_X12_told 440006570868 0 100 T6) fun r9 T8 =>
      zlet (zput T8 0 39 r9) fun T10 =>
      zb (f_X12_told 28518 1 99 T10) fun r13 T12 =>
      zlet (zput T12 0 40 r13) fun T14 =>
      f_X12_readLine_B279 T14
    else
      f_X12_readLine_B234 T2
def f_X12_readLine_B135  (S : zS) : Option zS :=
  zb (f_X12_isWord 512735736947 S) fun r3 T2 =>
  if r3 = 0 then
    zb (f_X12_isWord 1735552887 T2) fun r7 T6 =>
    if r7 = 0 then
      f_X12_readLine_B181 T6
    else
      if (T6.1 0 49) = 0 then
        zlet (zput T6 0 49 1) fun T10 =>
        zu (f_X12_readGrow T10) fun T12 =>
        f_X12_readLine_B279 T12
      else
        f_X12_readLine_B181 T6
  else
    zu (f_X12_readWants T2) fun T6 =>
    f_X12_readLine_B279 T6
def f_X12_readLine_B110  (S : zS) : Option zS :=
  zb (f_X12_isWord 482671228025 S) fun r3 T2 =>
  if r3 = 0 then
    f_X12_readLine_B135 T2
  else
    if (T2.1 0 38) < 3 then
      zu (f_X12_readParty T2) fun T7 =>
      f_X12_readLine_B279 T7
    else
      f_X12_readLine_B135 T2
def f_X12_readLine_B84  (S : zS) : Option zS :=
  zb (f_X12_isWord 1651076204 S) fun r3 T2 =>
  if r3 = 0 then
    f_X12_readLine_B110 T2
  else
    if (T2.1 0 37) < 8 then
      zu (f_X12_readBill T2) fun T7 =>
      f_X12_readLine_B279 T7
    else
      f_X12_readLine_B110 T2
def f_X12_readLine_B59  (S : zS) : Option zS :=
  zb (f_X12_isWord 500085844323 S) fun r3 T2 =>
  if r3 = 0 then
    f_X12_readLine_B84 T2
  else
    if (T2.1 0 36) < 4 then
      zu (f_X12_readTopic T2) fun T7 =>
      f_X12_readLine_B279 T7
    else
      f_X12_readLine_B84 T2
def f_X12_readLine_B34  (S : zS) : Option zS :=
  zb (f_X12_isWord 482854661748 S) fun r3 T2 =>
  if r3 = 0 then
    f_X12_readLine_B59 T2
  else
    if (T2.1 0 35) < 4 then
      zu (f_X12_readPlant T2) fun T7 =>
      f_X12_readLine_B279 T7
    else
      f_X12_readLine_B59 T2
def f_X12_readLine  (S : zS) : Option zS :=
  zb (f_X12_isWord 126943687828851 S) fun r3 T2 =>
  if r3 = 0 then
    f_X12_readLine_B34 T2
  else
    if (T2.1 0 48) = 0 then
      zb (f_X12_told 126943687828851 2 12 T2) fun r8 T7 =>
      zlet (zput T7 0 34 r8) fun T9 =>
      f_X12_readLine_B279 T9
    else
      f_X12_readLine_B34 T2
set_option maxRecDepth 100000 in
theorem w_X12_readLine_B305 (l : Launch) {S1 : zS}  (S : zS) (h : f_X12_readLine_B305 S = some S1) : WA zLM l RX12 cX12_readLine 1 none 6 none S1 305 [(0, .ref 0)] [] S := by
  unfold f_X12_readLine_B305 at h
  refine z_aload_n (pc := 305) (q := 0) dX12_readLine_305 rfl rfl ?_
  refine z_getI (pc := 306) dX12_readLine_306 zf_X12_173 gM_0_2 ?_
  refine z_if_ne (pc := 309) (tgt := 316) dX12_readLine_309 (by decide) (fun c1 => ?_) (fun c1 => ?_)
  · have h := ze_some c1 h
    cases h
    exact z_vret dX12_readLine_316
  · have h := zt_some c1 h
    refine z_aload_n (pc := 312) (q := 0) dX12_readLine_312 rfl rfl ?_
    obtain ⟨T3, q2, h⟩ := zu_some h
    refine z_callVv (pc := 313) (st := []) [] dX12_readLine_313 zm_X12_235 zM_X12_token (by decide) oM_0 rfl (w_X12_token l q2) rfl rfl (Nat.le_of_ble_eq_true rfl) ?_
    cases h
    exact z_vret dX12_readLine_316
set_option maxRecDepth 100000 in
theorem w_X12_readLine_B279 (l : Launch) {S1 : zS}  (S : zS) (h : f_X12_readLine_B279 S = some S1) : WA zLM l RX12 cX12_readLine 1 none 6 none S1 279 [(0, .ref 0)] [] S := by
  unfold f_X12_readLine_B279 at h
  refine z_aload_n (pc := 279) (q := 0) dX12_readLine_279 rfl rfl ?_
  refine z_iconst (pc := 280) (v := 1) dX12_readLine_280 zci_1 ?_
  obtain ⟨T1, eT1, h⟩ := zl_some h
  refine z_putI (pc := 281) dX12_readLine_281 zp_X12_350 gM_0_48 rfl rfl eT1 ?_
  refine z_aload_n (pc := 284) (q := 0) dX12_readLine_284 rfl rfl ?_
  refine z_getI (pc := 285) dX12_readLine_285 zf_X12_173 gM_0_2 ?_
  refine z_if_ne (pc := 288) (tgt := 305) dX12_readLine_288 (by decide) (fun c2 => ?_) (fun c2 => ?_)
  · have h := ze_some c2 h
    exact w_X12_readLine_B305 l T1 h
  · have h := zt_some c2 h
    refine z_aload_n (pc := 291) (q := 0) dX12_readLine_291 rfl rfl ?_
    refine z_getI (pc := 292) dX12_readLine_292 zf_X12_160 gM_0_6 ?_
    refine z_bipush (pc := 295) (v := 59) dX12_readLine_295 zcb_59 ?_
    refine z_icmp_eq (pc := 297) (tgt := 305) dX12_readLine_297 (by decide) (fun c3 => ?_) (fun c3 => ?_)
    · have h := zt_some c3 h
      exact w_X12_readLine_B305 l T1 h
    · have h := ze_some c3 h
      refine z_aload_n (pc := 300) (q := 0) dX12_readLine_300 rfl rfl ?_
      refine z_iconst (pc := 301) (v := 2) dX12_readLine_301 zci_2 ?_
      obtain ⟨T5, q4, h⟩ := zu_some h
      refine z_callVv (pc := 302) (st := []) [.int 2] dX12_readLine_302 zm_X12_232 zM_X12_wrong (by decide) oM_0 rfl (w_X12_wrong l q4) rfl rfl (Nat.le_of_ble_eq_true rfl) ?_
      exact w_X12_readLine_B305 l T5 h
set_option maxRecDepth 100000 in
theorem w_X12_readLine_B274 (l : Launch) {S1 : zS}  (S : zS) (h : f_X12_readLine_B274 S = some S1) : WA zLM l RX12 cX12_readLine 1 none 6 none S1 274 [(0, .ref 0)] [] S := by
  unfold f_X12_readLine_B274 at h
  refine z_aload_n (pc := 274) (q := 0) dX12_readLine_274 rfl rfl ?_
  refine z_iconst (pc := 275) (v := 2) dX12_readLine_275 zci_2 ?_
  obtain ⟨T2, q1, h⟩ := zu_some h
  refine z_callVv (pc := 276) (st := []) [.int 2] dX12_readLine_276 zm_X12_232 zM_X12_wrong (by decide) oM_0 rfl (w_X12_wrong l q1) rfl rfl (Nat.le_of_ble_eq_true rfl) ?_
  exact w_X12_readLine_B279 l T2 h
set_option maxRecDepth 100000 in
theorem w_X12_readLine_B234 (l : Launch) {S1 : zS}  (S : zS) (h : f_X12_readLine_B234 S = some S1) : WA zLM l RX12 cX12_readLine 1 none 6 none S1 234 [(0, .ref 0)] [] S := by
  unfold f_X12_readLine_B234 at h
  refine z_aload_n (pc := 234) (q := 0) dX12_readLine_234 rfl rfl ?_
  refine z_ldc2 (pc := 235) dX12_readLine_235 zk_X12_208 ?_
  obtain ⟨r3, T2, q1, h⟩ := zb_some h
  refine z_callVi (pc := 238) (st := []) [.long 1685217655] dX12_readLine_238 zm_X12_228 zM_X12_isWord (by decide) oM_0 rfl (w_X12_isWord l q1) rfl rfl (Nat.le_of_ble_eq_true rfl) ?_
  refine z_if_eq (pc := 241) (tgt := 274) dX12_readLine_241 (by decide) (fun c4 => ?_) (fun c4 => ?_)
  · have h := zt_some c4 h
    exact w_X12_readLine_B274 l T2 h
  · have h := ze_some c4 h
    refine z_aload_n (pc := 244) (q := 0) dX12_readLine_244 rfl rfl ?_
    refine z_getI (pc := 245) dX12_readLine_245 zf_X12_383 gM_0_51 ?_
    refine z_if_ne (pc := 248) (tgt := 274) dX12_readLine_248 (by decide) (fun c5 => ?_) (fun c5 => ?_)
    · have h := ze_some c5 h
      exact w_X12_readLine_B274 l T2 h
    · have h := zt_some c5 h
      refine z_aload_n (pc := 251) (q := 0) dX12_readLine_251 rfl rfl ?_
      refine z_iconst (pc := 252) (v := 1) dX12_readLine_252 zci_1 ?_
      obtain ⟨T6, eT6, h⟩ := zl_some h
      refine z_putI (pc := 253) dX12_readLine_253 zp_X12_383 gM_0_51 rfl rfl eT6 ?_
      refine z_aload_n (pc := 256) (q := 0) dX12_readLine_256 rfl rfl ?_
      refine z_aload_n (pc := 257) (q := 0) dX12_readLine_257 rfl rfl ?_
      refine z_ldc2 (pc := 258) dX12_readLine_258 zk_X12_208 ?_
      refine z_iconst (pc := 261) (v := 0) dX12_readLine_261 zci_0 ?_
      refine z_sipush (pc := 262) (v := 999) dX12_readLine_262 zcs_999 ?_
      obtain ⟨r9, T8, q7, h⟩ := zb_some h
      refine z_callVi (pc := 265) (st := [.ref 0]) [.long 1685217655, .int 0, .int 999] dX12_readLine_265 zm_X12_328 zM_X12_told (by decide) oM_0 rfl (w_X12_told l q7) rfl rfl (Nat.le_of_ble_eq_true rfl) ?_
      obtain ⟨T10, eT10, h⟩ := zl_some h
      refine z_putI (pc := 268) dX12_readLine_268 zp_X12_386 gM_0_41 rfl rfl eT10 ?_
      refine z_goto (pc := 271) (tgt := 279) dX12_readLine_271 (by decide) ?_
      exact w_X12_readLine_B279 l T10 h
set_option maxRecDepth 100000 in
theorem w_X12_readLine_B181 (l : Launch) {S1 : zS}  (S : zS) (h : f_X12_readLine_B181 S = some S1) : WA zLM l RX12 cX12_readLine 1 none 6 none S1 181 [(0, .ref 0)] [] S := by
  unfold f_X12_readLine_B181 at h
  refine z_aload_n (pc := 181) (q := 0) dX12_readLine_181 rfl rfl ?_
  refine z_ldc2 (pc := 182) dX12_readLine_182 zk_X12_206 ?_
  obtain ⟨r3, T2, q1, h⟩ := zb_some h
  refine z_callVi (pc := 185) (st := []) [.long 440006570868] dX12_readLine_185 zm_X12_228 zM_X12_isWord (by decide) oM_0 rfl (w_X12_isWord l q1) rfl rfl (Nat.le_of_ble_eq_true rfl) ?_
  refine z_if_eq (pc := 188) (tgt := 234) dX12_readLine_188 (by decide) (fun c4 => ?_) (fun c4 => ?_)
  · have h := zt_some c4 h
    exact w_X12_readLine_B234 l T2 h
  · have h := ze_some c4 h
    refine z_aload_n (pc := 191) (q := 0) dX12_readLine_191 rfl rfl ?_
    refine z_getI (pc := 192) dX12_readLine_192 zf_X12_374 gM_0_50 ?_
    refine z_if_ne (pc := 195) (tgt := 234) dX12_readLine_195 (by decide) (fun c5 => ?_) (fun c5 => ?_)
    · have h := ze_some c5 h
      exact w_X12_readLine_B234 l T2 h
    · have h := zt_some c5 h
      refine z_aload_n (pc := 198) (q := 0) dX12_readLine_198 rfl rfl ?_
      refine z_iconst (pc := 199) (v := 1) dX12_readLine_199 zci_1 ?_
      obtain ⟨T6, eT6, h⟩ := zl_some h
      refine z_putI (pc := 200) dX12_readLine_200 zp_X12_374 gM_0_50 rfl rfl eT6 ?_
      refine z_aload_n (pc := 203) (q := 0) dX12_readLine_203 rfl rfl ?_
      refine z_aload_n (pc := 204) (q := 0) dX12_readLine_204 rfl rfl ?_
      refine z_ldc2 (pc := 205) dX12_readLine_205 zk_X12_206 ?_
      refine z_iconst (pc := 208) (v := 0) dX12_readLine_208 zci_0 ?_
      refine z_bipush (pc := 209) (v := 100) dX12_readLine_209 zcb_100 ?_
      obtain ⟨r9, T8, q7, h⟩ := zb_some h
      refine z_callVi (pc := 211) (st := [.ref 0]) [.long 440006570868, .int 0, .int 100] dX12_readLine_211 zm_X12_328 zM_X12_told (by decide) oM_0 rfl (w_X12_told l q7) rfl rfl (Nat.le_of_ble_eq_true rfl) ?_
      obtain ⟨T10, eT10, h⟩ := zl_some h
      refine z_putI (pc := 214) dX12_readLine_214 zp_X12_377 gM_0_39 rfl rfl eT10 ?_
      refine z_aload_n (pc := 217) (q := 0) dX12_readLine_217 rfl rfl ?_
      refine z_aload_n (pc := 218) (q := 0) dX12_readLine_218 rfl rfl ?_
      refine z_ldc2 (pc := 219) dX12_readLine_219 zk_X12_188 ?_
      refine z_iconst (pc := 222) (v := 1) dX12_readLine_222 zci_1 ?_
      refine z_bipush (pc := 223) (v := 99) dX12_readLine_223 zcb_99 ?_
      obtain ⟨r13, T12, q11, h⟩ := zb_some h
      refine z_callVi (pc := 225) (st := [.ref 0]) [.long 28518, .int 1, .int 99] dX12_readLine_225 zm_X12_328 zM_X12_told (by decide) oM_0 rfl (w_X12_told l q11) rfl rfl (Nat.le_of_ble_eq_true rfl) ?_
      obtain ⟨T14, eT14, h⟩ := zl_some h
      refine z_putI (pc := 228) dX12_readLine_228 zp_X12_380 gM_0_40 rfl rfl eT14 ?_
      refine z_goto (pc := 231) (tgt := 279) dX12_readLine_231 (by decide) ?_
      exact w_X12_readLine_B279 l T14 h
set_option maxRecDepth 100000 in
theorem w_X12_readLine_B135 (l : Launch) {S1 : zS}  (S : zS) (h : f_X12_readLine_B135 S = some S1) : WA zLM l RX12 cX12_readLine 1 none 6 none S1 135 [(0, .ref 0)] [] S := by
  unfold f_X12_readLine_B135 at h
  refine z_aload_n (pc := 135) (q := 0) dX12_readLine_135 rfl rfl ?_
  refine z_ldc2 (pc := 136) dX12_readLine_136 zk_X12_200 ?_
  obtain ⟨r3, T2, q1, h⟩ := zb_some h
  refine z_callVi (pc := 139) (st := []) [.long 512735736947] dX12_readLine_139 zm_X12_228 zM_X12_isWord (by decide) oM_0 rfl (w_X12_isWord l q1) rfl rfl (Nat.le_of_ble_eq_true rfl) ?_
  refine z_if_eq (pc := 142) (tgt := 152) dX12_readLine_142 (by decide) (fun c4 => ?_) (fun c4 => ?_)
  · have h := zt_some c4 h
    refine z_aload_n (pc := 152) (q := 0) dX12_readLine_152 rfl rfl ?_
    refine z_ldc2 (pc := 153) dX12_readLine_153 zk_X12_204 ?_
    obtain ⟨r7, T6, q5, h⟩ := zb_some h
    refine z_callVi (pc := 156) (st := []) [.long 1735552887] dX12_readLine_156 zm_X12_228 zM_X12_isWord (by decide) oM_0 rfl (w_X12_isWord l q5) rfl rfl (Nat.le_of_ble_eq_true rfl) ?_
    refine z_if_eq (pc := 159) (tgt := 181) dX12_readLine_159 (by decide) (fun c8 => ?_) (fun c8 => ?_)
    · have h := zt_some c8 h
      exact w_X12_readLine_B181 l T6 h
    · have h := ze_some c8 h
      refine z_aload_n (pc := 162) (q := 0) dX12_readLine_162 rfl rfl ?_
      refine z_getI (pc := 163) dX12_readLine_163 zf_X12_368 gM_0_49 ?_
      refine z_if_ne (pc := 166) (tgt := 181) dX12_readLine_166 (by decide) (fun c9 => ?_) (fun c9 => ?_)
      · have h := ze_some c9 h
        exact w_X12_readLine_B181 l T6 h
      · have h := zt_some c9 h
        refine z_aload_n (pc := 169) (q := 0) dX12_readLine_169 rfl rfl ?_
        refine z_iconst (pc := 170) (v := 1) dX12_readLine_170 zci_1 ?_
        obtain ⟨T10, eT10, h⟩ := zl_some h
        refine z_putI (pc := 171) dX12_readLine_171 zp_X12_368 gM_0_49 rfl rfl eT10 ?_
        refine z_aload_n (pc := 174) (q := 0) dX12_readLine_174 rfl rfl ?_
        obtain ⟨T12, q11, h⟩ := zu_some h
        refine z_callVv (pc := 175) (st := []) [] dX12_readLine_175 zm_X12_371 zM_X12_readGrow (by decide) oM_0 rfl (w_X12_readGrow l q11) rfl rfl (Nat.le_of_ble_eq_true rfl) ?_
        refine z_goto (pc := 178) (tgt := 279) dX12_readLine_178 (by decide) ?_
        exact w_X12_readLine_B279 l T12 h
  · have h := ze_some c4 h
    refine z_aload_n (pc := 145) (q := 0) dX12_readLine_145 rfl rfl ?_
    obtain ⟨T6, q5, h⟩ := zu_some h
    refine z_callVv (pc := 146) (st := []) [] dX12_readLine_146 zm_X12_365 zM_X12_readWants (by decide) oM_0 rfl (w_X12_readWants l q5) rfl rfl (Nat.le_of_ble_eq_true rfl) ?_
    refine z_goto (pc := 149) (tgt := 279) dX12_readLine_149 (by decide) ?_
    exact w_X12_readLine_B279 l T6 h
set_option maxRecDepth 100000 in
theorem w_X12_readLine_B110 (l : Launch) {S1 : zS}  (S : zS) (h : f_X12_readLine_B110 S = some S1) : WA zLM l RX12 cX12_readLine 1 none 6 none S1 110 [(0, .ref 0)] [] S := by
  unfold f_X12_readLine_B110 at h
  refine z_aload_n (pc := 110) (q := 0) dX12_readLine_110 rfl rfl ?_
  refine z_ldc2 (pc := 111) dX12_readLine_111 zk_X12_198 ?_
  obtain ⟨r3, T2, q1, h⟩ := zb_some h
  refine z_callVi (pc := 114) (st := []) [.long 482671228025] dX12_readLine_114 zm_X12_228 zM_X12_isWord (by decide) oM_0 rfl (w_X12_isWord l q1) rfl rfl (Nat.le_of_ble_eq_true rfl) ?_
  refine z_if_eq (pc := 117) (tgt := 135) dX12_readLine_117 (by decide) (fun c4 => ?_) (fun c4 => ?_)
  · have h := zt_some c4 h
    exact w_X12_readLine_B135 l T2 h
  · have h := ze_some c4 h
    refine z_aload_n (pc := 120) (q := 0) dX12_readLine_120 rfl rfl ?_
    refine z_getI (pc := 121) dX12_readLine_121 zf_X12_347 gM_0_38 ?_
    refine z_iconst (pc := 124) (v := 3) dX12_readLine_124 zci_3 ?_
    refine z_icmp_ge (pc := 125) (tgt := 135) dX12_readLine_125 (by decide) (fun c5 => ?_) (fun c5 => ?_)
    · have h := ze_some c5 h
      exact w_X12_readLine_B135 l T2 h
    · have h := zt_some c5 h
      refine z_aload_n (pc := 128) (q := 0) dX12_readLine_128 rfl rfl ?_
      obtain ⟨T7, q6, h⟩ := zu_some h
      refine z_callVv (pc := 129) (st := []) [] dX12_readLine_129 zm_X12_362 zM_X12_readParty (by decide) oM_0 rfl (w_X12_readParty l q6) rfl rfl (Nat.le_of_ble_eq_true rfl) ?_
      refine z_goto (pc := 132) (tgt := 279) dX12_readLine_132 (by decide) ?_
      exact w_X12_readLine_B279 l T7 h
set_option maxRecDepth 100000 in
theorem w_X12_readLine_B84 (l : Launch) {S1 : zS}  (S : zS) (h : f_X12_readLine_B84 S = some S1) : WA zLM l RX12 cX12_readLine 1 none 6 none S1 84 [(0, .ref 0)] [] S := by
  unfold f_X12_readLine_B84 at h
  refine z_aload_n (pc := 84) (q := 0) dX12_readLine_84 rfl rfl ?_
  refine z_ldc2 (pc := 85) dX12_readLine_85 zk_X12_186 ?_
  obtain ⟨r3, T2, q1, h⟩ := zb_some h
  refine z_callVi (pc := 88) (st := []) [.long 1651076204] dX12_readLine_88 zm_X12_228 zM_X12_isWord (by decide) oM_0 rfl (w_X12_isWord l q1) rfl rfl (Nat.le_of_ble_eq_true rfl) ?_
  refine z_if_eq (pc := 91) (tgt := 110) dX12_readLine_91 (by decide) (fun c4 => ?_) (fun c4 => ?_)
  · have h := zt_some c4 h
    exact w_X12_readLine_B110 l T2 h
  · have h := ze_some c4 h
    refine z_aload_n (pc := 94) (q := 0) dX12_readLine_94 rfl rfl ?_
    refine z_getI (pc := 95) dX12_readLine_95 zf_X12_335 gM_0_37 ?_
    refine z_bipush (pc := 98) (v := 8) dX12_readLine_98 zcb_8 ?_
    refine z_icmp_ge (pc := 100) (tgt := 110) dX12_readLine_100 (by decide) (fun c5 => ?_) (fun c5 => ?_)
    · have h := ze_some c5 h
      exact w_X12_readLine_B110 l T2 h
    · have h := zt_some c5 h
      refine z_aload_n (pc := 103) (q := 0) dX12_readLine_103 rfl rfl ?_
      obtain ⟨T7, q6, h⟩ := zu_some h
      refine z_callVv (pc := 104) (st := []) [] dX12_readLine_104 zm_X12_359 zM_X12_readBill (by decide) oM_0 rfl (w_X12_readBill l q6) rfl rfl (Nat.le_of_ble_eq_true rfl) ?_
      refine z_goto (pc := 107) (tgt := 279) dX12_readLine_107 (by decide) ?_
      exact w_X12_readLine_B279 l T7 h
set_option maxRecDepth 100000 in
theorem w_X12_readLine_B59 (l : Launch) {S1 : zS}  (S : zS) (h : f_X12_readLine_B59 S = some S1) : WA zLM l RX12 cX12_readLine 1 none 6 none S1 59 [(0, .ref 0)] [] S := by
  unfold f_X12_readLine_B59 at h
  refine z_aload_n (pc := 59) (q := 0) dX12_readLine_59 rfl rfl ?_
  refine z_ldc2 (pc := 60) dX12_readLine_60 zk_X12_184 ?_
  obtain ⟨r3, T2, q1, h⟩ := zb_some h
  refine z_callVi (pc := 63) (st := []) [.long 500085844323] dX12_readLine_63 zm_X12_228 zM_X12_isWord (by decide) oM_0 rfl (w_X12_isWord l q1) rfl rfl (Nat.le_of_ble_eq_true rfl) ?_
  refine z_if_eq (pc := 66) (tgt := 84) dX12_readLine_66 (by decide) (fun c4 => ?_) (fun c4 => ?_)
  · have h := zt_some c4 h
    exact w_X12_readLine_B84 l T2 h
  · have h := ze_some c4 h
    refine z_aload_n (pc := 69) (q := 0) dX12_readLine_69 rfl rfl ?_
    refine z_getI (pc := 70) dX12_readLine_70 zf_X12_332 gM_0_36 ?_
    refine z_iconst (pc := 73) (v := 4) dX12_readLine_73 zci_4 ?_
    refine z_icmp_ge (pc := 74) (tgt := 84) dX12_readLine_74 (by decide) (fun c5 => ?_) (fun c5 => ?_)
    · have h := ze_some c5 h
      exact w_X12_readLine_B84 l T2 h
    · have h := zt_some c5 h
      refine z_aload_n (pc := 77) (q := 0) dX12_readLine_77 rfl rfl ?_
      obtain ⟨T7, q6, h⟩ := zu_some h
      refine z_callVv (pc := 78) (st := []) [] dX12_readLine_78 zm_X12_356 zM_X12_readTopic (by decide) oM_0 rfl (w_X12_readTopic l q6) rfl rfl (Nat.le_of_ble_eq_true rfl) ?_
      refine z_goto (pc := 81) (tgt := 279) dX12_readLine_81 (by decide) ?_
      exact w_X12_readLine_B279 l T7 h
set_option maxRecDepth 100000 in
theorem w_X12_readLine_B34 (l : Launch) {S1 : zS}  (S : zS) (h : f_X12_readLine_B34 S = some S1) : WA zLM l RX12 cX12_readLine 1 none 6 none S1 34 [(0, .ref 0)] [] S := by
  unfold f_X12_readLine_B34 at h
  refine z_aload_n (pc := 34) (q := 0) dX12_readLine_34 rfl rfl ?_
  refine z_ldc2 (pc := 35) dX12_readLine_35 zk_X12_178 ?_
  obtain ⟨r3, T2, q1, h⟩ := zb_some h
  refine z_callVi (pc := 38) (st := []) [.long 482854661748] dX12_readLine_38 zm_X12_228 zM_X12_isWord (by decide) oM_0 rfl (w_X12_isWord l q1) rfl rfl (Nat.le_of_ble_eq_true rfl) ?_
  refine z_if_eq (pc := 41) (tgt := 59) dX12_readLine_41 (by decide) (fun c4 => ?_) (fun c4 => ?_)
  · have h := zt_some c4 h
    exact w_X12_readLine_B59 l T2 h
  · have h := ze_some c4 h
    refine z_aload_n (pc := 44) (q := 0) dX12_readLine_44 rfl rfl ?_
    refine z_getI (pc := 45) dX12_readLine_45 zf_X12_322 gM_0_35 ?_
    refine z_iconst (pc := 48) (v := 4) dX12_readLine_48 zci_4 ?_
    refine z_icmp_ge (pc := 49) (tgt := 59) dX12_readLine_49 (by decide) (fun c5 => ?_) (fun c5 => ?_)
    · have h := ze_some c5 h
      exact w_X12_readLine_B59 l T2 h
    · have h := zt_some c5 h
      refine z_aload_n (pc := 52) (q := 0) dX12_readLine_52 rfl rfl ?_
      obtain ⟨T7, q6, h⟩ := zu_some h
      refine z_callVv (pc := 53) (st := []) [] dX12_readLine_53 zm_X12_353 zM_X12_readPlant (by decide) oM_0 rfl (w_X12_readPlant l q6) rfl rfl (Nat.le_of_ble_eq_true rfl) ?_
      refine z_goto (pc := 56) (tgt := 279) dX12_readLine_56 (by decide) ?_
      exact w_X12_readLine_B279 l T7 h
set_option maxRecDepth 100000 in
theorem w_X12_readLine (l : Launch)  {S : zS} {S1 : zS} (h : f_X12_readLine S = some S1) : zMet zLM l yX12_readLine cX12_readLine 1 none 6 [.ref 0] S none S1 := by
  unfold f_X12_readLine at h
  refine zMet.of (by decide +kernel) (Nat.le_of_ble_eq_true rfl) ?_
  show WA zLM l RX12 cX12_readLine 1 none 6 none S1 0 [(0, .ref 0)] [] S
  refine z_aload_n (pc := 0) (q := 0) dX12_readLine_0 rfl rfl ?_
  refine z_ldc2 (pc := 1) dX12_readLine_1 zk_X12_176 ?_
  obtain ⟨r3, T2, q1, h⟩ := zb_some h
  refine z_callVi (pc := 4) (st := []) [.long 126943687828851] dX12_readLine_4 zm_X12_228 zM_X12_isWord (by decide) oM_0 rfl (w_X12_isWord l q1) rfl rfl (Nat.le_of_ble_eq_true rfl) ?_
  refine z_if_eq (pc := 7) (tgt := 34) dX12_readLine_7 (by decide) (fun c4 => ?_) (fun c4 => ?_)
  · have h := zt_some c4 h
    exact w_X12_readLine_B34 l T2 h
  · have h := ze_some c4 h
    refine z_aload_n (pc := 10) (q := 0) dX12_readLine_10 rfl rfl ?_
    refine z_getI (pc := 11) dX12_readLine_11 zf_X12_350 gM_0_48 ?_
    refine z_if_ne (pc := 14) (tgt := 34) dX12_readLine_14 (by decide) (fun c5 => ?_) (fun c5 => ?_)
    · have h := ze_some c5 h
      exact w_X12_readLine_B34 l T2 h
    · have h := zt_some c5 h
      refine z_aload_n (pc := 17) (q := 0) dX12_readLine_17 rfl rfl ?_
      refine z_aload_n (pc := 18) (q := 0) dX12_readLine_18 rfl rfl ?_
      refine z_ldc2 (pc := 19) dX12_readLine_19 zk_X12_176 ?_
      refine z_iconst (pc := 22) (v := 2) dX12_readLine_22 zci_2 ?_
      refine z_bipush (pc := 23) (v := 12) dX12_readLine_23 zcb_12 ?_
      obtain ⟨r8, T7, q6, h⟩ := zb_some h
      refine z_callVi (pc := 25) (st := [.ref 0]) [.long 126943687828851, .int 2, .int 12] dX12_readLine_25 zm_X12_328 zM_X12_told (by decide) oM_0 rfl (w_X12_told l q6) rfl rfl (Nat.le_of_ble_eq_true rfl) ?_
      obtain ⟨T9, eT9, h⟩ := zl_some h
      refine z_putI (pc := 28) dX12_readLine_28 zp_X12_338 gM_0_34 rfl rfl eT9 ?_
      refine z_goto (pc := 31) (tgt := 279) dX12_readLine_31 (by decide) ?_
      exact w_X12_readLine_B279 l T9 h
def f_X12_readAll_L103 : Nat → zS → Option zS
  | 0, _ => none
  | n + 1, S =>
    if (S.1 0 2) = 0 then
      if (S.1 0 6) = 0 then
        some S
      else
        zu (f_X12_readLine S) fun T4 =>
        (f_X12_readAll_L103 n) T4
    else
      some S
def f_X12_readAll  (S : zS) : Option zS :=
  zlet (zput S 0 5 (S.1 0 1)) fun T1 =>
  zlet (zput T1 0 1 0) fun T2 =>
  zlet (zput T2 0 4 0) fun T3 =>
  zlet (zput T3 0 2 0) fun T4 =>
  zlet (zput T4 0 3 (-1)) fun T5 =>
  zlet (zput T5 0 34 8) fun T6 =>
  zlet (zput T6 0 35 0) fun T7 =>
  zlet (zput T7 0 36 0) fun T8 =>
  zlet (zput T8 0 37 0) fun T9 =>
  zlet (zput T9 0 38 0) fun T10 =>
  zlet (zput T10 0 39 0) fun T11 =>
  zlet (zput T11 0 40 1) fun T12 =>
  zlet (zput T12 0 41 0) fun T13 =>
  zlet (zput T13 0 48 0) fun T14 =>
  zlet (zput T14 0 49 0) fun T15 =>
  zlet (zput T15 0 50 0) fun T16 =>
  zlet (zput T16 0 51 0) fun T17 =>
  zlet (zput T17 0 20 0) fun T18 =>
  zlet (zput T18 0 17 0) fun T19 =>
  zu (f_X12_token T19) fun T21 =>
  f_X12_readAll_L103 zN T21
set_option maxRecDepth 100000 in
theorem w_X12_readAll_L103 (l : Launch) {S1 : zS} : ∀ (n : Nat)  (S : zS), f_X12_readAll_L103 n S = some S1 → WA zLM l RX12 cX12_readAll 1 none 7 none S1 103 [(0, .ref 0)] [] S := by
  intro n
  induction n with
  | zero =>
    intro  S h
    exact nomatch h
  | succ n ih =>
    intro  S h
    rw [f_X12_readAll_L103] at h
    refine z_aload_n (pc := 103) (q := 0) dX12_readAll_103 rfl rfl ?_
    refine z_getI (pc := 104) dX12_readAll_104 zf_X12_173 gM_0_2 ?_
    refine z_if_ne (pc := 107) (tgt := 124) dX12_readAll_107 (by decide) (fun c1 => ?_) (fun c1 => ?_)
    · have h := ze_some c1 h
      cases h
      exact z_vret dX12_readAll_124
    · have h := zt_some c1 h
      refine z_aload_n (pc := 110) (q := 0) dX12_readAll_110 rfl rfl ?_
      refine z_getI (pc := 111) dX12_readAll_111 zf_X12_160 gM_0_6 ?_
      refine z_if_eq (pc := 114) (tgt := 124) dX12_readAll_114 (by decide) (fun c2 => ?_) (fun c2 => ?_)
      · have h := zt_some c2 h
        cases h
        exact z_vret dX12_readAll_124
      · have h := ze_some c2 h
        refine z_aload_n (pc := 117) (q := 0) dX12_readAll_117 rfl rfl ?_
        obtain ⟨T4, q3, h⟩ := zu_some h
        refine z_callVv (pc := 118) (st := []) [] dX12_readAll_118 zm_X12_389 zM_X12_readLine (by decide) oM_0 rfl (w_X12_readLine l q3) rfl rfl (Nat.le_of_ble_eq_true rfl) ?_
        refine z_goto (pc := 121) (tgt := 103) dX12_readAll_121 (by decide) ?_
        exact ih T4 h
set_option maxRecDepth 100000 in
theorem w_X12_readAll (l : Launch)  {S : zS} {S1 : zS} (h : f_X12_readAll S = some S1) : zMet zLM l yX12_readAll cX12_readAll 1 none 7 [.ref 0] S none S1 := by
  unfold f_X12_readAll at h
  refine zMet.of (by decide +kernel) (Nat.le_of_ble_eq_true rfl) ?_
  show WA zLM l RX12 cX12_readAll 1 none 7 none S1 0 [(0, .ref 0)] [] S
  refine z_aload_n (pc := 0) (q := 0) dX12_readAll_0 rfl rfl ?_
  refine z_aload_n (pc := 1) (q := 0) dX12_readAll_1 rfl rfl ?_
  refine z_getI (pc := 2) dX12_readAll_2 zf_X12_133 gM_0_1 ?_
  obtain ⟨T1, eT1, h⟩ := zl_some h
  refine z_putI (pc := 5) dX12_readAll_5 zp_X12_143 gM_0_5 rfl rfl eT1 ?_
  refine z_aload_n (pc := 8) (q := 0) dX12_readAll_8 rfl rfl ?_
  refine z_iconst (pc := 9) (v := 0) dX12_readAll_9 zci_0 ?_
  obtain ⟨T2, eT2, h⟩ := zl_some h
  refine z_putI (pc := 10) dX12_readAll_10 zp_X12_133 gM_0_1 rfl rfl eT2 ?_
  refine z_aload_n (pc := 13) (q := 0) dX12_readAll_13 rfl rfl ?_
  refine z_iconst (pc := 14) (v := 0) dX12_readAll_14 zci_0 ?_
  obtain ⟨T3, eT3, h⟩ := zl_some h
  refine z_putI (pc := 15) dX12_readAll_15 zp_X12_140 gM_0_4 rfl rfl eT3 ?_
  refine z_aload_n (pc := 18) (q := 0) dX12_readAll_18 rfl rfl ?_
  refine z_iconst (pc := 19) (v := 0) dX12_readAll_19 zci_0 ?_
  obtain ⟨T4, eT4, h⟩ := zl_some h
  refine z_putI (pc := 20) dX12_readAll_20 zp_X12_173 gM_0_2 rfl rfl eT4 ?_
  refine z_aload_n (pc := 23) (q := 0) dX12_readAll_23 rfl rfl ?_
  refine z_iconst (pc := 24) (v := (-1)) dX12_readAll_24 zci_m1 ?_
  obtain ⟨T5, eT5, h⟩ := zl_some h
  refine z_putI (pc := 25) dX12_readAll_25 zp_X12_13 gM_0_3 rfl rfl eT5 ?_
  refine z_aload_n (pc := 28) (q := 0) dX12_readAll_28 rfl rfl ?_
  refine z_bipush (pc := 29) (v := 8) dX12_readAll_29 zcb_8 ?_
  obtain ⟨T6, eT6, h⟩ := zl_some h
  refine z_putI (pc := 31) dX12_readAll_31 zp_X12_338 gM_0_34 rfl rfl eT6 ?_
  refine z_aload_n (pc := 34) (q := 0) dX12_readAll_34 rfl rfl ?_
  refine z_iconst (pc := 35) (v := 0) dX12_readAll_35 zci_0 ?_
  obtain ⟨T7, eT7, h⟩ := zl_some h
  refine z_putI (pc := 36) dX12_readAll_36 zp_X12_322 gM_0_35 rfl rfl eT7 ?_
  refine z_aload_n (pc := 39) (q := 0) dX12_readAll_39 rfl rfl ?_
  refine z_iconst (pc := 40) (v := 0) dX12_readAll_40 zci_0 ?_
  obtain ⟨T8, eT8, h⟩ := zl_some h
  refine z_putI (pc := 41) dX12_readAll_41 zp_X12_332 gM_0_36 rfl rfl eT8 ?_
  refine z_aload_n (pc := 44) (q := 0) dX12_readAll_44 rfl rfl ?_
  refine z_iconst (pc := 45) (v := 0) dX12_readAll_45 zci_0 ?_
  obtain ⟨T9, eT9, h⟩ := zl_some h
  refine z_putI (pc := 46) dX12_readAll_46 zp_X12_335 gM_0_37 rfl rfl eT9 ?_
  refine z_aload_n (pc := 49) (q := 0) dX12_readAll_49 rfl rfl ?_
  refine z_iconst (pc := 50) (v := 0) dX12_readAll_50 zci_0 ?_
  obtain ⟨T10, eT10, h⟩ := zl_some h
  refine z_putI (pc := 51) dX12_readAll_51 zp_X12_347 gM_0_38 rfl rfl eT10 ?_
  refine z_aload_n (pc := 54) (q := 0) dX12_readAll_54 rfl rfl ?_
  refine z_iconst (pc := 55) (v := 0) dX12_readAll_55 zci_0 ?_
  obtain ⟨T11, eT11, h⟩ := zl_some h
  refine z_putI (pc := 56) dX12_readAll_56 zp_X12_377 gM_0_39 rfl rfl eT11 ?_
  refine z_aload_n (pc := 59) (q := 0) dX12_readAll_59 rfl rfl ?_
  refine z_iconst (pc := 60) (v := 1) dX12_readAll_60 zci_1 ?_
  obtain ⟨T12, eT12, h⟩ := zl_some h
  refine z_putI (pc := 61) dX12_readAll_61 zp_X12_380 gM_0_40 rfl rfl eT12 ?_
  refine z_aload_n (pc := 64) (q := 0) dX12_readAll_64 rfl rfl ?_
  refine z_iconst (pc := 65) (v := 0) dX12_readAll_65 zci_0 ?_
  obtain ⟨T13, eT13, h⟩ := zl_some h
  refine z_putI (pc := 66) dX12_readAll_66 zp_X12_386 gM_0_41 rfl rfl eT13 ?_
  refine z_aload_n (pc := 69) (q := 0) dX12_readAll_69 rfl rfl ?_
  refine z_iconst (pc := 70) (v := 0) dX12_readAll_70 zci_0 ?_
  obtain ⟨T14, eT14, h⟩ := zl_some h
  refine z_putI (pc := 71) dX12_readAll_71 zp_X12_350 gM_0_48 rfl rfl eT14 ?_
  refine z_aload_n (pc := 74) (q := 0) dX12_readAll_74 rfl rfl ?_
  refine z_iconst (pc := 75) (v := 0) dX12_readAll_75 zci_0 ?_
  obtain ⟨T15, eT15, h⟩ := zl_some h
  refine z_putI (pc := 76) dX12_readAll_76 zp_X12_368 gM_0_49 rfl rfl eT15 ?_
  refine z_aload_n (pc := 79) (q := 0) dX12_readAll_79 rfl rfl ?_
  refine z_iconst (pc := 80) (v := 0) dX12_readAll_80 zci_0 ?_
  obtain ⟨T16, eT16, h⟩ := zl_some h
  refine z_putI (pc := 81) dX12_readAll_81 zp_X12_374 gM_0_50 rfl rfl eT16 ?_
  refine z_aload_n (pc := 84) (q := 0) dX12_readAll_84 rfl rfl ?_
  refine z_iconst (pc := 85) (v := 0) dX12_readAll_85 zci_0 ?_
  obtain ⟨T17, eT17, h⟩ := zl_some h
  refine z_putI (pc := 86) dX12_readAll_86 zp_X12_383 gM_0_51 rfl rfl eT17 ?_
  refine z_aload_n (pc := 89) (q := 0) dX12_readAll_89 rfl rfl ?_
  refine z_iconst (pc := 90) (v := 0) dX12_readAll_90 zci_0 ?_
  obtain ⟨T18, eT18, h⟩ := zl_some h
  refine z_putI (pc := 91) dX12_readAll_91 zp_X12_270 gM_0_20 rfl rfl eT18 ?_
  refine z_aload_n (pc := 94) (q := 0) dX12_readAll_94 rfl rfl ?_
  refine z_iconst (pc := 95) (v := 0) dX12_readAll_95 zci_0 ?_
  obtain ⟨T19, eT19, h⟩ := zl_some h
  refine z_putI (pc := 96) dX12_readAll_96 zp_X12_254 gM_0_17 rfl rfl eT19 ?_
  refine z_aload_n (pc := 99) (q := 0) dX12_readAll_99 rfl rfl ?_
  obtain ⟨T21, q20, h⟩ := zu_some h
  refine z_callVv (pc := 100) (st := []) [] dX12_readAll_100 zm_X12_235 zM_X12_token (by decide) oM_0 rfl (w_X12_token l q20) rfl rfl (Nat.le_of_ble_eq_true rfl) ?_
  exact w_X12_readAll_L103 l zN T21 h
def f_X12_hedge_L296 : Nat → Int32 → zS → Option (Int32 × zS)
  | 0, _, _ => none
  | n + 1, x1, S =>
    if x1 < 3 then
      if zin x1 3 then
      zlet (zput S 36 x1.toNatClampNeg (vp_nar .boolean 0)) fun T3 =>
      zlet (x1 + 1) fun v4 =>
      (f_X12_hedge_L296 n) v4 T3 else none
    else
      some (S.1 0 37, S)
def f_X12_hedge_B245 (K213 : Int32 → zS → Option (Int32 × zS)) (x1 : Int32) (s0 : Int32) (s1 : Int32) (S : zS) : Option (Int32 × zS) :=
  if zin s1 99 then
  zlet (zput S 19 s1.toNatClampNeg s0) fun T2 =>
  zlet (x1 + 1) fun v3 =>
  K213 v3 T2 else none
def f_X12_hedge_L213 : Nat → Int32 → zS → Option (Int32 × zS)
  | 0, _, _ => none
  | n + 1, x1, S =>
    if x1 < 99 then
      if x1 < (8 * (S.1 0 37)) then
        if zin x1 96 then
        f_X12_hedge_B245 (f_X12_hedge_L213 n) x1 (S.1 18 x1.toNatClampNeg) x1 S else none
      else
        f_X12_hedge_B245 (f_X12_hedge_L213 n) x1 0 x1 S
    else
      zlet (zput S 19 (Int32.toNatClampNeg 96) (S.1 0 37)) fun T2 =>
      zlet (zput T2 19 (Int32.toNatClampNeg 98) (T2.1 0 41)) fun T3 =>
      zlet (zput T3 0 56 0) fun T4 =>
      zlet (zput T4 0 57 0) fun T5 =>
      zlet (zput T5 0 72 0) fun T6 =>
      zlet (zput T6 0 60 0) fun T7 =>
      f_X12_hedge_L296 zN 0 T7
def f_X12_hedge_L175 : Nat → Int32 → zS → Option (Int32 × zS)
  | 0, _, _ => none
  | n + 1, x1, S =>
    if x1 < 12 then
      if zin x1 12 then
      if zin x1 12 then
      zlet (zput S 14 x1.toNatClampNeg (S.1 12 x1.toNatClampNeg)) fun T4 =>
      if zin x1 12 then
      if zin x1 12 then
      zlet (zput T4 15 x1.toNatClampNeg (T4.1 13 x1.toNatClampNeg)) fun T7 =>
      zlet (x1 + 1) fun v8 =>
      (f_X12_hedge_L175 n) v8 T7 else none else none else none else none
    else
      f_X12_hedge_L213 zN 0 S
def f_X12_hedge_L138 : Nat → Int32 → zS → Option (Int32 × zS)
  | 0, _, _ => none
  | n + 1, x1, S =>
    if x1 < 4 then
      if zin x1 4 then
      if zin x1 4 then
      zlet (zput S 11 x1.toNatClampNeg (S.1 10 x1.toNatClampNeg)) fun T4 =>
      if zin x1 4 then
      if zin x1 4 then
      zlet (zput T4 17 x1.toNatClampNeg (vp_nar .boolean (T4.1 16 x1.toNatClampNeg))) fun T7 =>
      zlet (x1 + 1) fun v8 =>
      (f_X12_hedge_L138 n) v8 T7 else none else none else none else none
    else
      f_X12_hedge_L175 zN 0 S
def f_X12_hedge_L98 : Nat → Int32 → zS → Option (Int32 × zS)
  | 0, _, _ => none
  | n + 1, x1, S =>
    if x1 < (S.1 0 18) then
      if zin x1 320 then
      if zin x1 320 then
      zlet (zput S 5 x1.toNatClampNeg (S.1 3 x1.toNatClampNeg)) fun T4 =>
      if zin x1 320 then
      if zin x1 320 then
      zlet (zput T4 6 x1.toNatClampNeg (T4.1 4 x1.toNatClampNeg)) fun T7 =>
      zlet (x1 + 1) fun v8 =>
      (f_X12_hedge_L98 n) v8 T7 else none else none else none else none
    else
      f_X12_hedge_L138 zN 0 S
def f_X12_hedge_B93 (s0 : Int32) (S : zS) : Option (Int32 × zS) :=
  zlet (zput S 0 18 s0) fun T1 =>
  f_X12_hedge_L98 zN 0 T1
def f_X12_hedge  (S : zS) : Option (Int32 × zS) :=
  zu (f_X12_readAll S) fun T2 =>
  if (0 : Int32) < (T2.1 0 2) then
    some ((-1), T2)
  else
    zlet (zput T2 0 42 (T2.1 0 34)) fun T4 =>
    zlet (zput T4 0 43 (T4.1 0 35)) fun T5 =>
    zlet (zput T5 0 44 (T5.1 0 36)) fun T6 =>
    zlet (zput T6 0 45 (T6.1 0 38)) fun T7 =>
    zlet (zput T7 0 46 (T7.1 0 39)) fun T8 =>
    zlet (zput T8 0 47 (T8.1 0 40)) fun T9 =>
    zlet (zput T9 0 21 (T9.1 0 20)) fun T10 =>
    if znb (T10.1 0 49) then
    zlet (zput T10 0 52 (T10.1 0 49)) fun T11 =>
    if (T11.1 0 49) = 0 then
      f_X12_hedge_B93 0 T11
    else
      f_X12_hedge_B93 (T11.1 0 17) T11 else none
set_option maxRecDepth 100000 in
theorem w_X12_hedge_L296 (l : Launch) {r : Int32} {S1 : zS} : ∀ (n : Nat) (x1 : Int32) (S : zS), f_X12_hedge_L296 n x1 S = some (r, S1) → WA zLM l RX12 cX12_hedge 2 (some .int) 8 (some (.int r)) S1 296 [(0, .ref 0), (1, .int x1)] [] S := by
  intro n
  induction n with
  | zero =>
    intro x1 S h
    exact nomatch h
  | succ n ih =>
    intro x1 S h
    rw [f_X12_hedge_L296] at h
    refine z_iload_n (pc := 296) (q := 1) dX12_hedge_296 rfl rfl ?_
    refine z_iconst (pc := 297) (v := 3) dX12_hedge_297 zci_3 ?_
    refine z_icmp_ge (pc := 298) (tgt := 314) dX12_hedge_298 (by decide) (fun c1 => ?_) (fun c1 => ?_)
    · have h := ze_some c1 h
      refine z_aload_n (pc := 314) (q := 0) dX12_hedge_314 rfl rfl ?_
      refine z_getI (pc := 315) dX12_hedge_315 zf_X12_335 gM_0_37 ?_
      obtain ⟨rfl, rfl⟩ := zr_some h
      exact z_iret dX12_hedge_318
    · have h := zt_some c1 h
      refine z_aload_n (pc := 301) (q := 0) dX12_hedge_301 rfl rfl ?_
      refine z_getR (pc := 302) dX12_hedge_302 zf_X12_127 gM_0_77 ?_
      refine z_iload_n (pc := 305) (q := 1) dX12_hedge_305 rfl rfl ?_
      refine z_iconst (pc := 306) (v := 0) dX12_hedge_306 zci_0 ?_
      obtain ⟨c2, h⟩ := zg_some h
      obtain ⟨T3, eT3, h⟩ := zl_some h
      refine z_zast (pc := 307) dX12_hedge_307 aM_36 c2 eT3 ?_
      obtain ⟨v4, ev4, h⟩ := zl_some h
      refine z_iinc (pc := 308) (q := 1) (v := v4) (lo' := [(1, .int v4), (0, .ref 0)]) dX12_hedge_308 rfl (by rw [ev4, zci_1]) (by decide) rfl ?_
      refine z_goto (pc := 311) (tgt := 296) dX12_hedge_311 (by decide) ?_
      exact z_sub [1, 0] rfl (ih v4 T3 h)
set_option maxRecDepth 100000 in
theorem w_X12_hedge_B245 (l : Launch) {r : Int32} {S1 : zS} (K213 : Int32 → zS → Option (Int32 × zS)) (hK213 : ∀ (x1 : Int32) (S : zS), K213 x1 S = some (r, S1) → WA zLM l RX12 cX12_hedge 2 (some .int) 8 (some (.int r)) S1 213 [(0, .ref 0), (1, .int x1)] [] S) (x1 : Int32) (s0 : Int32) (s1 : Int32) (S : zS) (h : f_X12_hedge_B245 K213 x1 s0 s1 S = some (r, S1)) : WA zLM l RX12 cX12_hedge 2 (some .int) 8 (some (.int r)) S1 245 [(0, .ref 0), (1, .int x1)] [.int s0, .int s1, .ref 19] S := by
  unfold f_X12_hedge_B245 at h
  obtain ⟨c1, h⟩ := zg_some h
  obtain ⟨T2, eT2, h⟩ := zl_some h
  refine z_iast (pc := 245) dX12_hedge_245 aM_19 c1 eT2 ?_
  obtain ⟨v3, ev3, h⟩ := zl_some h
  refine z_iinc (pc := 246) (q := 1) (v := v3) (lo' := [(1, .int v3), (0, .ref 0)]) dX12_hedge_246 rfl (by rw [ev3, zci_1]) (by decide) rfl ?_
  refine z_goto (pc := 249) (tgt := 213) dX12_hedge_249 (by decide) ?_
  exact z_sub [1, 0] rfl (hK213 v3 T2 h)
set_option maxRecDepth 100000 in
theorem w_X12_hedge_L213 (l : Launch) {r : Int32} {S1 : zS} : ∀ (n : Nat) (x1 : Int32) (S : zS), f_X12_hedge_L213 n x1 S = some (r, S1) → WA zLM l RX12 cX12_hedge 2 (some .int) 8 (some (.int r)) S1 213 [(0, .ref 0), (1, .int x1)] [] S := by
  intro n
  induction n with
  | zero =>
    intro x1 S h
    exact nomatch h
  | succ n ih =>
    intro x1 S h
    rw [f_X12_hedge_L213] at h
    refine z_iload_n (pc := 213) (q := 1) dX12_hedge_213 rfl rfl ?_
    refine z_bipush (pc := 214) (v := 99) dX12_hedge_214 zcb_99 ?_
    refine z_icmp_ge (pc := 216) (tgt := 252) dX12_hedge_216 (by decide) (fun c1 => ?_) (fun c1 => ?_)
    · have h := ze_some c1 h
      refine z_aload_n (pc := 252) (q := 0) dX12_hedge_252 rfl rfl ?_
      refine z_getR (pc := 253) dX12_hedge_253 zf_X12_76 gM_0_53 ?_
      refine z_bipush (pc := 256) (v := 96) dX12_hedge_256 zcb_96 ?_
      refine z_aload_n (pc := 258) (q := 0) dX12_hedge_258 rfl rfl ?_
      refine z_getI (pc := 259) dX12_hedge_259 zf_X12_335 gM_0_37 ?_
      obtain ⟨T2, eT2, h⟩ := zl_some h
      refine z_iast (pc := 262) dX12_hedge_262 aM_19 (by decide) eT2 ?_
      refine z_aload_n (pc := 263) (q := 0) dX12_hedge_263 rfl rfl ?_
      refine z_getR (pc := 264) dX12_hedge_264 zf_X12_76 gM_0_53 ?_
      refine z_bipush (pc := 267) (v := 98) dX12_hedge_267 zcb_98 ?_
      refine z_aload_n (pc := 269) (q := 0) dX12_hedge_269 rfl rfl ?_
      refine z_getI (pc := 270) dX12_hedge_270 zf_X12_386 gM_0_41 ?_
      obtain ⟨T3, eT3, h⟩ := zl_some h
      refine z_iast (pc := 273) dX12_hedge_273 aM_19 (by decide) eT3 ?_
      refine z_aload_n (pc := 274) (q := 0) dX12_hedge_274 rfl rfl ?_
      refine z_iconst (pc := 275) (v := 0) dX12_hedge_275 zci_0 ?_
      obtain ⟨T4, eT4, h⟩ := zl_some h
      refine z_putI (pc := 276) dX12_hedge_276 zp_X12_410 gM_0_56 rfl rfl eT4 ?_
      refine z_aload_n (pc := 279) (q := 0) dX12_hedge_279 rfl rfl ?_
      refine z_iconst (pc := 280) (v := 0) dX12_hedge_280 zci_0 ?_
      obtain ⟨T5, eT5, h⟩ := zl_some h
      refine z_putI (pc := 281) dX12_hedge_281 zp_X12_413 gM_0_57 rfl rfl eT5 ?_
      refine z_aload_n (pc := 284) (q := 0) dX12_hedge_284 rfl rfl ?_
      refine z_iconst (pc := 285) (v := 0) dX12_hedge_285 zci_0 ?_
      obtain ⟨T6, eT6, h⟩ := zl_some h
      refine z_putI (pc := 286) dX12_hedge_286 zp_X12_416 gM_0_72 rfl rfl eT6 ?_
      refine z_aload_n (pc := 289) (q := 0) dX12_hedge_289 rfl rfl ?_
      refine z_iconst (pc := 290) (v := 0) dX12_hedge_290 zci_0 ?_
      obtain ⟨T7, eT7, h⟩ := zl_some h
      refine z_putI (pc := 291) dX12_hedge_291 zp_X12_419 gM_0_60 rfl rfl eT7 ?_
      refine z_iconst (pc := 294) (v := 0) dX12_hedge_294 zci_0 ?_
      refine z_istore_n (pc := 295) (lo' := [(1, .int 0), (0, .ref 0)]) dX12_hedge_295 rfl (by decide) rfl ?_
      exact z_sub [1, 0] rfl (w_X12_hedge_L296 l zN 0 T7 h)
    · have h := zt_some c1 h
      refine z_aload_n (pc := 219) (q := 0) dX12_hedge_219 rfl rfl ?_
      refine z_getR (pc := 220) dX12_hedge_220 zf_X12_76 gM_0_53 ?_
      refine z_iload_n (pc := 223) (q := 1) dX12_hedge_223 rfl rfl ?_
      refine z_iload_n (pc := 224) (q := 1) dX12_hedge_224 rfl rfl ?_
      refine z_bipush (pc := 225) (v := 8) dX12_hedge_225 zcb_8 ?_
      refine z_aload_n (pc := 227) (q := 0) dX12_hedge_227 rfl rfl ?_
      refine z_getI (pc := 228) dX12_hedge_228 zf_X12_335 gM_0_37 ?_
      refine z_imul (pc := 231) dX12_hedge_231 ?_
      refine z_icmp_ge (pc := 232) (tgt := 244) dX12_hedge_232 (by decide) (fun c2 => ?_) (fun c2 => ?_)
      · have h := ze_some c2 h
        refine z_iconst (pc := 244) (v := 0) dX12_hedge_244 zci_0 ?_
        exact w_X12_hedge_B245 l (f_X12_hedge_L213 n) ih x1 0 x1 S h
      · have h := zt_some c2 h
        refine z_aload_n (pc := 235) (q := 0) dX12_hedge_235 rfl rfl ?_
        refine z_getR (pc := 236) dX12_hedge_236 zf_X12_67 gM_0_33 ?_
        refine z_iload_n (pc := 239) (q := 1) dX12_hedge_239 rfl rfl ?_
        obtain ⟨c3, h⟩ := zg_some h
        refine z_iald (pc := 240) dX12_hedge_240 aM_18 c3 ?_
        refine z_goto (pc := 241) (tgt := 245) dX12_hedge_241 (by decide) ?_
        exact w_X12_hedge_B245 l (f_X12_hedge_L213 n) ih x1 (S.1 18 x1.toNatClampNeg) x1 S h
set_option maxRecDepth 100000 in
theorem w_X12_hedge_L175 (l : Launch) {r : Int32} {S1 : zS} : ∀ (n : Nat) (x1 : Int32) (S : zS), f_X12_hedge_L175 n x1 S = some (r, S1) → WA zLM l RX12 cX12_hedge 2 (some .int) 8 (some (.int r)) S1 175 [(0, .ref 0), (1, .int x1)] [] S := by
  intro n
  induction n with
  | zero =>
    intro x1 S h
    exact nomatch h
  | succ n ih =>
    intro x1 S h
    rw [f_X12_hedge_L175] at h
    refine z_iload_n (pc := 175) (q := 1) dX12_hedge_175 rfl rfl ?_
    refine z_bipush (pc := 176) (v := 12) dX12_hedge_176 zcb_12 ?_
    refine z_icmp_ge (pc := 178) (tgt := 211) dX12_hedge_178 (by decide) (fun c1 => ?_) (fun c1 => ?_)
    · have h := ze_some c1 h
      refine z_iconst (pc := 211) (v := 0) dX12_hedge_211 zci_0 ?_
      refine z_istore_n (pc := 212) (lo' := [(1, .int 0), (0, .ref 0)]) dX12_hedge_212 rfl (by decide) rfl ?_
      exact z_sub [1, 0] rfl (w_X12_hedge_L213 l zN 0 S h)
    · have h := zt_some c1 h
      refine z_aload_n (pc := 181) (q := 0) dX12_hedge_181 rfl rfl ?_
      refine z_getR (pc := 182) dX12_hedge_182 zf_X12_54 gM_0_29 ?_
      refine z_iload_n (pc := 185) (q := 1) dX12_hedge_185 rfl rfl ?_
      refine z_aload_n (pc := 186) (q := 0) dX12_hedge_186 rfl rfl ?_
      refine z_getR (pc := 187) dX12_hedge_187 zf_X12_48 gM_0_27 ?_
      refine z_iload_n (pc := 190) (q := 1) dX12_hedge_190 rfl rfl ?_
      obtain ⟨c2, h⟩ := zg_some h
      refine z_iald (pc := 191) dX12_hedge_191 aM_12 c2 ?_
      obtain ⟨c3, h⟩ := zg_some h
      obtain ⟨T4, eT4, h⟩ := zl_some h
      refine z_iast (pc := 192) dX12_hedge_192 aM_14 c3 eT4 ?_
      refine z_aload_n (pc := 193) (q := 0) dX12_hedge_193 rfl rfl ?_
      refine z_getR (pc := 194) dX12_hedge_194 zf_X12_57 gM_0_30 ?_
      refine z_iload_n (pc := 197) (q := 1) dX12_hedge_197 rfl rfl ?_
      refine z_aload_n (pc := 198) (q := 0) dX12_hedge_198 rfl rfl ?_
      refine z_getR (pc := 199) dX12_hedge_199 zf_X12_51 gM_0_28 ?_
      refine z_iload_n (pc := 202) (q := 1) dX12_hedge_202 rfl rfl ?_
      obtain ⟨c5, h⟩ := zg_some h
      refine z_iald (pc := 203) dX12_hedge_203 aM_13 c5 ?_
      obtain ⟨c6, h⟩ := zg_some h
      obtain ⟨T7, eT7, h⟩ := zl_some h
      refine z_iast (pc := 204) dX12_hedge_204 aM_15 c6 eT7 ?_
      obtain ⟨v8, ev8, h⟩ := zl_some h
      refine z_iinc (pc := 205) (q := 1) (v := v8) (lo' := [(1, .int v8), (0, .ref 0)]) dX12_hedge_205 rfl (by rw [ev8, zci_1]) (by decide) rfl ?_
      refine z_goto (pc := 208) (tgt := 175) dX12_hedge_208 (by decide) ?_
      exact z_sub [1, 0] rfl (ih v8 T7 h)
set_option maxRecDepth 100000 in
theorem w_X12_hedge_L138 (l : Launch) {r : Int32} {S1 : zS} : ∀ (n : Nat) (x1 : Int32) (S : zS), f_X12_hedge_L138 n x1 S = some (r, S1) → WA zLM l RX12 cX12_hedge 2 (some .int) 8 (some (.int r)) S1 138 [(0, .ref 0), (1, .int x1)] [] S := by
  intro n
  induction n with
  | zero =>
    intro x1 S h
    exact nomatch h
  | succ n ih =>
    intro x1 S h
    rw [f_X12_hedge_L138] at h
    refine z_iload_n (pc := 138) (q := 1) dX12_hedge_138 rfl rfl ?_
    refine z_iconst (pc := 139) (v := 4) dX12_hedge_139 zci_4 ?_
    refine z_icmp_ge (pc := 140) (tgt := 173) dX12_hedge_140 (by decide) (fun c1 => ?_) (fun c1 => ?_)
    · have h := ze_some c1 h
      refine z_iconst (pc := 173) (v := 0) dX12_hedge_173 zci_0 ?_
      refine z_istore_n (pc := 174) (lo' := [(1, .int 0), (0, .ref 0)]) dX12_hedge_174 rfl (by decide) rfl ?_
      exact z_sub [1, 0] rfl (w_X12_hedge_L175 l zN 0 S h)
    · have h := zt_some c1 h
      refine z_aload_n (pc := 143) (q := 0) dX12_hedge_143 rfl rfl ?_
      refine z_getR (pc := 144) dX12_hedge_144 zf_X12_45 gM_0_26 ?_
      refine z_iload_n (pc := 147) (q := 1) dX12_hedge_147 rfl rfl ?_
      refine z_aload_n (pc := 148) (q := 0) dX12_hedge_148 rfl rfl ?_
      refine z_getR (pc := 149) dX12_hedge_149 zf_X12_42 gM_0_25 ?_
      refine z_iload_n (pc := 152) (q := 1) dX12_hedge_152 rfl rfl ?_
      obtain ⟨c2, h⟩ := zg_some h
      refine z_iald (pc := 153) dX12_hedge_153 aM_10 c2 ?_
      obtain ⟨c3, h⟩ := zg_some h
      obtain ⟨T4, eT4, h⟩ := zl_some h
      refine z_iast (pc := 154) dX12_hedge_154 aM_11 c3 eT4 ?_
      refine z_aload_n (pc := 155) (q := 0) dX12_hedge_155 rfl rfl ?_
      refine z_getR (pc := 156) dX12_hedge_156 zf_X12_64 gM_0_32 ?_
      refine z_iload_n (pc := 159) (q := 1) dX12_hedge_159 rfl rfl ?_
      refine z_aload_n (pc := 160) (q := 0) dX12_hedge_160 rfl rfl ?_
      refine z_getR (pc := 161) dX12_hedge_161 zf_X12_60 gM_0_31 ?_
      refine z_iload_n (pc := 164) (q := 1) dX12_hedge_164 rfl rfl ?_
      obtain ⟨c5, h⟩ := zg_some h
      refine z_zald (pc := 165) dX12_hedge_165 aM_16 c5 ?_
      obtain ⟨c6, h⟩ := zg_some h
      obtain ⟨T7, eT7, h⟩ := zl_some h
      refine z_zast (pc := 166) dX12_hedge_166 aM_17 c6 eT7 ?_
      obtain ⟨v8, ev8, h⟩ := zl_some h
      refine z_iinc (pc := 167) (q := 1) (v := v8) (lo' := [(1, .int v8), (0, .ref 0)]) dX12_hedge_167 rfl (by rw [ev8, zci_1]) (by decide) rfl ?_
      refine z_goto (pc := 170) (tgt := 138) dX12_hedge_170 (by decide) ?_
      exact z_sub [1, 0] rfl (ih v8 T7 h)
set_option maxRecDepth 100000 in
theorem w_X12_hedge_L98 (l : Launch) {r : Int32} {S1 : zS} : ∀ (n : Nat) (x1 : Int32) (S : zS), f_X12_hedge_L98 n x1 S = some (r, S1) → WA zLM l RX12 cX12_hedge 2 (some .int) 8 (some (.int r)) S1 98 [(0, .ref 0), (1, .int x1)] [] S := by
  intro n
  induction n with
  | zero =>
    intro x1 S h
    exact nomatch h
  | succ n ih =>
    intro x1 S h
    rw [f_X12_hedge_L98] at h
    refine z_iload_n (pc := 98) (q := 1) dX12_hedge_98 rfl rfl ?_
    refine z_aload_n (pc := 99) (q := 0) dX12_hedge_99 rfl rfl ?_
    refine z_getI (pc := 100) dX12_hedge_100 zf_X12_315 gM_0_18 ?_
    refine z_icmp_ge (pc := 103) (tgt := 136) dX12_hedge_103 (by decide) (fun c1 => ?_) (fun c1 => ?_)
    · have h := ze_some c1 h
      refine z_iconst (pc := 136) (v := 0) dX12_hedge_136 zci_0 ?_
      refine z_istore_n (pc := 137) (lo' := [(1, .int 0), (0, .ref 0)]) dX12_hedge_137 rfl (by decide) rfl ?_
      exact z_sub [1, 0] rfl (w_X12_hedge_L138 l zN 0 S h)
    · have h := zt_some c1 h
      refine z_aload_n (pc := 106) (q := 0) dX12_hedge_106 rfl rfl ?_
      refine z_getR (pc := 107) dX12_hedge_107 zf_X12_27 gM_0_13 ?_
      refine z_iload_n (pc := 110) (q := 1) dX12_hedge_110 rfl rfl ?_
      refine z_aload_n (pc := 111) (q := 0) dX12_hedge_111 rfl rfl ?_
      refine z_getR (pc := 112) dX12_hedge_112 zf_X12_21 gM_0_11 ?_
      refine z_iload_n (pc := 115) (q := 1) dX12_hedge_115 rfl rfl ?_
      obtain ⟨c2, h⟩ := zg_some h
      refine z_iald (pc := 116) dX12_hedge_116 aM_3 c2 ?_
      obtain ⟨c3, h⟩ := zg_some h
      obtain ⟨T4, eT4, h⟩ := zl_some h
      refine z_iast (pc := 117) dX12_hedge_117 aM_5 c3 eT4 ?_
      refine z_aload_n (pc := 118) (q := 0) dX12_hedge_118 rfl rfl ?_
      refine z_getR (pc := 119) dX12_hedge_119 zf_X12_30 gM_0_14 ?_
      refine z_iload_n (pc := 122) (q := 1) dX12_hedge_122 rfl rfl ?_
      refine z_aload_n (pc := 123) (q := 0) dX12_hedge_123 rfl rfl ?_
      refine z_getR (pc := 124) dX12_hedge_124 zf_X12_24 gM_0_12 ?_
      refine z_iload_n (pc := 127) (q := 1) dX12_hedge_127 rfl rfl ?_
      obtain ⟨c5, h⟩ := zg_some h
      refine z_iald (pc := 128) dX12_hedge_128 aM_4 c5 ?_
      obtain ⟨c6, h⟩ := zg_some h
      obtain ⟨T7, eT7, h⟩ := zl_some h
      refine z_iast (pc := 129) dX12_hedge_129 aM_6 c6 eT7 ?_
      obtain ⟨v8, ev8, h⟩ := zl_some h
      refine z_iinc (pc := 130) (q := 1) (v := v8) (lo' := [(1, .int v8), (0, .ref 0)]) dX12_hedge_130 rfl (by rw [ev8, zci_1]) (by decide) rfl ?_
      refine z_goto (pc := 133) (tgt := 98) dX12_hedge_133 (by decide) ?_
      exact z_sub [1, 0] rfl (ih v8 T7 h)
set_option maxRecDepth 100000 in
theorem w_X12_hedge_B93 (l : Launch) {r : Int32} {S1 : zS} (s0 : Int32) (S : zS) (h : f_X12_hedge_B93 s0 S = some (r, S1)) : WA zLM l RX12 cX12_hedge 2 (some .int) 8 (some (.int r)) S1 93 [(0, .ref 0)] [.int s0, .ref 0] S := by
  unfold f_X12_hedge_B93 at h
  obtain ⟨T1, eT1, h⟩ := zl_some h
  refine z_putI (pc := 93) dX12_hedge_93 zp_X12_315 gM_0_18 rfl rfl eT1 ?_
  refine z_iconst (pc := 96) (v := 0) dX12_hedge_96 zci_0 ?_
  refine z_istore_n (pc := 97) (lo' := [(1, .int 0), (0, .ref 0)]) dX12_hedge_97 rfl (by decide) rfl ?_
  exact z_sub [1, 0] rfl (w_X12_hedge_L98 l zN 0 T1 h)
set_option maxRecDepth 100000 in
theorem w_X12_hedge (l : Launch)  {S : zS} {r : Int32} {S1 : zS} (h : f_X12_hedge S = some (r, S1)) : zMet zLM l yX12_hedge cX12_hedge 2 (some .int) 8 [.ref 0] S (some (.int r)) S1 := by
  unfold f_X12_hedge at h
  refine zMet.of (by decide +kernel) (Nat.le_of_ble_eq_true rfl) ?_
  show WA zLM l RX12 cX12_hedge 2 (some .int) 8 (some (.int r)) S1 0 [(0, .ref 0)] [] S
  refine z_aload_n (pc := 0) (q := 0) dX12_hedge_0 rfl rfl ?_
  obtain ⟨T2, q1, h⟩ := zu_some h
  refine z_callVv (pc := 1) (st := []) [] dX12_hedge_1 zm_X12_392 zM_X12_readAll (by decide) oM_0 rfl (w_X12_readAll l q1) rfl rfl (Nat.le_of_ble_eq_true rfl) ?_
  refine z_aload_n (pc := 4) (q := 0) dX12_hedge_4 rfl rfl ?_
  refine z_getI (pc := 5) dX12_hedge_5 zf_X12_173 gM_0_2 ?_
  refine z_if_le (pc := 8) (tgt := 13) dX12_hedge_8 (by decide) (fun c3 => ?_) (fun c3 => ?_)
  · have h := ze_some c3 h
    refine z_aload_n (pc := 13) (q := 0) dX12_hedge_13 rfl rfl ?_
    refine z_aload_n (pc := 14) (q := 0) dX12_hedge_14 rfl rfl ?_
    refine z_getI (pc := 15) dX12_hedge_15 zf_X12_338 gM_0_34 ?_
    obtain ⟨T4, eT4, h⟩ := zl_some h
    refine z_putI (pc := 18) dX12_hedge_18 zp_X12_70 gM_0_42 rfl rfl eT4 ?_
    refine z_aload_n (pc := 21) (q := 0) dX12_hedge_21 rfl rfl ?_
    refine z_aload_n (pc := 22) (q := 0) dX12_hedge_22 rfl rfl ?_
    refine z_getI (pc := 23) dX12_hedge_23 zf_X12_322 gM_0_35 ?_
    obtain ⟨T5, eT5, h⟩ := zl_some h
    refine z_putI (pc := 26) dX12_hedge_26 zp_X12_395 gM_0_43 rfl rfl eT5 ?_
    refine z_aload_n (pc := 29) (q := 0) dX12_hedge_29 rfl rfl ?_
    refine z_aload_n (pc := 30) (q := 0) dX12_hedge_30 rfl rfl ?_
    refine z_getI (pc := 31) dX12_hedge_31 zf_X12_332 gM_0_36 ?_
    obtain ⟨T6, eT6, h⟩ := zl_some h
    refine z_putI (pc := 34) dX12_hedge_34 zp_X12_398 gM_0_44 rfl rfl eT6 ?_
    refine z_aload_n (pc := 37) (q := 0) dX12_hedge_37 rfl rfl ?_
    refine z_aload_n (pc := 38) (q := 0) dX12_hedge_38 rfl rfl ?_
    refine z_getI (pc := 39) dX12_hedge_39 zf_X12_347 gM_0_38 ?_
    obtain ⟨T7, eT7, h⟩ := zl_some h
    refine z_putI (pc := 42) dX12_hedge_42 zp_X12_401 gM_0_45 rfl rfl eT7 ?_
    refine z_aload_n (pc := 45) (q := 0) dX12_hedge_45 rfl rfl ?_
    refine z_aload_n (pc := 46) (q := 0) dX12_hedge_46 rfl rfl ?_
    refine z_getI (pc := 47) dX12_hedge_47 zf_X12_377 gM_0_39 ?_
    obtain ⟨T8, eT8, h⟩ := zl_some h
    refine z_putI (pc := 50) dX12_hedge_50 zp_X12_404 gM_0_46 rfl rfl eT8 ?_
    refine z_aload_n (pc := 53) (q := 0) dX12_hedge_53 rfl rfl ?_
    refine z_aload_n (pc := 54) (q := 0) dX12_hedge_54 rfl rfl ?_
    refine z_getI (pc := 55) dX12_hedge_55 zf_X12_380 gM_0_40 ?_
    obtain ⟨T9, eT9, h⟩ := zl_some h
    refine z_putI (pc := 58) dX12_hedge_58 zp_X12_73 gM_0_47 rfl rfl eT9 ?_
    refine z_aload_n (pc := 61) (q := 0) dX12_hedge_61 rfl rfl ?_
    refine z_aload_n (pc := 62) (q := 0) dX12_hedge_62 rfl rfl ?_
    refine z_getI (pc := 63) dX12_hedge_63 zf_X12_270 gM_0_20 ?_
    obtain ⟨T10, eT10, h⟩ := zl_some h
    refine z_putI (pc := 66) dX12_hedge_66 zp_X12_407 gM_0_21 rfl rfl eT10 ?_
    refine z_aload_n (pc := 69) (q := 0) dX12_hedge_69 rfl rfl ?_
    refine z_aload_n (pc := 70) (q := 0) dX12_hedge_70 rfl rfl ?_
    refine z_getI (pc := 71) dX12_hedge_71 zf_X12_368 gM_0_49 ?_
    obtain ⟨c12, h⟩ := zg_some h
    obtain ⟨T11, eT11, h⟩ := zl_some h
    refine z_putI (pc := 74) dX12_hedge_74 zp_X12_311 gM_0_52 (znb_n c12) (znb_f c12) eT11 ?_
    refine z_aload_n (pc := 77) (q := 0) dX12_hedge_77 rfl rfl ?_
    refine z_aload_n (pc := 78) (q := 0) dX12_hedge_78 rfl rfl ?_
    refine z_getI (pc := 79) dX12_hedge_79 zf_X12_368 gM_0_49 ?_
    refine z_if_eq (pc := 82) (tgt := 92) dX12_hedge_82 (by decide) (fun c13 => ?_) (fun c13 => ?_)
    · have h := zt_some c13 h
      refine z_iconst (pc := 92) (v := 0) dX12_hedge_92 zci_0 ?_
      exact w_X12_hedge_B93 l 0 T11 h
    · have h := ze_some c13 h
      refine z_aload_n (pc := 85) (q := 0) dX12_hedge_85 rfl rfl ?_
      refine z_getI (pc := 86) dX12_hedge_86 zf_X12_254 gM_0_17 ?_
      refine z_goto (pc := 89) (tgt := 93) dX12_hedge_89 (by decide) ?_
      exact w_X12_hedge_B93 l (T11.1 0 17) T11 h
  · have h := zt_some c3 h
    refine z_iconst (pc := 11) (v := (-1)) dX12_hedge_11 zci_m1 ?_
    obtain ⟨rfl, rfl⟩ := zr_some h
    exact z_iret dX12_hedge_12
def f_X12_fault (x1 : Int32) (S : zS) : Option (Int32 × zS) :=
  if x1 = 0 then
    some (S.1 0 2, S)
  else
    if x1 = 1 then
      some (S.1 0 3, S)
    else
      some ((-1), S)
set_option maxRecDepth 100000 in
theorem w_X12_fault (l : Launch) {x1 : Int32} {S : zS} {r : Int32} {S1 : zS} (h : f_X12_fault x1 S = some (r, S1)) : zMet zLM l yX12_fault cX12_fault 2 (some .int) 1 [.ref 0, .int x1] S (some (.int r)) S1 := by
  unfold f_X12_fault at h
  refine zMet.of (by decide +kernel) (Nat.le_of_ble_eq_true rfl) ?_
  show WA zLM l RX12 cX12_fault 2 (some .int) 1 (some (.int r)) S1 0 [(0, .ref 0), (1, .int x1)] [] S
  refine z_iload_n (pc := 0) (q := 1) dX12_fault_0 rfl rfl ?_
  refine z_if_ne (pc := 1) (tgt := 11) dX12_fault_1 (by decide) (fun c1 => ?_) (fun c1 => ?_)
  · have h := ze_some c1 h
    refine z_iload_n (pc := 11) (q := 1) dX12_fault_11 rfl rfl ?_
    refine z_iconst (pc := 12) (v := 1) dX12_fault_12 zci_1 ?_
    refine z_icmp_ne (pc := 13) (tgt := 23) dX12_fault_13 (by decide) (fun c2 => ?_) (fun c2 => ?_)
    · have h := ze_some c2 h
      refine z_iconst (pc := 23) (v := (-1)) dX12_fault_23 zci_m1 ?_
      obtain ⟨rfl, rfl⟩ := zr_some h
      exact z_iret dX12_fault_24
    · have h := zt_some c2 h
      refine z_aload_n (pc := 16) (q := 0) dX12_fault_16 rfl rfl ?_
      refine z_getI (pc := 17) dX12_fault_17 zf_X12_13 gM_0_3 ?_
      refine z_goto (pc := 20) (tgt := 24) dX12_fault_20 (by decide) ?_
      obtain ⟨rfl, rfl⟩ := zr_some h
      exact z_iret dX12_fault_24
  · have h := zt_some c1 h
    refine z_aload_n (pc := 4) (q := 0) dX12_fault_4 rfl rfl ?_
    refine z_getI (pc := 5) dX12_fault_5 zf_X12_173 gM_0_2 ?_
    refine z_goto (pc := 8) (tgt := 24) dX12_fault_8 (by decide) ?_
    obtain ⟨rfl, rfl⟩ := zr_some h
    exact z_iret dX12_fault_24
def f_X12_isIn (x0 : Int32) (x1 : Int32) (x2 : Int32) (S : zS) : Option (Int32 × zS) :=
  if x0 < x1 then
    some (0, S)
  else
    if x2 < x0 then
      some (0, S)
    else
      some (1, S)
set_option maxRecDepth 100000 in
theorem w_X12_isIn (l : Launch) {x0 : Int32} {x1 : Int32} {x2 : Int32} {S : zS} {r : Int32} {S1 : zS} (h : f_X12_isIn x0 x1 x2 S = some (r, S1)) : zMet zLM l yX12_isIn cX12_isIn 3 (some .boolean) 1 [.int x0, .int x1, .int x2] S (some (.int r)) S1 := by
  unfold f_X12_isIn at h
  refine zMet.of (by decide +kernel) (Nat.le_of_ble_eq_true rfl) ?_
  show WA zLM l RX12 cX12_isIn 3 (some .boolean) 1 (some (.int r)) S1 0 [(0, .int x0), (1, .int x1), (2, .int x2)] [] S
  refine z_iload_n (pc := 0) (q := 0) dX12_isIn_0 rfl rfl ?_
  refine z_iload_n (pc := 1) (q := 1) dX12_isIn_1 rfl rfl ?_
  refine z_icmp_lt (pc := 2) (tgt := 14) dX12_isIn_2 (by decide) (fun c1 => ?_) (fun c1 => ?_)
  · have h := zt_some c1 h
    refine z_iconst (pc := 14) (v := 0) dX12_isIn_14 zci_0 ?_
    obtain ⟨rfl, rfl⟩ := zr_some h
    exact z_zret dX12_isIn_15 rfl
  · have h := ze_some c1 h
    refine z_iload_n (pc := 5) (q := 0) dX12_isIn_5 rfl rfl ?_
    refine z_iload_n (pc := 6) (q := 2) dX12_isIn_6 rfl rfl ?_
    refine z_icmp_gt (pc := 7) (tgt := 14) dX12_isIn_7 (by decide) (fun c2 => ?_) (fun c2 => ?_)
    · have h := zt_some c2 h
      refine z_iconst (pc := 14) (v := 0) dX12_isIn_14 zci_0 ?_
      obtain ⟨rfl, rfl⟩ := zr_some h
      exact z_zret dX12_isIn_15 rfl
    · have h := ze_some c2 h
      refine z_iconst (pc := 10) (v := 1) dX12_isIn_10 zci_1 ?_
      refine z_goto (pc := 11) (tgt := 15) dX12_isIn_11 (by decide) ?_
      obtain ⟨rfl, rfl⟩ := zr_some h
      exact z_zret dX12_isIn_15 rfl
def f_X12_isBill (x1 : Int32) (S : zS) : Option (Int32 × zS) :=
  zb (f_X12_isIn x1 0 ((S.1 19 (Int32.toNatClampNeg 96)) - 1) S) fun r3 T2 =>
  if znb r3 then some (r3, T2) else none
set_option maxRecDepth 100000 in
theorem w_X12_isBill (l : Launch) {x1 : Int32} {S : zS} {r : Int32} {S1 : zS} (h : f_X12_isBill x1 S = some (r, S1)) : zMet zLM l yX12_isBill cX12_isBill 2 (some .boolean) 2 [.ref 0, .int x1] S (some (.int r)) S1 := by
  unfold f_X12_isBill at h
  refine zMet.of (by decide +kernel) (Nat.le_of_ble_eq_true rfl) ?_
  show WA zLM l RX12 cX12_isBill 2 (some .boolean) 2 (some (.int r)) S1 0 [(0, .ref 0), (1, .int x1)] [] S
  refine z_iload_n (pc := 0) (q := 1) dX12_isBill_0 rfl rfl ?_
  refine z_iconst (pc := 1) (v := 0) dX12_isBill_1 zci_0 ?_
  refine z_aload_n (pc := 2) (q := 0) dX12_isBill_2 rfl rfl ?_
  refine z_getR (pc := 3) dX12_isBill_3 zf_X12_76 gM_0_53 ?_
  refine z_bipush (pc := 6) (v := 96) dX12_isBill_6 zcb_96 ?_
  refine z_iald (pc := 8) dX12_isBill_8 aM_19 (by decide) ?_
  refine z_iconst (pc := 9) (v := 1) dX12_isBill_9 zci_1 ?_
  refine z_isub (pc := 10) dX12_isBill_10 ?_
  obtain ⟨r3, T2, q1, h⟩ := zb_some h
  refine z_callSi (pc := 11) (st := []) [.int x1, .int 0, .int ((S.1 19 (Int32.toNatClampNeg 96)) - 1)] dX12_isBill_11 zm_X12_422 zM_X12_isIn (by decide) (w_X12_isIn l q1) rfl rfl (Nat.le_of_ble_eq_true rfl) ?_
  obtain ⟨c4, h⟩ := zg_some h
  obtain ⟨rfl, rfl⟩ := zr_some h
  exact z_zret dX12_isBill_14 (znb_n c4)
def f_X12_isStake (x1 : Int32) (S : zS) : Option (Int32 × zS) :=
  zb (f_X12_isIn x1 0 ((S.1 0 42) - 1) S) fun r3 T2 =>
  if znb r3 then some (r3, T2) else none
set_option maxRecDepth 100000 in
theorem w_X12_isStake (l : Launch) {x1 : Int32} {S : zS} {r : Int32} {S1 : zS} (h : f_X12_isStake x1 S = some (r, S1)) : zMet zLM l yX12_isStake cX12_isStake 2 (some .boolean) 2 [.ref 0, .int x1] S (some (.int r)) S1 := by
  unfold f_X12_isStake at h
  refine zMet.of (by decide +kernel) (Nat.le_of_ble_eq_true rfl) ?_
  show WA zLM l RX12 cX12_isStake 2 (some .boolean) 2 (some (.int r)) S1 0 [(0, .ref 0), (1, .int x1)] [] S
  refine z_iload_n (pc := 0) (q := 1) dX12_isStake_0 rfl rfl ?_
  refine z_iconst (pc := 1) (v := 0) dX12_isStake_1 zci_0 ?_
  refine z_aload_n (pc := 2) (q := 0) dX12_isStake_2 rfl rfl ?_
  refine z_getI (pc := 3) dX12_isStake_3 zf_X12_70 gM_0_42 ?_
  refine z_iconst (pc := 6) (v := 1) dX12_isStake_6 zci_1 ?_
  refine z_isub (pc := 7) dX12_isStake_7 ?_
  obtain ⟨r3, T2, q1, h⟩ := zb_some h
  refine z_callSi (pc := 8) (st := []) [.int x1, .int 0, .int ((S.1 0 42) - 1)] dX12_isStake_8 zm_X12_422 zM_X12_isIn (by decide) (w_X12_isIn l q1) rfl rfl (Nat.le_of_ble_eq_true rfl) ?_
  obtain ⟨c4, h⟩ := zg_some h
  obtain ⟨rfl, rfl⟩ := zr_some h
  exact z_zret dX12_isStake_11 (znb_n c4)
def f_X12_isTopic (x1 : Int32) (S : zS) : Option (Int32 × zS) :=
  zb (f_X12_isIn x1 0 ((S.1 0 44) - 1) S) fun r3 T2 =>
  if znb r3 then some (r3, T2) else none
set_option maxRecDepth 100000 in
theorem w_X12_isTopic (l : Launch) {x1 : Int32} {S : zS} {r : Int32} {S1 : zS} (h : f_X12_isTopic x1 S = some (r, S1)) : zMet zLM l yX12_isTopic cX12_isTopic 2 (some .boolean) 2 [.ref 0, .int x1] S (some (.int r)) S1 := by
  unfold f_X12_isTopic at h
  refine zMet.of (by decide +kernel) (Nat.le_of_ble_eq_true rfl) ?_
  show WA zLM l RX12 cX12_isTopic 2 (some .boolean) 2 (some (.int r)) S1 0 [(0, .ref 0), (1, .int x1)] [] S
  refine z_iload_n (pc := 0) (q := 1) dX12_isTopic_0 rfl rfl ?_
  refine z_iconst (pc := 1) (v := 0) dX12_isTopic_1 zci_0 ?_
  refine z_aload_n (pc := 2) (q := 0) dX12_isTopic_2 rfl rfl ?_
  refine z_getI (pc := 3) dX12_isTopic_3 zf_X12_398 gM_0_44 ?_
  refine z_iconst (pc := 6) (v := 1) dX12_isTopic_6 zci_1 ?_
  refine z_isub (pc := 7) dX12_isTopic_7 ?_
  obtain ⟨r3, T2, q1, h⟩ := zb_some h
  refine z_callSi (pc := 8) (st := []) [.int x1, .int 0, .int ((S.1 0 44) - 1)] dX12_isTopic_8 zm_X12_422 zM_X12_isIn (by decide) (w_X12_isIn l q1) rfl rfl (Nat.le_of_ble_eq_true rfl) ?_
  obtain ⟨c4, h⟩ := zg_some h
  obtain ⟨rfl, rfl⟩ := zr_some h
  exact z_zret dX12_isTopic_11 (znb_n c4)
def f_X12_isPlant (x1 : Int32) (S : zS) : Option (Int32 × zS) :=
  zb (f_X12_isIn x1 0 ((S.1 0 43) - 1) S) fun r3 T2 =>
  if znb r3 then some (r3, T2) else none
set_option maxRecDepth 100000 in
theorem w_X12_isPlant (l : Launch) {x1 : Int32} {S : zS} {r : Int32} {S1 : zS} (h : f_X12_isPlant x1 S = some (r, S1)) : zMet zLM l yX12_isPlant cX12_isPlant 2 (some .boolean) 2 [.ref 0, .int x1] S (some (.int r)) S1 := by
  unfold f_X12_isPlant at h
  refine zMet.of (by decide +kernel) (Nat.le_of_ble_eq_true rfl) ?_
  show WA zLM l RX12 cX12_isPlant 2 (some .boolean) 2 (some (.int r)) S1 0 [(0, .ref 0), (1, .int x1)] [] S
  refine z_iload_n (pc := 0) (q := 1) dX12_isPlant_0 rfl rfl ?_
  refine z_iconst (pc := 1) (v := 0) dX12_isPlant_1 zci_0 ?_
  refine z_aload_n (pc := 2) (q := 0) dX12_isPlant_2 rfl rfl ?_
  refine z_getI (pc := 3) dX12_isPlant_3 zf_X12_395 gM_0_43 ?_
  refine z_iconst (pc := 6) (v := 1) dX12_isPlant_6 zci_1 ?_
  refine z_isub (pc := 7) dX12_isPlant_7 ?_
  obtain ⟨r3, T2, q1, h⟩ := zb_some h
  refine z_callSi (pc := 8) (st := []) [.int x1, .int 0, .int ((S.1 0 43) - 1)] dX12_isPlant_8 zm_X12_422 zM_X12_isIn (by decide) (w_X12_isIn l q1) rfl rfl (Nat.le_of_ble_eq_true rfl) ?_
  obtain ⟨c4, h⟩ := zg_some h
  obtain ⟨rfl, rfl⟩ := zr_some h
  exact z_zret dX12_isPlant_11 (znb_n c4)
def f_X12_load_L2 : Nat → Int32 → zS → Option zS
  | 0, _, _ => none
  | n + 1, x1, S =>
    if x1 < 99 then
      if zin x1 99 then
      if zin x1 99 then
      zlet (zput S 20 x1.toNatClampNeg (S.1 19 x1.toNatClampNeg)) fun T4 =>
      zlet (x1 + 1) fun v5 =>
      (f_X12_load_L2 n) v5 T4 else none else none
    else
      some S
def f_X12_load  (S : zS) : Option zS :=
  f_X12_load_L2 zN 0 S
set_option maxRecDepth 100000 in
theorem w_X12_load_L2 (l : Launch) {S1 : zS} : ∀ (n : Nat) (x1 : Int32) (S : zS), f_X12_load_L2 n x1 S = some S1 → WA zLM l RX12 cX12_load 2 none 1 none S1 2 [(0, .ref 0), (1, .int x1)] [] S := by
  intro n
  induction n with
  | zero =>
    intro x1 S h
    exact nomatch h
  | succ n ih =>
    intro x1 S h
    rw [f_X12_load_L2] at h
    refine z_iload_n (pc := 2) (q := 1) dX12_load_2 rfl rfl ?_
    refine z_bipush (pc := 3) (v := 99) dX12_load_3 zcb_99 ?_
    refine z_icmp_ge (pc := 5) (tgt := 26) dX12_load_5 (by decide) (fun c1 => ?_) (fun c1 => ?_)
    · have h := ze_some c1 h
      cases h
      exact z_vret dX12_load_26
    · have h := zt_some c1 h
      refine z_aload_n (pc := 8) (q := 0) dX12_load_8 rfl rfl ?_
      refine z_getR (pc := 9) dX12_load_9 zf_X12_79 gM_0_54 ?_
      refine z_iload_n (pc := 12) (q := 1) dX12_load_12 rfl rfl ?_
      refine z_aload_n (pc := 13) (q := 0) dX12_load_13 rfl rfl ?_
      refine z_getR (pc := 14) dX12_load_14 zf_X12_76 gM_0_53 ?_
      refine z_iload_n (pc := 17) (q := 1) dX12_load_17 rfl rfl ?_
      obtain ⟨c2, h⟩ := zg_some h
      refine z_iald (pc := 18) dX12_load_18 aM_19 c2 ?_
      obtain ⟨c3, h⟩ := zg_some h
      obtain ⟨T4, eT4, h⟩ := zl_some h
      refine z_iast (pc := 19) dX12_load_19 aM_20 c3 eT4 ?_
      obtain ⟨v5, ev5, h⟩ := zl_some h
      refine z_iinc (pc := 20) (q := 1) (v := v5) (lo' := [(1, .int v5), (0, .ref 0)]) dX12_load_20 rfl (by rw [ev5, zci_1]) (by decide) rfl ?_
      refine z_goto (pc := 23) (tgt := 2) dX12_load_23 (by decide) ?_
      exact z_sub [1, 0] rfl (ih v5 T4 h)
set_option maxRecDepth 100000 in
theorem w_X12_load (l : Launch)  {S : zS} {S1 : zS} (h : f_X12_load S = some S1) : zMet zLM l yX12_load cX12_load 2 none 1 [.ref 0] S none S1 := by
  unfold f_X12_load at h
  refine zMet.of (by decide +kernel) (Nat.le_of_ble_eq_true rfl) ?_
  show WA zLM l RX12 cX12_load 2 none 1 none S1 0 [(0, .ref 0)] [] S
  refine z_iconst (pc := 0) (v := 0) dX12_load_0 zci_0 ?_
  refine z_istore_n (pc := 1) (lo' := [(1, .int 0), (0, .ref 0)]) dX12_load_1 rfl (by decide) rfl ?_
  exact z_sub [1, 0] rfl (w_X12_load_L2 l zN 0 S h)
def f_X12_of (x1 : Int32) (x2 : Int32) (S : zS) : Option (Int32 × zS) :=
  if zin ((8 * x1) + x2) 99 then
  some (S.1 20 ((8 * x1) + x2).toNatClampNeg, S) else none
set_option maxRecDepth 100000 in
theorem w_X12_of (l : Launch) {x1 : Int32} {x2 : Int32} {S : zS} {r : Int32} {S1 : zS} (h : f_X12_of x1 x2 S = some (r, S1)) : zMet zLM l yX12_of cX12_of 3 (some .int) 1 [.ref 0, .int x1, .int x2] S (some (.int r)) S1 := by
  unfold f_X12_of at h
  refine zMet.of (by decide +kernel) (Nat.le_of_ble_eq_true rfl) ?_
  show WA zLM l RX12 cX12_of 3 (some .int) 1 (some (.int r)) S1 0 [(0, .ref 0), (1, .int x1), (2, .int x2)] [] S
  refine z_aload_n (pc := 0) (q := 0) dX12_of_0 rfl rfl ?_
  refine z_getR (pc := 1) dX12_of_1 zf_X12_79 gM_0_54 ?_
  refine z_bipush (pc := 4) (v := 8) dX12_of_4 zcb_8 ?_
  refine z_iload_n (pc := 6) (q := 1) dX12_of_6 rfl rfl ?_
  refine z_imul (pc := 7) dX12_of_7 ?_
  refine z_iload_n (pc := 8) (q := 2) dX12_of_8 rfl rfl ?_
  refine z_iadd (pc := 9) dX12_of_9 ?_
  obtain ⟨c1, h⟩ := zg_some h
  refine z_iald (pc := 10) dX12_of_10 aM_20 c1 ?_
  obtain ⟨rfl, rfl⟩ := zr_some h
  exact z_iret dX12_of_11
def f_X12_bills  (S : zS) : Option (Int32 × zS) :=
  some (S.1 20 (Int32.toNatClampNeg 96), S)
set_option maxRecDepth 100000 in
theorem w_X12_bills (l : Launch)  {S : zS} {r : Int32} {S1 : zS} (h : f_X12_bills S = some (r, S1)) : zMet zLM l yX12_bills cX12_bills 1 (some .int) 1 [.ref 0] S (some (.int r)) S1 := by
  unfold f_X12_bills at h
  refine zMet.of (by decide +kernel) (Nat.le_of_ble_eq_true rfl) ?_
  show WA zLM l RX12 cX12_bills 1 (some .int) 1 (some (.int r)) S1 0 [(0, .ref 0)] [] S
  refine z_aload_n (pc := 0) (q := 0) dX12_bills_0 rfl rfl ?_
  refine z_getR (pc := 1) dX12_bills_1 zf_X12_79 gM_0_54 ?_
  refine z_bipush (pc := 4) (v := 96) dX12_bills_4 zcb_96 ?_
  refine z_iald (pc := 6) dX12_bills_6 aM_20 (by decide) ?_
  obtain ⟨rfl, rfl⟩ := zr_some h
  exact z_iret dX12_bills_7
def f_X12_lives (x1 : Int32) (S : zS) : Option (Int32 × zS) :=
  zb (f_X12_of x1 0 S) fun r3 T2 =>
  if (0 : Int32) < r3 then
    some (1, T2)
  else
    some (0, T2)
set_option maxRecDepth 100000 in
theorem w_X12_lives (l : Launch) {x1 : Int32} {S : zS} {r : Int32} {S1 : zS} (h : f_X12_lives x1 S = some (r, S1)) : zMet zLM l yX12_lives cX12_lives 2 (some .boolean) 2 [.ref 0, .int x1] S (some (.int r)) S1 := by
  unfold f_X12_lives at h
  refine zMet.of (by decide +kernel) (Nat.le_of_ble_eq_true rfl) ?_
  show WA zLM l RX12 cX12_lives 2 (some .boolean) 2 (some (.int r)) S1 0 [(0, .ref 0), (1, .int x1)] [] S
  refine z_aload_n (pc := 0) (q := 0) dX12_lives_0 rfl rfl ?_
  refine z_iload_n (pc := 1) (q := 1) dX12_lives_1 rfl rfl ?_
  refine z_iconst (pc := 2) (v := 0) dX12_lives_2 zci_0 ?_
  obtain ⟨r3, T2, q1, h⟩ := zb_some h
  refine z_callVi (pc := 3) (st := []) [.int x1, .int 0] dX12_lives_3 zm_X12_426 zM_X12_of (by decide) oM_0 rfl (w_X12_of l q1) rfl rfl (Nat.le_of_ble_eq_true rfl) ?_
  refine z_if_le (pc := 6) (tgt := 13) dX12_lives_6 (by decide) (fun c4 => ?_) (fun c4 => ?_)
  · have h := ze_some c4 h
    refine z_iconst (pc := 13) (v := 0) dX12_lives_13 zci_0 ?_
    obtain ⟨rfl, rfl⟩ := zr_some h
    exact z_zret dX12_lives_14 rfl
  · have h := zt_some c4 h
    refine z_iconst (pc := 9) (v := 1) dX12_lives_9 zci_1 ?_
    refine z_goto (pc := 10) (tgt := 14) dX12_lives_10 (by decide) ?_
    obtain ⟨rfl, rfl⟩ := zr_some h
    exact z_zret dX12_lives_14 rfl
def f_X12_livingSet_L4 : Nat → Int32 → Int32 → zS → Option (Int32 × zS)
  | 0, _, _, _ => none
  | n + 1, x1, x2, S =>
    zb (f_X12_bills S) fun r3 T2 =>
    if x2 < r3 then
      zb (f_X12_lives x2 T2) fun r7 T6 =>
      zb (f_X12_truth r7 T6) fun r10 T9 =>
      zlet (x1 ||| (r10 <<< (x2 &&& 31))) fun v11 =>
      zlet (x2 + 1) fun v12 =>
      (f_X12_livingSet_L4 n) v11 v12 T9
    else
      some (x1, T2)
def f_X12_livingSet  (S : zS) : Option (Int32 × zS) :=
  f_X12_livingSet_L4 zN 0 0 S
set_option maxRecDepth 100000 in
theorem w_X12_livingSet_L4 (l : Launch) {r : Int32} {S1 : zS} : ∀ (n : Nat) (x1 : Int32) (x2 : Int32) (S : zS), f_X12_livingSet_L4 n x1 x2 S = some (r, S1) → WA zLM l RX12 cX12_livingSet 3 (some .int) 3 (some (.int r)) S1 4 [(0, .ref 0), (1, .int x1), (2, .int x2)] [] S := by
  intro n
  induction n with
  | zero =>
    intro x1 x2 S h
    exact nomatch h
  | succ n ih =>
    intro x1 x2 S h
    rw [f_X12_livingSet_L4] at h
    refine z_iload_n (pc := 4) (q := 2) dX12_livingSet_4 rfl rfl ?_
    refine z_aload_n (pc := 5) (q := 0) dX12_livingSet_5 rfl rfl ?_
    obtain ⟨r3, T2, q1, h⟩ := zb_some h
    refine z_callVi (pc := 6) (st := [.int x2]) [] dX12_livingSet_6 zm_X12_429 zM_X12_bills (by decide) oM_0 rfl (w_X12_bills l q1) rfl rfl (Nat.le_of_ble_eq_true rfl) ?_
    refine z_icmp_ge (pc := 9) (tgt := 31) dX12_livingSet_9 (by decide) (fun c4 => ?_) (fun c4 => ?_)
    · have h := ze_some c4 h
      refine z_iload_n (pc := 31) (q := 1) dX12_livingSet_31 rfl rfl ?_
      obtain ⟨rfl, rfl⟩ := zr_some h
      exact z_iret dX12_livingSet_32
    · have h := zt_some c4 h
      refine z_iload_n (pc := 12) (q := 1) dX12_livingSet_12 rfl rfl ?_
      refine z_aload_n (pc := 13) (q := 0) dX12_livingSet_13 rfl rfl ?_
      refine z_iload_n (pc := 14) (q := 2) dX12_livingSet_14 rfl rfl ?_
      obtain ⟨r7, T6, q5, h⟩ := zb_some h
      refine z_callVi (pc := 15) (st := [.int x1]) [.int x2] dX12_livingSet_15 zm_X12_432 zM_X12_lives (by decide) oM_0 rfl (w_X12_lives l q5) rfl rfl (Nat.le_of_ble_eq_true rfl) ?_
      obtain ⟨r10, T9, q8, h⟩ := zb_some h
      refine z_callSi (pc := 18) (st := [.int x1]) [.int r7] dX12_livingSet_18 zm_X12_307 zM_X12_truth (by decide) (w_X12_truth l q8) rfl rfl (Nat.le_of_ble_eq_true rfl) ?_
      refine z_iload_n (pc := 21) (q := 2) dX12_livingSet_21 rfl rfl ?_
      refine z_ishl (pc := 22) dX12_livingSet_22 ?_
      refine z_ior (pc := 23) dX12_livingSet_23 ?_
      obtain ⟨v11, ev11, h⟩ := zl_some h
      refine z_top ev11 ?_
      refine z_istore_n (pc := 24) (lo' := [(1, .int v11), (0, .ref 0), (2, .int x2)]) dX12_livingSet_24 rfl (by decide) rfl ?_
      obtain ⟨v12, ev12, h⟩ := zl_some h
      refine z_iinc (pc := 25) (q := 2) (v := v12) (lo' := [(2, .int v12), (1, .int v11), (0, .ref 0)]) dX12_livingSet_25 rfl (by rw [ev12, zci_1]) (by decide) rfl ?_
      refine z_goto (pc := 28) (tgt := 4) dX12_livingSet_28 (by decide) ?_
      exact z_sub [2, 1, 0] rfl (ih v11 v12 T9 h)
set_option maxRecDepth 100000 in
theorem w_X12_livingSet (l : Launch)  {S : zS} {r : Int32} {S1 : zS} (h : f_X12_livingSet S = some (r, S1)) : zMet zLM l yX12_livingSet cX12_livingSet 3 (some .int) 3 [.ref 0] S (some (.int r)) S1 := by
  unfold f_X12_livingSet at h
  refine zMet.of (by decide +kernel) (Nat.le_of_ble_eq_true rfl) ?_
  show WA zLM l RX12 cX12_livingSet 3 (some .int) 3 (some (.int r)) S1 0 [(0, .ref 0)] [] S
  refine z_iconst (pc := 0) (v := 0) dX12_livingSet_0 zci_0 ?_
  refine z_istore_n (pc := 1) (lo' := [(1, .int 0), (0, .ref 0)]) dX12_livingSet_1 rfl (by decide) rfl ?_
  refine z_iconst (pc := 2) (v := 0) dX12_livingSet_2 zci_0 ?_
  refine z_istore_n (pc := 3) (lo' := [(2, .int 0), (1, .int 0), (0, .ref 0)]) dX12_livingSet_3 rfl (by decide) rfl ?_
  exact z_sub [2, 1, 0] rfl (w_X12_livingSet_L4 l zN 0 0 S h)
def f_X12_repealedSet_L4 : Nat → Int32 → Int32 → zS → Option (Int32 × zS)
  | 0, _, _, _ => none
  | n + 1, x1, x2, S =>
    zb (f_X12_bills S) fun r3 T2 =>
    if x2 < r3 then
      zb (f_X12_lives x2 T2) fun r7 T6 =>
      if r7 = 0 then
        zlet (x2 + 1) fun v9 =>
        (f_X12_repealedSet_L4 n) x1 v9 T6
      else
        zb (f_X12_of x2 7 T6) fun r11 T10 =>
        if r11 < 0 then
          zlet (x2 + 1) fun v13 =>
          (f_X12_repealedSet_L4 n) x1 v13 T10
        else
          zb (f_X12_of x2 7 T10) fun r15 T14 =>
          zlet (x1 ||| (1 <<< (r15 &&& 31))) fun v16 =>
          zlet (x2 + 1) fun v17 =>
          (f_X12_repealedSet_L4 n) v16 v17 T14
    else
      some (x1, T2)
def f_X12_repealedSet  (S : zS) : Option (Int32 × zS) :=
  f_X12_repealedSet_L4 zN 0 0 S
set_option maxRecDepth 100000 in
theorem w_X12_repealedSet_L4 (l : Launch) {r : Int32} {S1 : zS} : ∀ (n : Nat) (x1 : Int32) (x2 : Int32) (S : zS), f_X12_repealedSet_L4 n x1 x2 S = some (r, S1) → WA zLM l RX12 cX12_repealedSet 3 (some .int) 3 (some (.int r)) S1 4 [(0, .ref 0), (1, .int x1), (2, .int x2)] [] S := by
  intro n
  induction n with
  | zero =>
    intro x1 x2 S h
    exact nomatch h
  | succ n ih =>
    intro x1 x2 S h
    rw [f_X12_repealedSet_L4] at h
    refine z_iload_n (pc := 4) (q := 2) dX12_repealedSet_4 rfl rfl ?_
    refine z_aload_n (pc := 5) (q := 0) dX12_repealedSet_5 rfl rfl ?_
    obtain ⟨r3, T2, q1, h⟩ := zb_some h
    refine z_callVi (pc := 6) (st := [.int x2]) [] dX12_repealedSet_6 zm_X12_429 zM_X12_bills (by decide) oM_0 rfl (w_X12_bills l q1) rfl rfl (Nat.le_of_ble_eq_true rfl) ?_
    refine z_icmp_ge (pc := 9) (tgt := 48) dX12_repealedSet_9 (by decide) (fun c4 => ?_) (fun c4 => ?_)
    · have h := ze_some c4 h
      refine z_iload_n (pc := 48) (q := 1) dX12_repealedSet_48 rfl rfl ?_
      obtain ⟨rfl, rfl⟩ := zr_some h
      exact z_iret dX12_repealedSet_49
    · have h := zt_some c4 h
      refine z_aload_n (pc := 12) (q := 0) dX12_repealedSet_12 rfl rfl ?_
      refine z_iload_n (pc := 13) (q := 2) dX12_repealedSet_13 rfl rfl ?_
      obtain ⟨r7, T6, q5, h⟩ := zb_some h
      refine z_callVi (pc := 14) (st := []) [.int x2] dX12_repealedSet_14 zm_X12_432 zM_X12_lives (by decide) oM_0 rfl (w_X12_lives l q5) rfl rfl (Nat.le_of_ble_eq_true rfl) ?_
      refine z_if_eq (pc := 17) (tgt := 42) dX12_repealedSet_17 (by decide) (fun c8 => ?_) (fun c8 => ?_)
      · have h := zt_some c8 h
        obtain ⟨v9, ev9, h⟩ := zl_some h
        refine z_iinc (pc := 42) (q := 2) (v := v9) (lo' := [(2, .int v9), (0, .ref 0), (1, .int x1)]) dX12_repealedSet_42 rfl (by rw [ev9, zci_1]) (by decide) rfl ?_
        refine z_goto (pc := 45) (tgt := 4) dX12_repealedSet_45 (by decide) ?_
        exact z_sub [1, 2, 0] rfl (ih x1 v9 T6 h)
      · have h := ze_some c8 h
        refine z_aload_n (pc := 20) (q := 0) dX12_repealedSet_20 rfl rfl ?_
        refine z_iload_n (pc := 21) (q := 2) dX12_repealedSet_21 rfl rfl ?_
        refine z_bipush (pc := 22) (v := 7) dX12_repealedSet_22 zcb_7 ?_
        obtain ⟨r11, T10, q9, h⟩ := zb_some h
        refine z_callVi (pc := 24) (st := []) [.int x2, .int 7] dX12_repealedSet_24 zm_X12_426 zM_X12_of (by decide) oM_0 rfl (w_X12_of l q9) rfl rfl (Nat.le_of_ble_eq_true rfl) ?_
        refine z_if_lt (pc := 27) (tgt := 42) dX12_repealedSet_27 (by decide) (fun c12 => ?_) (fun c12 => ?_)
        · have h := zt_some c12 h
          obtain ⟨v13, ev13, h⟩ := zl_some h
          refine z_iinc (pc := 42) (q := 2) (v := v13) (lo' := [(2, .int v13), (0, .ref 0), (1, .int x1)]) dX12_repealedSet_42 rfl (by rw [ev13, zci_1]) (by decide) rfl ?_
          refine z_goto (pc := 45) (tgt := 4) dX12_repealedSet_45 (by decide) ?_
          exact z_sub [1, 2, 0] rfl (ih x1 v13 T10 h)
        · have h := ze_some c12 h
          refine z_iload_n (pc := 30) (q := 1) dX12_repealedSet_30 rfl rfl ?_
          refine z_iconst (pc := 31) (v := 1) dX12_repealedSet_31 zci_1 ?_
          refine z_aload_n (pc := 32) (q := 0) dX12_repealedSet_32 rfl rfl ?_
          refine z_iload_n (pc := 33) (q := 2) dX12_repealedSet_33 rfl rfl ?_
          refine z_bipush (pc := 34) (v := 7) dX12_repealedSet_34 zcb_7 ?_
          obtain ⟨r15, T14, q13, h⟩ := zb_some h
          refine z_callVi (pc := 36) (st := [.int 1, .int x1]) [.int x2, .int 7] dX12_repealedSet_36 zm_X12_426 zM_X12_of (by decide) oM_0 rfl (w_X12_of l q13) rfl rfl (Nat.le_of_ble_eq_true rfl) ?_
          refine z_ishl (pc := 39) dX12_repealedSet_39 ?_
          refine z_ior (pc := 40) dX12_repealedSet_40 ?_
          obtain ⟨v16, ev16, h⟩ := zl_some h
          refine z_top ev16 ?_
          refine z_istore_n (pc := 41) (lo' := [(1, .int v16), (0, .ref 0), (2, .int x2)]) dX12_repealedSet_41 rfl (by decide) rfl ?_
          obtain ⟨v17, ev17, h⟩ := zl_some h
          refine z_iinc (pc := 42) (q := 2) (v := v17) (lo' := [(2, .int v17), (1, .int v16), (0, .ref 0)]) dX12_repealedSet_42 rfl (by rw [ev17, zci_1]) (by decide) rfl ?_
          refine z_goto (pc := 45) (tgt := 4) dX12_repealedSet_45 (by decide) ?_
          exact z_sub [2, 1, 0] rfl (ih v16 v17 T14 h)
set_option maxRecDepth 100000 in
theorem w_X12_repealedSet (l : Launch)  {S : zS} {r : Int32} {S1 : zS} (h : f_X12_repealedSet S = some (r, S1)) : zMet zLM l yX12_repealedSet cX12_repealedSet 3 (some .int) 3 [.ref 0] S (some (.int r)) S1 := by
  unfold f_X12_repealedSet at h
  refine zMet.of (by decide +kernel) (Nat.le_of_ble_eq_true rfl) ?_
  show WA zLM l RX12 cX12_repealedSet 3 (some .int) 3 (some (.int r)) S1 0 [(0, .ref 0)] [] S
  refine z_iconst (pc := 0) (v := 0) dX12_repealedSet_0 zci_0 ?_
  refine z_istore_n (pc := 1) (lo' := [(1, .int 0), (0, .ref 0)]) dX12_repealedSet_1 rfl (by decide) rfl ?_
  refine z_iconst (pc := 2) (v := 0) dX12_repealedSet_2 zci_0 ?_
  refine z_istore_n (pc := 3) (lo' := [(2, .int 0), (1, .int 0), (0, .ref 0)]) dX12_repealedSet_3 rfl (by decide) rfl ?_
  exact z_sub [2, 1, 0] rfl (w_X12_repealedSet_L4 l zN 0 0 S h)
