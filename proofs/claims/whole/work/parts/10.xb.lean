def f_X2_joined (x0 : Int32) (x1 : Int32) (x2 : Int32) (S : zS) : Option (Int32 × zS) :=
  if x0 = (-15) then
    if x2 = 0 then
      some (0, S)
    else
      if ¬ x2 = 0 then
      some (x1 / x2, S) else none
  else
    if x0 = (-14) then
      some (x1 * x2, S)
    else
      if x0 = (-13) then
        some (x1 - x2, S)
      else
        if x0 = (-12) then
          some (x1 + x2, S)
        else
          if x0 = (-11) then
            if x1 = x2 then
              some (1, S)
            else
              some (0, S)
          else
            if x0 = (-10) then
              if x2 < x1 then
                some (1, S)
              else
                some (0, S)
            else
              if x0 = (-9) then
                if x1 < x2 then
                  some (1, S)
                else
                  some (0, S)
              else
                if x0 = (-8) then
                  if x1 = 0 then
                    some (0, S)
                  else
                    if x2 = 0 then
                      some (0, S)
                    else
                      some (1, S)
                else
                  if x0 = (-7) then
                    if x1 = 0 then
                      if x2 = 0 then
                        some (0, S)
                      else
                        some (1, S)
                    else
                      some (1, S)
                  else
                    if x2 = 0 then
                      some (0, S)
                    else
                      if ¬ x2 = 0 then
                      some (zrem x1 x2, S) else none
set_option maxRecDepth 100000 in
theorem w_X2_joined (l : Launch) {x0 : Int32} {x1 : Int32} {x2 : Int32} {S : zS} {r : Int32} {S1 : zS} (h : f_X2_joined x0 x1 x2 S = some (r, S1)) : zMet zLX l yX2_joined cX2_joined 3 (some .int) 1 [.int x0, .int x1, .int x2] S (some (.int r)) S1 := by
  unfold f_X2_joined at h
  refine zMet.of (by decide +kernel) (Nat.le_of_ble_eq_true rfl) ?_
  show WA zLX l RX2 cX2_joined 3 (some .int) 1 (some (.int r)) S1 0 [(0, .int x0), (1, .int x1), (2, .int x2)] [] S
  refine z_iload_n (pc := 0) (q := 0) dX2_joined_0 rfl rfl ?_
  refine z_tsw (pc := 1) 137 [((-15), 125), ((-14), 121), ((-13), 117), ((-12), 113), ((-11), 102), ((-10), 91), ((-9), 80), ((-8), 66), ((-7), 52)] dX2_joined_1 (by decide) (by decide +kernel) (by decide +kernel) ?_
  refine zsw_c (fun c1 => ?_) (fun c1 => ?_)
  · have h := zt_some c1 h
    refine z_iload_n (pc := 125) (q := 2) dX2_joined_125 rfl rfl ?_
    refine z_if_ne (pc := 126) (tgt := 133) dX2_joined_126 (by decide) (fun c2 => ?_) (fun c2 => ?_)
    · have h := ze_some c2 h
      refine z_iload_n (pc := 133) (q := 1) dX2_joined_133 rfl rfl ?_
      refine z_iload_n (pc := 134) (q := 2) dX2_joined_134 rfl rfl ?_
      obtain ⟨c3, h⟩ := zg_some h
      refine z_idiv (pc := 135) dX2_joined_135 c3 ?_
      obtain ⟨rfl, rfl⟩ := zr_some h
      exact z_iret dX2_joined_136
    · have h := zt_some c2 h
      refine z_iconst (pc := 129) (v := 0) dX2_joined_129 zci_0 ?_
      refine z_goto (pc := 130) (tgt := 136) dX2_joined_130 (by decide) ?_
      obtain ⟨rfl, rfl⟩ := zr_some h
      exact z_iret dX2_joined_136
  · have h := ze_some c1 h
    refine zsw_c (fun c2 => ?_) (fun c2 => ?_)
    · have h := zt_some c2 h
      refine z_iload_n (pc := 121) (q := 1) dX2_joined_121 rfl rfl ?_
      refine z_iload_n (pc := 122) (q := 2) dX2_joined_122 rfl rfl ?_
      refine z_imul (pc := 123) dX2_joined_123 ?_
      obtain ⟨rfl, rfl⟩ := zr_some h
      exact z_iret dX2_joined_124
    · have h := ze_some c2 h
      refine zsw_c (fun c3 => ?_) (fun c3 => ?_)
      · have h := zt_some c3 h
        refine z_iload_n (pc := 117) (q := 1) dX2_joined_117 rfl rfl ?_
        refine z_iload_n (pc := 118) (q := 2) dX2_joined_118 rfl rfl ?_
        refine z_isub (pc := 119) dX2_joined_119 ?_
        obtain ⟨rfl, rfl⟩ := zr_some h
        exact z_iret dX2_joined_120
      · have h := ze_some c3 h
        refine zsw_c (fun c4 => ?_) (fun c4 => ?_)
        · have h := zt_some c4 h
          refine z_iload_n (pc := 113) (q := 1) dX2_joined_113 rfl rfl ?_
          refine z_iload_n (pc := 114) (q := 2) dX2_joined_114 rfl rfl ?_
          refine z_iadd (pc := 115) dX2_joined_115 ?_
          obtain ⟨rfl, rfl⟩ := zr_some h
          exact z_iret dX2_joined_116
        · have h := ze_some c4 h
          refine zsw_c (fun c5 => ?_) (fun c5 => ?_)
          · have h := zt_some c5 h
            refine z_iload_n (pc := 102) (q := 1) dX2_joined_102 rfl rfl ?_
            refine z_iload_n (pc := 103) (q := 2) dX2_joined_103 rfl rfl ?_
            refine z_icmp_ne (pc := 104) (tgt := 111) dX2_joined_104 (by decide) (fun c6 => ?_) (fun c6 => ?_)
            · have h := ze_some c6 h
              refine z_iconst (pc := 111) (v := 0) dX2_joined_111 zci_0 ?_
              obtain ⟨rfl, rfl⟩ := zr_some h
              exact z_iret dX2_joined_112
            · have h := zt_some c6 h
              refine z_iconst (pc := 107) (v := 1) dX2_joined_107 zci_1 ?_
              refine z_goto (pc := 108) (tgt := 112) dX2_joined_108 (by decide) ?_
              obtain ⟨rfl, rfl⟩ := zr_some h
              exact z_iret dX2_joined_112
          · have h := ze_some c5 h
            refine zsw_c (fun c6 => ?_) (fun c6 => ?_)
            · have h := zt_some c6 h
              refine z_iload_n (pc := 91) (q := 1) dX2_joined_91 rfl rfl ?_
              refine z_iload_n (pc := 92) (q := 2) dX2_joined_92 rfl rfl ?_
              refine z_icmp_le (pc := 93) (tgt := 100) dX2_joined_93 (by decide) (fun c7 => ?_) (fun c7 => ?_)
              · have h := ze_some c7 h
                refine z_iconst (pc := 100) (v := 0) dX2_joined_100 zci_0 ?_
                obtain ⟨rfl, rfl⟩ := zr_some h
                exact z_iret dX2_joined_101
              · have h := zt_some c7 h
                refine z_iconst (pc := 96) (v := 1) dX2_joined_96 zci_1 ?_
                refine z_goto (pc := 97) (tgt := 101) dX2_joined_97 (by decide) ?_
                obtain ⟨rfl, rfl⟩ := zr_some h
                exact z_iret dX2_joined_101
            · have h := ze_some c6 h
              refine zsw_c (fun c7 => ?_) (fun c7 => ?_)
              · have h := zt_some c7 h
                refine z_iload_n (pc := 80) (q := 1) dX2_joined_80 rfl rfl ?_
                refine z_iload_n (pc := 81) (q := 2) dX2_joined_81 rfl rfl ?_
                refine z_icmp_ge (pc := 82) (tgt := 89) dX2_joined_82 (by decide) (fun c8 => ?_) (fun c8 => ?_)
                · have h := ze_some c8 h
                  refine z_iconst (pc := 89) (v := 0) dX2_joined_89 zci_0 ?_
                  obtain ⟨rfl, rfl⟩ := zr_some h
                  exact z_iret dX2_joined_90
                · have h := zt_some c8 h
                  refine z_iconst (pc := 85) (v := 1) dX2_joined_85 zci_1 ?_
                  refine z_goto (pc := 86) (tgt := 90) dX2_joined_86 (by decide) ?_
                  obtain ⟨rfl, rfl⟩ := zr_some h
                  exact z_iret dX2_joined_90
              · have h := ze_some c7 h
                refine zsw_c (fun c8 => ?_) (fun c8 => ?_)
                · have h := zt_some c8 h
                  refine z_iload_n (pc := 66) (q := 1) dX2_joined_66 rfl rfl ?_
                  refine z_if_eq (pc := 67) (tgt := 78) dX2_joined_67 (by decide) (fun c9 => ?_) (fun c9 => ?_)
                  · have h := zt_some c9 h
                    refine z_iconst (pc := 78) (v := 0) dX2_joined_78 zci_0 ?_
                    obtain ⟨rfl, rfl⟩ := zr_some h
                    exact z_iret dX2_joined_79
                  · have h := ze_some c9 h
                    refine z_iload_n (pc := 70) (q := 2) dX2_joined_70 rfl rfl ?_
                    refine z_if_eq (pc := 71) (tgt := 78) dX2_joined_71 (by decide) (fun c10 => ?_) (fun c10 => ?_)
                    · have h := zt_some c10 h
                      refine z_iconst (pc := 78) (v := 0) dX2_joined_78 zci_0 ?_
                      obtain ⟨rfl, rfl⟩ := zr_some h
                      exact z_iret dX2_joined_79
                    · have h := ze_some c10 h
                      refine z_iconst (pc := 74) (v := 1) dX2_joined_74 zci_1 ?_
                      refine z_goto (pc := 75) (tgt := 79) dX2_joined_75 (by decide) ?_
                      obtain ⟨rfl, rfl⟩ := zr_some h
                      exact z_iret dX2_joined_79
                · have h := ze_some c8 h
                  refine zsw_c (fun c9 => ?_) (fun c9 => ?_)
                  · have h := zt_some c9 h
                    refine z_iload_n (pc := 52) (q := 1) dX2_joined_52 rfl rfl ?_
                    refine z_if_ne (pc := 53) (tgt := 60) dX2_joined_53 (by decide) (fun c10 => ?_) (fun c10 => ?_)
                    · have h := ze_some c10 h
                      refine z_iconst (pc := 60) (v := 1) dX2_joined_60 zci_1 ?_
                      refine z_goto (pc := 61) (tgt := 65) dX2_joined_61 (by decide) ?_
                      obtain ⟨rfl, rfl⟩ := zr_some h
                      exact z_iret dX2_joined_65
                    · have h := zt_some c10 h
                      refine z_iload_n (pc := 56) (q := 2) dX2_joined_56 rfl rfl ?_
                      refine z_if_eq (pc := 57) (tgt := 64) dX2_joined_57 (by decide) (fun c11 => ?_) (fun c11 => ?_)
                      · have h := zt_some c11 h
                        refine z_iconst (pc := 64) (v := 0) dX2_joined_64 zci_0 ?_
                        obtain ⟨rfl, rfl⟩ := zr_some h
                        exact z_iret dX2_joined_65
                      · have h := ze_some c11 h
                        refine z_iconst (pc := 60) (v := 1) dX2_joined_60 zci_1 ?_
                        refine z_goto (pc := 61) (tgt := 65) dX2_joined_61 (by decide) ?_
                        obtain ⟨rfl, rfl⟩ := zr_some h
                        exact z_iret dX2_joined_65
                  · have h := ze_some c9 h
                    refine zsw_n ?_
                    refine z_iload_n (pc := 137) (q := 2) dX2_joined_137 rfl rfl ?_
                    refine z_if_ne (pc := 138) (tgt := 145) dX2_joined_138 (by decide) (fun c10 => ?_) (fun c10 => ?_)
                    · have h := ze_some c10 h
                      refine z_iload_n (pc := 145) (q := 1) dX2_joined_145 rfl rfl ?_
                      refine z_iload_n (pc := 146) (q := 2) dX2_joined_146 rfl rfl ?_
                      obtain ⟨c11, h⟩ := zg_some h
                      refine z_irem (pc := 147) dX2_joined_147 c11 ?_
                      refine zrem_fold ?_
                      obtain ⟨rfl, rfl⟩ := zr_some h
                      exact z_iret dX2_joined_148
                    · have h := zt_some c10 h
                      refine z_iconst (pc := 141) (v := 0) dX2_joined_141 zci_0 ?_
                      refine z_goto (pc := 142) (tgt := 148) dX2_joined_142 (by decide) ?_
                      obtain ⟨rfl, rfl⟩ := zr_some h
                      exact z_iret dX2_joined_148
def f_X2_result_9_B206 (x6 : Int32) (S : zS) : Option (Int32 × zS) :=
  if (0 : Int32) < x6 then
    if zin (x6 - 1) 32 then
    some (S.1 12 (x6 - 1).toNatClampNeg, S) else none
  else
    some (0, S)
def f_X2_result_9_B157 (K43 : Int32 → Int32 → zS → Option (Int32 × zS)) (x6 : Int32) (x7 : Int32) (s0 : Int32) (s1 : Int32) (S : zS) : Option (Int32 × zS) :=
  if zin s1 32 then
  zlet (zput S 12 s1.toNatClampNeg s0) fun T2 =>
  zlet (x7 + 1) fun v3 =>
  K43 x6 v3 T2 else none
def f_X2_result_9_B113 (K43 : Int32 → Int32 → zS → Option (Int32 × zS)) (x6 : Int32) (x7 : Int32) (s0 : Int32) (s1 : Int32) (S : zS) : Option (Int32 × zS) :=
  if zin s1 32 then
  zlet (zput S 12 s1.toNatClampNeg s0) fun T2 =>
  zlet (x6 + 1) fun v3 =>
  zlet (x7 + 1) fun v4 =>
  K43 v3 v4 T2 else none
def f_X2_result_9_L43 : Nat → Int32 → Int32 → zS → Option (Int32 × zS)
  | 0, _, _, _ => none
  | n + 1, x6, x7, S =>
    if x7 < (S.1 9 1) then
      if x7 < 272 then
        if zin x7 272 then
        zlet (S.1 10 x7.toNatClampNeg) fun v4 =>
        if (-6 : Int32) < v4 then
          if x6 < 32 then
            if v4 < 0 then
              if zin (v4 ^^^ (-1)) 5 then
              f_X2_result_9_B113 (f_X2_result_9_L43 n) x6 x7 (S.1 11 (v4 ^^^ (-1)).toNatClampNeg) x6 S else none
            else
              f_X2_result_9_B113 (f_X2_result_9_L43 n) x6 x7 v4 x6 S
          else
            zlet (x7 + 1) fun v7 =>
            (f_X2_result_9_L43 n) x6 v7 S
        else
          if v4 = (-6) then
            if (0 : Int32) < x6 then
              if zin (x6 - 1) 32 then
              if (S.1 12 (x6 - 1).toNatClampNeg) = 0 then
                f_X2_result_9_B157 (f_X2_result_9_L43 n) x6 x7 1 (x6 - 1) S
              else
                f_X2_result_9_B157 (f_X2_result_9_L43 n) x6 x7 0 (x6 - 1) S else none
            else
              zlet (x7 + 1) fun v8 =>
              (f_X2_result_9_L43 n) x6 v8 S
          else
            if (1 : Int32) < x6 then
              zlet (x6 + (-1)) fun v8 =>
              if zin (v8 - 1) 32 then
              if zin v8 32 then
              zb (f_X2_joined v4 (S.1 12 (v8 - 1).toNatClampNeg) (S.1 12 v8.toNatClampNeg) S) fun r13 T12 =>
              if zin (v8 - 1) 32 then
              zlet (zput T12 12 (v8 - 1).toNatClampNeg r13) fun T15 =>
              zlet (x7 + 1) fun v16 =>
              (f_X2_result_9_L43 n) v8 v16 T15 else none else none else none
            else
              zlet (x7 + 1) fun v8 =>
              (f_X2_result_9_L43 n) x6 v8 S else none
      else
        f_X2_result_9_B206 x6 S
    else
      f_X2_result_9_B206 x6 S
def f_X2_result_9 (x1 : Int32) (x2 : Int32) (x3 : Int32) (x4 : Int32) (x5 : Int32) (S : zS) : Option (Int32 × zS) :=
  zlet (zput S 11 (Int32.toNatClampNeg 0) x1) fun T1 =>
  zlet (zput T1 11 (Int32.toNatClampNeg 1) x2) fun T2 =>
  zlet (zput T2 11 (Int32.toNatClampNeg 2) x3) fun T3 =>
  zlet (zput T3 11 (Int32.toNatClampNeg 3) x4) fun T4 =>
  zlet (zput T4 11 (Int32.toNatClampNeg 4) x5) fun T5 =>
  f_X2_result_9_L43 zN 0 0 T5
set_option maxRecDepth 100000 in
theorem w_X2_result_9_B206 (l : Launch) {r : Int32} {S1 : zS} (x6 : Int32) (S : zS) (h : f_X2_result_9_B206 x6 S = some (r, S1)) : WA zLX l RX2 cX2_result 9 (some .int) 2 (some (.int r)) S1 206 [(0, .ref 9), (6, .int x6)] [] S := by
  unfold f_X2_result_9_B206 at h
  refine z_iload (pc := 206) (q := 1) dX2_result_206 rfl ?_
  refine z_if_le (pc := 208) (tgt := 223) dX2_result_208 (by decide) (fun c1 => ?_) (fun c1 => ?_)
  · have h := ze_some c1 h
    refine z_iconst (pc := 223) (v := 0) dX2_result_223 zci_0 ?_
    obtain ⟨rfl, rfl⟩ := zr_some h
    exact z_iret dX2_result_224
  · have h := zt_some c1 h
    refine z_aload_n (pc := 211) (q := 0) dX2_result_211 rfl rfl ?_
    refine z_getR (pc := 212) dX2_result_212 zf_X2_16 gX_9_4 ?_
    refine z_iload (pc := 215) (q := 1) dX2_result_215 rfl ?_
    refine z_iconst (pc := 217) (v := 1) dX2_result_217 zci_1 ?_
    refine z_isub (pc := 218) dX2_result_218 ?_
    obtain ⟨c2, h⟩ := zg_some h
    refine z_iald (pc := 219) dX2_result_219 aX_12 c2 ?_
    refine z_goto (pc := 220) (tgt := 224) dX2_result_220 (by decide) ?_
    obtain ⟨rfl, rfl⟩ := zr_some h
    exact z_iret dX2_result_224
set_option maxRecDepth 100000 in
theorem w_X2_result_9_B157 (l : Launch) {r : Int32} {S1 : zS} (K43 : Int32 → Int32 → zS → Option (Int32 × zS)) (hK43 : ∀ (x6 : Int32) (x7 : Int32) (S : zS), K43 x6 x7 S = some (r, S1) → WA zLX l RX2 cX2_result 9 (some .int) 2 (some (.int r)) S1 43 [(0, .ref 9), (6, .int x6), (7, .int x7)] [] S) (x6 : Int32) (x7 : Int32) (s0 : Int32) (s1 : Int32) (S : zS) (h : f_X2_result_9_B157 K43 x6 x7 s0 s1 S = some (r, S1)) : WA zLX l RX2 cX2_result 9 (some .int) 2 (some (.int r)) S1 157 [(0, .ref 9), (6, .int x6), (7, .int x7)] [.int s0, .int s1, .ref 12] S := by
  unfold f_X2_result_9_B157 at h
  obtain ⟨c1, h⟩ := zg_some h
  obtain ⟨T2, eT2, h⟩ := zl_some h
  refine z_iast (pc := 157) dX2_result_157 aX_12 c1 eT2 ?_
  refine z_goto (pc := 158) (tgt := 200) dX2_result_158 (by decide) ?_
  obtain ⟨v3, ev3, h⟩ := zl_some h
  refine z_iinc (pc := 200) (q := 2) (v := v3) (lo' := [(7, .int v3), (0, .ref 9), (6, .int x6)]) dX2_result_200 rfl (by rw [ev3, zci_1]) (by decide) rfl ?_
  refine z_goto (pc := 203) (tgt := 43) dX2_result_203 (by decide) ?_
  exact z_sub [1, 2, 0] rfl (hK43 x6 v3 T2 h)
set_option maxRecDepth 100000 in
theorem w_X2_result_9_B113 (l : Launch) {r : Int32} {S1 : zS} (K43 : Int32 → Int32 → zS → Option (Int32 × zS)) (hK43 : ∀ (x6 : Int32) (x7 : Int32) (S : zS), K43 x6 x7 S = some (r, S1) → WA zLX l RX2 cX2_result 9 (some .int) 2 (some (.int r)) S1 43 [(0, .ref 9), (6, .int x6), (7, .int x7)] [] S) (x6 : Int32) (x7 : Int32) (s0 : Int32) (s1 : Int32) (S : zS) (h : f_X2_result_9_B113 K43 x6 x7 s0 s1 S = some (r, S1)) : WA zLX l RX2 cX2_result 9 (some .int) 2 (some (.int r)) S1 113 [(0, .ref 9), (6, .int x6), (7, .int x7)] [.int s0, .int s1, .ref 12] S := by
  unfold f_X2_result_9_B113 at h
  obtain ⟨c1, h⟩ := zg_some h
  obtain ⟨T2, eT2, h⟩ := zl_some h
  refine z_iast (pc := 113) dX2_result_113 aX_12 c1 eT2 ?_
  obtain ⟨v3, ev3, h⟩ := zl_some h
  refine z_iinc (pc := 114) (q := 1) (v := v3) (lo' := [(6, .int v3), (0, .ref 9), (7, .int x7)]) dX2_result_114 rfl (by rw [ev3, zci_1]) (by decide) rfl ?_
  refine z_goto (pc := 117) (tgt := 200) dX2_result_117 (by decide) ?_
  obtain ⟨v4, ev4, h⟩ := zl_some h
  refine z_iinc (pc := 200) (q := 2) (v := v4) (lo' := [(7, .int v4), (6, .int v3), (0, .ref 9)]) dX2_result_200 rfl (by rw [ev4, zci_1]) (by decide) rfl ?_
  refine z_goto (pc := 203) (tgt := 43) dX2_result_203 (by decide) ?_
  exact z_sub [2, 1, 0] rfl (hK43 v3 v4 T2 h)
set_option maxRecDepth 100000 in
theorem w_X2_result_9_L43 (l : Launch) {r : Int32} {S1 : zS} : ∀ (n : Nat) (x6 : Int32) (x7 : Int32) (S : zS), f_X2_result_9_L43 n x6 x7 S = some (r, S1) → WA zLX l RX2 cX2_result 9 (some .int) 2 (some (.int r)) S1 43 [(0, .ref 9), (6, .int x6), (7, .int x7)] [] S := by
  intro n
  induction n with
  | zero =>
    intro x6 x7 S h
    exact nomatch h
  | succ n ih =>
    intro x6 x7 S h
    rw [f_X2_result_9_L43] at h
    refine z_iload (pc := 43) (q := 2) dX2_result_43 rfl ?_
    refine z_aload_n (pc := 45) (q := 0) dX2_result_45 rfl rfl ?_
    refine z_getI (pc := 46) dX2_result_46 zf_X2_23 gX_9_1 ?_
    refine z_icmp_ge (pc := 49) (tgt := 206) dX2_result_49 (by decide) (fun c1 => ?_) (fun c1 => ?_)
    · have h := ze_some c1 h
      exact z_sub [0, 1] rfl (w_X2_result_9_B206 l x6 S h)
    · have h := zt_some c1 h
      refine z_iload (pc := 52) (q := 2) dX2_result_52 rfl ?_
      refine z_aload_n (pc := 54) (q := 0) dX2_result_54 rfl rfl ?_
      refine z_getR (pc := 55) dX2_result_55 zf_X2_9 gX_9_2 ?_
      refine z_alen (pc := 58) (v := 272) dX2_result_58 aX_10 (by decide) (by decide) ?_
      refine z_icmp_ge (pc := 59) (tgt := 206) dX2_result_59 (by decide) (fun c2 => ?_) (fun c2 => ?_)
      · have h := ze_some c2 h
        exact z_sub [0, 1] rfl (w_X2_result_9_B206 l x6 S h)
      · have h := zt_some c2 h
        refine z_aload_n (pc := 62) (q := 0) dX2_result_62 rfl rfl ?_
        refine z_getR (pc := 63) dX2_result_63 zf_X2_9 gX_9_2 ?_
        refine z_iload (pc := 66) (q := 2) dX2_result_66 rfl ?_
        obtain ⟨c3, h⟩ := zg_some h
        refine z_iald (pc := 68) dX2_result_68 aX_10 c3 ?_
        obtain ⟨v4, ev4, h⟩ := zl_some h
        refine z_top ev4 ?_
        refine z_istore (pc := 69) (lo' := [(8, .int v4), (0, .ref 9), (6, .int x6), (7, .int x7)]) dX2_result_69 (by decide) rfl ?_
        refine z_iload (pc := 71) (q := 0) dX2_result_71 rfl ?_
        refine z_bipush (pc := 73) (v := (-6)) dX2_result_73 zcb_m6 ?_
        refine z_icmp_le (pc := 75) (tgt := 120) dX2_result_75 (by decide) (fun c5 => ?_) (fun c5 => ?_)
        · have h := ze_some c5 h
          refine z_iload (pc := 120) (q := 0) dX2_result_120 rfl ?_
          refine z_bipush (pc := 122) (v := (-6)) dX2_result_122 zcb_m6 ?_
          refine z_icmp_ne (pc := 124) (tgt := 161) dX2_result_124 (by decide) (fun c6 => ?_) (fun c6 => ?_)
          · have h := ze_some c6 h
            refine z_iload (pc := 161) (q := 2) dX2_result_161 rfl ?_
            refine z_iconst (pc := 163) (v := 1) dX2_result_163 zci_1 ?_
            refine z_icmp_le (pc := 164) (tgt := 200) dX2_result_164 (by decide) (fun c7 => ?_) (fun c7 => ?_)
            · have h := ze_some c7 h
              obtain ⟨v8, ev8, h⟩ := zl_some h
              refine z_iinc (pc := 200) (q := 3) (v := v8) (lo' := [(7, .int v8), (8, .int v4), (0, .ref 9), (6, .int x6)]) dX2_result_200 rfl (by rw [ev8, zci_1]) (by decide) rfl ?_
              refine z_goto (pc := 203) (tgt := 43) dX2_result_203 (by decide) ?_
              exact z_sub [2, 3, 0] rfl (ih x6 v8 S h)
            · have h := zt_some c7 h
              obtain ⟨v8, ev8, h⟩ := zl_some h
              refine z_iinc (pc := 167) (q := 2) (v := v8) (lo' := [(6, .int v8), (8, .int v4), (0, .ref 9), (7, .int x7)]) dX2_result_167 rfl (by rw [ev8, zci_m1]) (by decide) rfl ?_
              refine z_aload_n (pc := 170) (q := 2) dX2_result_170 rfl rfl ?_
              refine z_getR (pc := 171) dX2_result_171 zf_X2_16 gX_9_4 ?_
              refine z_iload (pc := 174) (q := 0) dX2_result_174 rfl ?_
              refine z_iconst (pc := 176) (v := 1) dX2_result_176 zci_1 ?_
              refine z_isub (pc := 177) dX2_result_177 ?_
              refine z_iload (pc := 178) (q := 1) dX2_result_178 rfl ?_
              refine z_aload_n (pc := 180) (q := 2) dX2_result_180 rfl rfl ?_
              refine z_getR (pc := 181) dX2_result_181 zf_X2_16 gX_9_4 ?_
              refine z_iload (pc := 184) (q := 0) dX2_result_184 rfl ?_
              refine z_iconst (pc := 186) (v := 1) dX2_result_186 zci_1 ?_
              refine z_isub (pc := 187) dX2_result_187 ?_
              obtain ⟨c9, h⟩ := zg_some h
              refine z_iald (pc := 188) dX2_result_188 aX_12 c9 ?_
              refine z_aload_n (pc := 189) (q := 2) dX2_result_189 rfl rfl ?_
              refine z_getR (pc := 190) dX2_result_190 zf_X2_16 gX_9_4 ?_
              refine z_iload (pc := 193) (q := 0) dX2_result_193 rfl ?_
              obtain ⟨c10, h⟩ := zg_some h
              refine z_iald (pc := 195) dX2_result_195 aX_12 c10 ?_
              obtain ⟨r13, T12, q11, h⟩ := zb_some h
              refine z_callSi (pc := 196) (st := [.int (v8 - 1), .ref 12]) [.int v4, .int (S.1 12 (v8 - 1).toNatClampNeg), .int (S.1 12 v8.toNatClampNeg)] dX2_result_196 zm_X2_26 zM_X2_joined (by decide) (w_X2_joined l q11) rfl rfl (Nat.le_of_ble_eq_true rfl) ?_
              obtain ⟨c14, h⟩ := zg_some h
              obtain ⟨T15, eT15, h⟩ := zl_some h
              refine z_iast (pc := 199) dX2_result_199 aX_12 c14 eT15 ?_
              obtain ⟨v16, ev16, h⟩ := zl_some h
              refine z_iinc (pc := 200) (q := 3) (v := v16) (lo' := [(7, .int v16), (6, .int v8), (8, .int v4), (0, .ref 9)]) dX2_result_200 rfl (by rw [ev16, zci_1]) (by decide) rfl ?_
              refine z_goto (pc := 203) (tgt := 43) dX2_result_203 (by decide) ?_
              exact z_sub [3, 1, 0] rfl (ih v8 v16 T15 h)
          · have h := zt_some c6 h
            refine z_iload (pc := 127) (q := 2) dX2_result_127 rfl ?_
            refine z_if_le (pc := 129) (tgt := 200) dX2_result_129 (by decide) (fun c7 => ?_) (fun c7 => ?_)
            · have h := ze_some c7 h
              obtain ⟨v8, ev8, h⟩ := zl_some h
              refine z_iinc (pc := 200) (q := 3) (v := v8) (lo' := [(7, .int v8), (8, .int v4), (0, .ref 9), (6, .int x6)]) dX2_result_200 rfl (by rw [ev8, zci_1]) (by decide) rfl ?_
              refine z_goto (pc := 203) (tgt := 43) dX2_result_203 (by decide) ?_
              exact z_sub [2, 3, 0] rfl (ih x6 v8 S h)
            · have h := zt_some c7 h
              refine z_aload_n (pc := 132) (q := 1) dX2_result_132 rfl rfl ?_
              refine z_getR (pc := 133) dX2_result_133 zf_X2_16 gX_9_4 ?_
              refine z_iload (pc := 136) (q := 2) dX2_result_136 rfl ?_
              refine z_iconst (pc := 138) (v := 1) dX2_result_138 zci_1 ?_
              refine z_isub (pc := 139) dX2_result_139 ?_
              refine z_aload_n (pc := 140) (q := 1) dX2_result_140 rfl rfl ?_
              refine z_getR (pc := 141) dX2_result_141 zf_X2_16 gX_9_4 ?_
              refine z_iload (pc := 144) (q := 2) dX2_result_144 rfl ?_
              refine z_iconst (pc := 146) (v := 1) dX2_result_146 zci_1 ?_
              refine z_isub (pc := 147) dX2_result_147 ?_
              obtain ⟨c8, h⟩ := zg_some h
              refine z_iald (pc := 148) dX2_result_148 aX_12 c8 ?_
              refine z_if_ne (pc := 149) (tgt := 156) dX2_result_149 (by decide) (fun c9 => ?_) (fun c9 => ?_)
              · have h := ze_some c9 h
                refine z_iconst (pc := 156) (v := 0) dX2_result_156 zci_0 ?_
                exact z_sub [1, 2, 3] rfl (w_X2_result_9_B157 l (f_X2_result_9_L43 n) ih x6 x7 0 (x6 - 1) S h)
              · have h := zt_some c9 h
                refine z_iconst (pc := 152) (v := 1) dX2_result_152 zci_1 ?_
                refine z_goto (pc := 153) (tgt := 157) dX2_result_153 (by decide) ?_
                exact z_sub [1, 2, 3] rfl (w_X2_result_9_B157 l (f_X2_result_9_L43 n) ih x6 x7 1 (x6 - 1) S h)
        · have h := zt_some c5 h
          refine z_iload (pc := 78) (q := 2) dX2_result_78 rfl ?_
          refine z_aload_n (pc := 80) (q := 1) dX2_result_80 rfl rfl ?_
          refine z_getR (pc := 81) dX2_result_81 zf_X2_16 gX_9_4 ?_
          refine z_alen (pc := 84) (v := 32) dX2_result_84 aX_12 (by decide) (by decide) ?_
          refine z_icmp_ge (pc := 85) (tgt := 200) dX2_result_85 (by decide) (fun c6 => ?_) (fun c6 => ?_)
          · have h := ze_some c6 h
            obtain ⟨v7, ev7, h⟩ := zl_some h
            refine z_iinc (pc := 200) (q := 3) (v := v7) (lo' := [(7, .int v7), (8, .int v4), (0, .ref 9), (6, .int x6)]) dX2_result_200 rfl (by rw [ev7, zci_1]) (by decide) rfl ?_
            refine z_goto (pc := 203) (tgt := 43) dX2_result_203 (by decide) ?_
            exact z_sub [2, 3, 0] rfl (ih x6 v7 S h)
          · have h := zt_some c6 h
            refine z_aload_n (pc := 88) (q := 1) dX2_result_88 rfl rfl ?_
            refine z_getR (pc := 89) dX2_result_89 zf_X2_16 gX_9_4 ?_
            refine z_iload (pc := 92) (q := 2) dX2_result_92 rfl ?_
            refine z_iload (pc := 94) (q := 0) dX2_result_94 rfl ?_
            refine z_if_lt (pc := 96) (tgt := 104) dX2_result_96 (by decide) (fun c7 => ?_) (fun c7 => ?_)
            · have h := zt_some c7 h
              refine z_aload_n (pc := 104) (q := 1) dX2_result_104 rfl rfl ?_
              refine z_getR (pc := 105) dX2_result_105 zf_X2_13 gX_9_3 ?_
              refine z_iload (pc := 108) (q := 0) dX2_result_108 rfl ?_
              refine z_iconst (pc := 110) (v := (-1)) dX2_result_110 zci_m1 ?_
              refine z_ixor (pc := 111) dX2_result_111 ?_
              obtain ⟨c8, h⟩ := zg_some h
              refine z_iald (pc := 112) dX2_result_112 aX_11 c8 ?_
              exact z_sub [1, 2, 3] rfl (w_X2_result_9_B113 l (f_X2_result_9_L43 n) ih x6 x7 (S.1 11 (v4 ^^^ (-1)).toNatClampNeg) x6 S h)
            · have h := ze_some c7 h
              refine z_iload (pc := 99) (q := 0) dX2_result_99 rfl ?_
              refine z_goto (pc := 101) (tgt := 113) dX2_result_101 (by decide) ?_
              exact z_sub [1, 2, 3] rfl (w_X2_result_9_B113 l (f_X2_result_9_L43 n) ih x6 x7 v4 x6 S h)
set_option maxRecDepth 100000 in
theorem w_X2_result_9 (l : Launch) {x1 : Int32} {x2 : Int32} {x3 : Int32} {x4 : Int32} {x5 : Int32} {S : zS} {r : Int32} {S1 : zS} (h : f_X2_result_9 x1 x2 x3 x4 x5 S = some (r, S1)) : zMet zLX l yX2_result cX2_result 9 (some .int) 2 [.ref 9, .int x1, .int x2, .int x3, .int x4, .int x5] S (some (.int r)) S1 := by
  unfold f_X2_result_9 at h
  refine zMet.of (by decide +kernel) (Nat.le_of_ble_eq_true rfl) ?_
  show WA zLX l RX2 cX2_result 9 (some .int) 2 (some (.int r)) S1 0 [(0, .ref 9), (1, .int x1), (2, .int x2), (3, .int x3), (4, .int x4), (5, .int x5)] [] S
  refine z_aload_n (pc := 0) (q := 0) dX2_result_0 rfl rfl ?_
  refine z_getR (pc := 1) dX2_result_1 zf_X2_13 gX_9_3 ?_
  refine z_iconst (pc := 4) (v := 0) dX2_result_4 zci_0 ?_
  refine z_iload_n (pc := 5) (q := 1) dX2_result_5 rfl rfl ?_
  obtain ⟨T1, eT1, h⟩ := zl_some h
  refine z_iast (pc := 6) dX2_result_6 aX_11 (by decide) eT1 ?_
  refine z_aload_n (pc := 7) (q := 0) dX2_result_7 rfl rfl ?_
  refine z_getR (pc := 8) dX2_result_8 zf_X2_13 gX_9_3 ?_
  refine z_iconst (pc := 11) (v := 1) dX2_result_11 zci_1 ?_
  refine z_iload_n (pc := 12) (q := 2) dX2_result_12 rfl rfl ?_
  obtain ⟨T2, eT2, h⟩ := zl_some h
  refine z_iast (pc := 13) dX2_result_13 aX_11 (by decide) eT2 ?_
  refine z_aload_n (pc := 14) (q := 0) dX2_result_14 rfl rfl ?_
  refine z_getR (pc := 15) dX2_result_15 zf_X2_13 gX_9_3 ?_
  refine z_iconst (pc := 18) (v := 2) dX2_result_18 zci_2 ?_
  refine z_iload_n (pc := 19) (q := 3) dX2_result_19 rfl rfl ?_
  obtain ⟨T3, eT3, h⟩ := zl_some h
  refine z_iast (pc := 20) dX2_result_20 aX_11 (by decide) eT3 ?_
  refine z_aload_n (pc := 21) (q := 0) dX2_result_21 rfl rfl ?_
  refine z_getR (pc := 22) dX2_result_22 zf_X2_13 gX_9_3 ?_
  refine z_iconst (pc := 25) (v := 3) dX2_result_25 zci_3 ?_
  refine z_iload (pc := 26) (q := 4) dX2_result_26 rfl ?_
  obtain ⟨T4, eT4, h⟩ := zl_some h
  refine z_iast (pc := 28) dX2_result_28 aX_11 (by decide) eT4 ?_
  refine z_aload_n (pc := 29) (q := 0) dX2_result_29 rfl rfl ?_
  refine z_getR (pc := 30) dX2_result_30 zf_X2_13 gX_9_3 ?_
  refine z_iconst (pc := 33) (v := 4) dX2_result_33 zci_4 ?_
  refine z_iload (pc := 34) (q := 5) dX2_result_34 rfl ?_
  obtain ⟨T5, eT5, h⟩ := zl_some h
  refine z_iast (pc := 36) dX2_result_36 aX_11 (by decide) eT5 ?_
  refine z_iconst (pc := 37) (v := 0) dX2_result_37 zci_0 ?_
  refine z_istore (pc := 38) (lo' := [(6, .int 0), (0, .ref 9), (1, .int x1), (2, .int x2), (3, .int x3), (4, .int x4), (5, .int x5)]) dX2_result_38 (by decide) rfl ?_
  refine z_iconst (pc := 40) (v := 0) dX2_result_40 zci_0 ?_
  refine z_istore (pc := 41) (lo' := [(7, .int 0), (6, .int 0), (0, .ref 9), (1, .int x1), (2, .int x2), (3, .int x3), (4, .int x4), (5, .int x5)]) dX2_result_41 (by decide) rfl ?_
  exact z_sub [2, 1, 0] rfl (w_X2_result_9_L43 l zN 0 0 T5 h)
def f_X3_growAll_37_5_L13 : Nat → Int32 → Int32 → zS → Option zS
  | 0, _, _, _ => none
  | n + 1, x3, x4, S =>
    if x4 < (S.1 37 0) then
      if x4 < 12 then
        if zin x4 12 then
        if (0 : Int32) < (S.1 38 x4.toNatClampNeg) then
          zb (f_X1_othersNear_13 x4 x3 S) fun r7 T6 =>
          if zin x4 12 then
          if zin x4 12 then
          if zin x4 12 then
          zb (f_X2_result_9 (T6.1 38 x4.toNatClampNeg) (T6.1 39 x4.toNatClampNeg) (T6.1 14 x4.toNatClampNeg) r7 (T6.1 37 1) T6) fun r13 T12 =>
          if zin x4 12 then
          if zin x4 12 then
          zlet (zput T12 38 x4.toNatClampNeg (zmax 0 (zmin 99 ((T12.1 38 x4.toNatClampNeg) + r13)))) fun T16 =>
          if zin x4 12 then
          if zin x4 12 then
          zlet (zput T16 39 x4.toNatClampNeg ((T16.1 39 x4.toNatClampNeg) + 1)) fun T19 =>
          if zin x4 12 then
          if (T19.1 38 x4.toNatClampNeg) = 0 then
            zlet (x3 &&& ((1 <<< (x4 &&& 31)) ^^^ (-1))) fun v22 =>
            zlet (x4 + 1) fun v23 =>
            (f_X3_growAll_37_5_L13 n) v22 v23 T19
          else
            zlet (x4 + 1) fun v22 =>
            (f_X3_growAll_37_5_L13 n) x3 v22 T19 else none else none else none else none else none else none else none else none
        else
          zlet (x4 + 1) fun v5 =>
          (f_X3_growAll_37_5_L13 n) x3 v5 S else none
      else
        some S
    else
      some S
def f_X3_growAll_37_5  (S : zS) : Option zS :=
  zb (f_X3_livingBits_37 S) fun r3 T2 =>
  f_X3_growAll_37_5_L13 zN r3 0 T2
set_option maxRecDepth 100000 in
theorem w_X3_growAll_37_5_L13 (l : Launch) {S1 : zS} : ∀ (n : Nat) (x3 : Int32) (x4 : Int32) (S : zS), f_X3_growAll_37_5_L13 n x3 x4 S = some S1 → WA zLX l RX3 cX3_growAll 7 none 3 none S1 13 [(0, .ref 37), (1, .ref 5), (2, .ref 13), (3, .int x3), (4, .int x4)] [] S := by
  intro n
  induction n with
  | zero =>
    intro x3 x4 S h
    exact nomatch h
  | succ n ih =>
    intro x3 x4 S h
    rw [f_X3_growAll_37_5_L13] at h
    refine z_iload (pc := 13) (q := 4) dX3_growAll_13 rfl ?_
    refine z_aload_n (pc := 15) (q := 0) dX3_growAll_15 rfl rfl ?_
    refine z_getI (pc := 16) dX3_growAll_16 zf_X3_24 gX_37_0 ?_
    refine z_icmp_ge (pc := 19) (tgt := 146) dX3_growAll_19 (by decide) (fun c1 => ?_) (fun c1 => ?_)
    · have h := ze_some c1 h
      cases h
      exact z_vret dX3_growAll_146
    · have h := zt_some c1 h
      refine z_iload (pc := 22) (q := 4) dX3_growAll_22 rfl ?_
      refine z_bipush (pc := 24) (v := 12) dX3_growAll_24 zcb_12 ?_
      refine z_icmp_ge (pc := 26) (tgt := 146) dX3_growAll_26 (by decide) (fun c2 => ?_) (fun c2 => ?_)
      · have h := ze_some c2 h
        cases h
        exact z_vret dX3_growAll_146
      · have h := zt_some c2 h
        refine z_aload_n (pc := 29) (q := 0) dX3_growAll_29 rfl rfl ?_
        refine z_getR (pc := 30) dX3_growAll_30 zf_X3_9 gX_37_3 ?_
        refine z_iload (pc := 33) (q := 4) dX3_growAll_33 rfl ?_
        obtain ⟨c3, h⟩ := zg_some h
        refine z_iald (pc := 35) dX3_growAll_35 aX_38 c3 ?_
        refine z_if_le (pc := 36) (tgt := 140) dX3_growAll_36 (by decide) (fun c4 => ?_) (fun c4 => ?_)
        · have h := ze_some c4 h
          obtain ⟨v5, ev5, h⟩ := zl_some h
          refine z_iinc (pc := 140) (q := 4) (v := v5) (lo' := [(4, .int v5), (0, .ref 37), (1, .ref 5), (2, .ref 13), (3, .int x3)]) dX3_growAll_140 rfl (by rw [ev5, zci_1]) (by decide) rfl ?_
          refine z_goto (pc := 143) (tgt := 13) dX3_growAll_143 (by decide) ?_
          exact z_sub [1, 2, 3, 4, 0] rfl (ih x3 v5 S h)
        · have h := zt_some c4 h
          refine z_aload_n (pc := 39) (q := 2) dX3_growAll_39 rfl rfl ?_
          refine z_iload (pc := 40) (q := 4) dX3_growAll_40 rfl ?_
          refine z_iload_n (pc := 42) (q := 3) dX3_growAll_42 rfl rfl ?_
          obtain ⟨r7, T6, q5, h⟩ := zb_some h
          refine z_callVi (pc := 43) (st := []) [.int x4, .int x3] dX3_growAll_43 zm_X3_75 zM_X1_othersNear (by decide) oX_13 rfl (w_X1_othersNear_13 l q5) rfl rfl (Nat.le_of_ble_eq_true rfl) ?_
          refine z_istore (pc := 46) (lo' := [(5, .int r7), (0, .ref 37), (1, .ref 5), (2, .ref 13), (3, .int x3), (4, .int x4)]) dX3_growAll_46 (by decide) rfl ?_
          refine z_aload_n (pc := 48) (q := 2) dX3_growAll_48 rfl rfl ?_
          refine z_getR (pc := 49) dX3_growAll_49 zf_X3_78 gX_5_12 ?_
          refine z_aload_n (pc := 52) (q := 1) dX3_growAll_52 rfl rfl ?_
          refine z_getR (pc := 53) dX3_growAll_53 zf_X3_9 gX_37_3 ?_
          refine z_iload (pc := 56) (q := 5) dX3_growAll_56 rfl ?_
          obtain ⟨c8, h⟩ := zg_some h
          refine z_iald (pc := 58) dX3_growAll_58 aX_38 c8 ?_
          refine z_aload_n (pc := 59) (q := 1) dX3_growAll_59 rfl rfl ?_
          refine z_getR (pc := 60) dX3_growAll_60 zf_X3_15 gX_37_4 ?_
          refine z_iload (pc := 63) (q := 5) dX3_growAll_63 rfl ?_
          obtain ⟨c9, h⟩ := zg_some h
          refine z_iald (pc := 65) dX3_growAll_65 aX_39 c9 ?_
          refine z_aload_n (pc := 66) (q := 3) dX3_growAll_66 rfl rfl ?_
          refine z_getR (pc := 67) dX3_growAll_67 zf_X3_46 gX_13_0 ?_
          refine z_iload (pc := 70) (q := 5) dX3_growAll_70 rfl ?_
          obtain ⟨c10, h⟩ := zg_some h
          refine z_iald (pc := 72) dX3_growAll_72 aX_14 c10 ?_
          refine z_iload (pc := 73) (q := 0) dX3_growAll_73 rfl ?_
          refine z_aload_n (pc := 75) (q := 1) dX3_growAll_75 rfl rfl ?_
          refine z_getI (pc := 76) dX3_growAll_76 zf_X3_27 gX_37_1 ?_
          obtain ⟨r13, T12, q11, h⟩ := zb_some h
          refine z_callVi (pc := 79) (st := []) [.int (T6.1 38 x4.toNatClampNeg), .int (T6.1 39 x4.toNatClampNeg), .int (T6.1 14 x4.toNatClampNeg), .int r7, .int (T6.1 37 1)] dX3_growAll_79 zm_X3_82 zM_X2_result (by decide) oX_9 rfl (w_X2_result_9 l q11) rfl rfl (Nat.le_of_ble_eq_true rfl) ?_
          refine z_istore (pc := 82) (lo' := [(6, .int r13), (5, .int r7), (0, .ref 37), (1, .ref 5), (2, .ref 13), (3, .int x3), (4, .int x4)]) dX3_growAll_82 (by decide) rfl ?_
          refine z_aload_n (pc := 84) (q := 2) dX3_growAll_84 rfl rfl ?_
          refine z_getR (pc := 85) dX3_growAll_85 zf_X3_9 gX_37_3 ?_
          refine z_iload (pc := 88) (q := 6) dX3_growAll_88 rfl ?_
          refine z_iconst (pc := 90) (v := 0) dX3_growAll_90 zci_0 ?_
          refine z_bipush (pc := 91) (v := 99) dX3_growAll_91 zcb_99 ?_
          refine z_aload_n (pc := 93) (q := 2) dX3_growAll_93 rfl rfl ?_
          refine z_getR (pc := 94) dX3_growAll_94 zf_X3_9 gX_37_3 ?_
          refine z_iload (pc := 97) (q := 6) dX3_growAll_97 rfl ?_
          obtain ⟨c14, h⟩ := zg_some h
          refine z_iald (pc := 99) dX3_growAll_99 aX_38 c14 ?_
          refine z_iload (pc := 100) (q := 0) dX3_growAll_100 rfl ?_
          refine z_iadd (pc := 102) dX3_growAll_102 ?_
          refine z_min (pc := 103) dX3_growAll_103 zm_X3_88 zM_min.1 zM_min.2.1 zM_min.2.2 (by decide) (Nat.le_of_ble_eq_true rfl) ?_
          refine z_max (pc := 106) dX3_growAll_106 zm_X3_51 zM_max.1 zM_max.2.1 zM_max.2.2 (by decide) (Nat.le_of_ble_eq_true rfl) ?_
          obtain ⟨c15, h⟩ := zg_some h
          obtain ⟨T16, eT16, h⟩ := zl_some h
          refine z_iast (pc := 109) dX3_growAll_109 aX_38 c15 eT16 ?_
          refine z_aload_n (pc := 110) (q := 2) dX3_growAll_110 rfl rfl ?_
          refine z_getR (pc := 111) dX3_growAll_111 zf_X3_15 gX_37_4 ?_
          refine z_iload (pc := 114) (q := 6) dX3_growAll_114 rfl ?_
          refine z_dup2 (pc := 116) dX3_growAll_116 rfl rfl ?_
          obtain ⟨c17, h⟩ := zg_some h
          refine z_iald (pc := 117) dX3_growAll_117 aX_39 c17 ?_
          refine z_iconst (pc := 118) (v := 1) dX3_growAll_118 zci_1 ?_
          refine z_iadd (pc := 119) dX3_growAll_119 ?_
          obtain ⟨c18, h⟩ := zg_some h
          obtain ⟨T19, eT19, h⟩ := zl_some h
          refine z_iast (pc := 120) dX3_growAll_120 aX_39 c18 eT19 ?_
          refine z_aload_n (pc := 121) (q := 2) dX3_growAll_121 rfl rfl ?_
          refine z_getR (pc := 122) dX3_growAll_122 zf_X3_9 gX_37_3 ?_
          refine z_iload (pc := 125) (q := 6) dX3_growAll_125 rfl ?_
          obtain ⟨c20, h⟩ := zg_some h
          refine z_iald (pc := 127) dX3_growAll_127 aX_38 c20 ?_
          refine z_if_ne (pc := 128) (tgt := 140) dX3_growAll_128 (by decide) (fun c21 => ?_) (fun c21 => ?_)
          · have h := ze_some c21 h
            obtain ⟨v22, ev22, h⟩ := zl_some h
            refine z_iinc (pc := 140) (q := 6) (v := v22) (lo' := [(4, .int v22), (6, .int r13), (5, .int r7), (0, .ref 37), (1, .ref 5), (2, .ref 13), (3, .int x3)]) dX3_growAll_140 rfl (by rw [ev22, zci_1]) (by decide) rfl ?_
            refine z_goto (pc := 143) (tgt := 13) dX3_growAll_143 (by decide) ?_
            exact z_sub [3, 4, 5, 6, 0] rfl (ih x3 v22 T19 h)
          · have h := zt_some c21 h
            refine z_iload_n (pc := 131) (q := 5) dX3_growAll_131 rfl rfl ?_
            refine z_iconst (pc := 132) (v := 1) dX3_growAll_132 zci_1 ?_
            refine z_iload (pc := 133) (q := 6) dX3_growAll_133 rfl ?_
            refine z_ishl (pc := 135) dX3_growAll_135 ?_
            refine z_iconst (pc := 136) (v := (-1)) dX3_growAll_136 zci_m1 ?_
            refine z_ixor (pc := 137) dX3_growAll_137 ?_
            refine z_iand (pc := 138) dX3_growAll_138 ?_
            obtain ⟨v22, ev22, h⟩ := zl_some h
            refine z_top ev22 ?_
            refine z_istore_n (pc := 139) (lo' := [(3, .int v22), (6, .int r13), (5, .int r7), (0, .ref 37), (1, .ref 5), (2, .ref 13), (4, .int x4)]) dX3_growAll_139 rfl (by decide) rfl ?_
            obtain ⟨v23, ev23, h⟩ := zl_some h
            refine z_iinc (pc := 140) (q := 6) (v := v23) (lo' := [(4, .int v23), (3, .int v22), (6, .int r13), (5, .int r7), (0, .ref 37), (1, .ref 5), (2, .ref 13)]) dX3_growAll_140 rfl (by rw [ev23, zci_1]) (by decide) rfl ?_
            refine z_goto (pc := 143) (tgt := 13) dX3_growAll_143 (by decide) ?_
            exact z_sub [4, 5, 6, 1, 0] rfl (ih v22 v23 T19 h)
set_option maxRecDepth 100000 in
theorem w_X3_growAll_37_5 (l : Launch)  {S : zS} {S1 : zS} (h : f_X3_growAll_37_5 S = some S1) : zMet zLX l yX3_growAll cX3_growAll 7 none 3 [.ref 37, .ref 5] S none S1 := by
  unfold f_X3_growAll_37_5 at h
  refine zMet.of (by decide +kernel) (Nat.le_of_ble_eq_true rfl) ?_
  show WA zLX l RX3 cX3_growAll 7 none 3 none S1 0 [(0, .ref 37), (1, .ref 5)] [] S
  refine z_aload_n (pc := 0) (q := 1) dX3_growAll_0 rfl rfl ?_
  refine z_getR (pc := 1) dX3_growAll_1 zf_X3_67 gX_5_13 ?_
  refine z_astore_n (pc := 4) (lo' := [(2, .ref 13), (0, .ref 37), (1, .ref 5)]) dX3_growAll_4 rfl (by decide) rfl ?_
  refine z_aload_n (pc := 5) (q := 1) dX3_growAll_5 rfl rfl ?_
  obtain ⟨r3, T2, q1, h⟩ := zb_some h
  refine z_callVi (pc := 6) (st := []) [] dX3_growAll_6 zm_X3_71 zM_X3_livingBits (by decide) oX_37 rfl (w_X3_livingBits_37 l q1) rfl rfl (Nat.le_of_ble_eq_true rfl) ?_
  refine z_istore_n (pc := 9) (lo' := [(3, .int r3), (2, .ref 13), (0, .ref 37), (1, .ref 5)]) dX3_growAll_9 rfl (by decide) rfl ?_
  refine z_iconst (pc := 10) (v := 0) dX3_growAll_10 zci_0 ?_
  refine z_istore (pc := 11) (lo' := [(4, .int 0), (3, .int r3), (2, .ref 13), (0, .ref 37), (1, .ref 5)]) dX3_growAll_11 (by decide) rfl ?_
  exact z_sub [3, 4, 2, 1, 0] rfl (w_X3_growAll_37_5_L13 l zN r3 0 T2 h)
def f_X3_freeze_37_5_L2 : Nat → Int32 → zS → Option zS
  | 0, _, _ => none
  | n + 1, x2, S =>
    if x2 < (S.1 37 0) then
      if x2 < 12 then
        if zin x2 12 then
        if (((S.1 5 6) >>> ((S.1 15 x2.toNatClampNeg) &&& 31)) &&& 1) = 0 then
          if zin x2 12 then
          if zin x2 12 then
          zlet (zput S 38 x2.toNatClampNeg (zmax 0 ((S.1 38 x2.toNatClampNeg) - (S.1 5 10)))) fun T7 =>
          zlet (x2 + 1) fun v8 =>
          (f_X3_freeze_37_5_L2 n) v8 T7 else none else none
        else
          zlet (x2 + 1) fun v5 =>
          (f_X3_freeze_37_5_L2 n) v5 S else none
      else
        some S
    else
      some S
def f_X3_freeze_37_5  (S : zS) : Option zS :=
  f_X3_freeze_37_5_L2 zN 0 S
set_option maxRecDepth 100000 in
theorem w_X3_freeze_37_5_L2 (l : Launch) {S1 : zS} : ∀ (n : Nat) (x2 : Int32) (S : zS), f_X3_freeze_37_5_L2 n x2 S = some S1 → WA zLX l RX3 cX3_freeze 3 none 1 none S1 2 [(0, .ref 37), (1, .ref 5), (2, .int x2)] [] S := by
  intro n
  induction n with
  | zero =>
    intro x2 S h
    exact nomatch h
  | succ n ih =>
    intro x2 S h
    rw [f_X3_freeze_37_5_L2] at h
    refine z_iload_n (pc := 2) (q := 2) dX3_freeze_2 rfl rfl ?_
    refine z_aload_n (pc := 3) (q := 0) dX3_freeze_3 rfl rfl ?_
    refine z_getI (pc := 4) dX3_freeze_4 zf_X3_24 gX_37_0 ?_
    refine z_icmp_ge (pc := 7) (tgt := 62) dX3_freeze_7 (by decide) (fun c1 => ?_) (fun c1 => ?_)
    · have h := ze_some c1 h
      cases h
      exact z_vret dX3_freeze_62
    · have h := zt_some c1 h
      refine z_iload_n (pc := 10) (q := 2) dX3_freeze_10 rfl rfl ?_
      refine z_bipush (pc := 11) (v := 12) dX3_freeze_11 zcb_12 ?_
      refine z_icmp_ge (pc := 13) (tgt := 62) dX3_freeze_13 (by decide) (fun c2 => ?_) (fun c2 => ?_)
      · have h := ze_some c2 h
        cases h
        exact z_vret dX3_freeze_62
      · have h := zt_some c2 h
        refine z_aload_n (pc := 16) (q := 1) dX3_freeze_16 rfl rfl ?_
        refine z_getI (pc := 17) dX3_freeze_17 zf_X3_91 gX_5_6 ?_
        refine z_aload_n (pc := 20) (q := 1) dX3_freeze_20 rfl rfl ?_
        refine z_getR (pc := 21) dX3_freeze_21 zf_X3_67 gX_5_13 ?_
        refine z_getR (pc := 24) dX3_freeze_24 zf_X3_94 gX_13_1 ?_
        refine z_iload_n (pc := 27) (q := 2) dX3_freeze_27 rfl rfl ?_
        obtain ⟨c3, h⟩ := zg_some h
        refine z_iald (pc := 28) dX3_freeze_28 aX_15 c3 ?_
        refine z_ishr (pc := 29) dX3_freeze_29 ?_
        refine z_iconst (pc := 30) (v := 1) dX3_freeze_30 zci_1 ?_
        refine z_iand (pc := 31) dX3_freeze_31 ?_
        refine z_if_ne (pc := 32) (tgt := 56) dX3_freeze_32 (by decide) (fun c4 => ?_) (fun c4 => ?_)
        · have h := ze_some c4 h
          obtain ⟨v5, ev5, h⟩ := zl_some h
          refine z_iinc (pc := 56) (q := 2) (v := v5) (lo' := [(2, .int v5), (0, .ref 37), (1, .ref 5)]) dX3_freeze_56 rfl (by rw [ev5, zci_1]) (by decide) rfl ?_
          refine z_goto (pc := 59) (tgt := 2) dX3_freeze_59 (by decide) ?_
          exact z_sub [1, 2, 0] rfl (ih v5 S h)
        · have h := zt_some c4 h
          refine z_aload_n (pc := 35) (q := 0) dX3_freeze_35 rfl rfl ?_
          refine z_getR (pc := 36) dX3_freeze_36 zf_X3_9 gX_37_3 ?_
          refine z_iload_n (pc := 39) (q := 2) dX3_freeze_39 rfl rfl ?_
          refine z_iconst (pc := 40) (v := 0) dX3_freeze_40 zci_0 ?_
          refine z_aload_n (pc := 41) (q := 0) dX3_freeze_41 rfl rfl ?_
          refine z_getR (pc := 42) dX3_freeze_42 zf_X3_9 gX_37_3 ?_
          refine z_iload_n (pc := 45) (q := 2) dX3_freeze_45 rfl rfl ?_
          obtain ⟨c5, h⟩ := zg_some h
          refine z_iald (pc := 46) dX3_freeze_46 aX_38 c5 ?_
          refine z_aload_n (pc := 47) (q := 1) dX3_freeze_47 rfl rfl ?_
          refine z_getI (pc := 48) dX3_freeze_48 zf_X3_97 gX_5_10 ?_
          refine z_isub (pc := 51) dX3_freeze_51 ?_
          refine z_max (pc := 52) dX3_freeze_52 zm_X3_51 zM_max.1 zM_max.2.1 zM_max.2.2 (by decide) (Nat.le_of_ble_eq_true rfl) ?_
          obtain ⟨c6, h⟩ := zg_some h
          obtain ⟨T7, eT7, h⟩ := zl_some h
          refine z_iast (pc := 55) dX3_freeze_55 aX_38 c6 eT7 ?_
          obtain ⟨v8, ev8, h⟩ := zl_some h
          refine z_iinc (pc := 56) (q := 2) (v := v8) (lo' := [(2, .int v8), (0, .ref 37), (1, .ref 5)]) dX3_freeze_56 rfl (by rw [ev8, zci_1]) (by decide) rfl ?_
          refine z_goto (pc := 59) (tgt := 2) dX3_freeze_59 (by decide) ?_
          exact z_sub [1, 2, 0] rfl (ih v8 T7 h)
set_option maxRecDepth 100000 in
theorem w_X3_freeze_37_5 (l : Launch)  {S : zS} {S1 : zS} (h : f_X3_freeze_37_5 S = some S1) : zMet zLX l yX3_freeze cX3_freeze 3 none 1 [.ref 37, .ref 5] S none S1 := by
  unfold f_X3_freeze_37_5 at h
  refine zMet.of (by decide +kernel) (Nat.le_of_ble_eq_true rfl) ?_
  show WA zLX l RX3 cX3_freeze 3 none 1 none S1 0 [(0, .ref 37), (1, .ref 5)] [] S
  refine z_iconst (pc := 0) (v := 0) dX3_freeze_0 zci_0 ?_
  refine z_istore_n (pc := 1) (lo' := [(2, .int 0), (0, .ref 37), (1, .ref 5)]) dX3_freeze_1 rfl (by decide) rfl ?_
  exact z_sub [1, 2, 0] rfl (w_X3_freeze_37_5_L2 l zN 0 S h)
def f_X3_passYear_37_5_B43  (S : zS) : Option zS :=
  zlet (zput S 37 1 ((S.1 37 1) + 1)) fun T1 =>
  some T1
def f_X3_passYear_37_5  (S : zS) : Option zS :=
  zu (f_X3_growAll_37_5 S) fun T2 =>
  zlet (zput T2 37 2 (zrem (((T2.1 37 2) * 137) + 71) 1000)) fun T3 =>
  if (zrem (T3.1 37 2) 100) < (T3.1 5 9) then
    zu (f_X3_freeze_37_5 T3) fun T6 =>
    f_X3_passYear_37_5_B43 T6
  else
    f_X3_passYear_37_5_B43 T3
set_option maxRecDepth 100000 in
theorem w_X3_passYear_37_5_B43 (l : Launch) {S1 : zS}  (S : zS) (h : f_X3_passYear_37_5_B43 S = some S1) : WA zLX l RX3 cX3_passYear 2 none 4 none S1 43 [(0, .ref 37)] [] S := by
  unfold f_X3_passYear_37_5_B43 at h
  refine z_aload_n (pc := 43) (q := 0) dX3_passYear_43 rfl rfl ?_
  refine z_dup (pc := 44) dX3_passYear_44 rfl ?_
  refine z_getI (pc := 45) dX3_passYear_45 zf_X3_27 gX_37_1 ?_
  refine z_iconst (pc := 48) (v := 1) dX3_passYear_48 zci_1 ?_
  refine z_iadd (pc := 49) dX3_passYear_49 ?_
  obtain ⟨T1, eT1, h⟩ := zl_some h
  refine z_putI (pc := 50) dX3_passYear_50 zp_X3_27 gX_37_1 rfl rfl eT1 ?_
  cases h
  exact z_vret dX3_passYear_53
set_option maxRecDepth 100000 in
theorem w_X3_passYear_37_5 (l : Launch)  {S : zS} {S1 : zS} (h : f_X3_passYear_37_5 S = some S1) : zMet zLX l yX3_passYear cX3_passYear 2 none 4 [.ref 37, .ref 5] S none S1 := by
  unfold f_X3_passYear_37_5 at h
  refine zMet.of (by decide +kernel) (Nat.le_of_ble_eq_true rfl) ?_
  show WA zLX l RX3 cX3_passYear 2 none 4 none S1 0 [(0, .ref 37), (1, .ref 5)] [] S
  refine z_aload_n (pc := 0) (q := 0) dX3_passYear_0 rfl rfl ?_
  refine z_aload_n (pc := 1) (q := 1) dX3_passYear_1 rfl rfl ?_
  obtain ⟨T2, q1, h⟩ := zu_some h
  refine z_callVv (pc := 2) (st := []) [.ref 5] dX3_passYear_2 zm_X3_57 zM_X3_growAll (by decide) oX_37 rfl (w_X3_growAll_37_5 l q1) rfl rfl (Nat.le_of_ble_eq_true rfl) ?_
  refine z_aload_n (pc := 5) (q := 0) dX3_passYear_5 rfl rfl ?_
  refine z_aload_n (pc := 6) (q := 0) dX3_passYear_6 rfl rfl ?_
  refine z_getI (pc := 7) dX3_passYear_7 zf_X3_33 gX_37_2 ?_
  refine z_sipush (pc := 10) (v := 137) dX3_passYear_10 zcs_137 ?_
  refine z_imul (pc := 13) dX3_passYear_13 ?_
  refine z_bipush (pc := 14) (v := 71) dX3_passYear_14 zcb_71 ?_
  refine z_iadd (pc := 16) dX3_passYear_16 ?_
  refine z_sipush (pc := 17) (v := 1000) dX3_passYear_17 zcs_1000 ?_
  refine z_irem (pc := 20) dX3_passYear_20 (by decide) ?_
  refine zrem_fold ?_
  obtain ⟨T3, eT3, h⟩ := zl_some h
  refine z_putI (pc := 21) dX3_passYear_21 zp_X3_33 gX_37_2 rfl rfl eT3 ?_
  refine z_aload_n (pc := 24) (q := 0) dX3_passYear_24 rfl rfl ?_
  refine z_getI (pc := 25) dX3_passYear_25 zf_X3_33 gX_37_2 ?_
  refine z_bipush (pc := 28) (v := 100) dX3_passYear_28 zcb_100 ?_
  refine z_irem (pc := 30) dX3_passYear_30 (by decide) ?_
  refine zrem_fold ?_
  refine z_aload_n (pc := 31) (q := 1) dX3_passYear_31 rfl rfl ?_
  refine z_getI (pc := 32) dX3_passYear_32 zf_X3_61 gX_5_9 ?_
  refine z_icmp_ge (pc := 35) (tgt := 43) dX3_passYear_35 (by decide) (fun c4 => ?_) (fun c4 => ?_)
  · have h := ze_some c4 h
    exact z_sub [0] rfl (w_X3_passYear_37_5_B43 l T3 h)
  · have h := zt_some c4 h
    refine z_aload_n (pc := 38) (q := 0) dX3_passYear_38 rfl rfl ?_
    refine z_aload_n (pc := 39) (q := 1) dX3_passYear_39 rfl rfl ?_
    obtain ⟨T6, q5, h⟩ := zu_some h
    refine z_callVv (pc := 40) (st := []) [.ref 5] dX3_passYear_40 zm_X3_64 zM_X3_freeze (by decide) oX_37 rfl (w_X3_freeze_37_5 l q5) rfl rfl (Nat.le_of_ble_eq_true rfl) ?_
    exact z_sub [0] rfl (w_X3_passYear_37_5_B43 l T6 h)
def f_X11_year  (S : zS) : Option (Int32 × zS) :=
  if (S.1 37 1) < 999 then
    zb (f_X3_livingBits_37 S) fun r4 T3 =>
    zu (f_X3_passYear_37_5 T3) fun T6 =>
    zu (f_X0_keep_43_37 T6) fun T8 =>
    zb (f_X3_livingBits_37 T8) fun r11 T10 =>
    zb (f_J6_bitCount_0f7a4 (r4 &&& (r11 ^^^ (-1))) T10) fun r14 T13 =>
    some (r14, T13)
  else
    some ((-1), S)
set_option maxRecDepth 100000 in
theorem w_X11_year (l : Launch)  {S : zS} {r : Int32} {S1 : zS} (h : f_X11_year S = some (r, S1)) : zMet zLX l yX11_year cX11_year 2 (some .int) 5 [.ref 0] S (some (.int r)) S1 := by
  unfold f_X11_year at h
  refine zMet.of (by decide +kernel) (Nat.le_of_ble_eq_true rfl) ?_
  show WA zLX l RX11 cX11_year 2 (some .int) 5 (some (.int r)) S1 0 [(0, .ref 0)] [] S
  refine z_aload_n (pc := 0) (q := 0) dX11_year_0 rfl rfl ?_
  refine z_getR (pc := 1) dX11_year_1 zf_X11_35 gX_0_5 ?_
  refine z_getI (pc := 4) dX11_year_4 zf_X11_223 gX_37_1 ?_
  refine z_sipush (pc := 7) (v := 999) dX11_year_7 zcs_999 ?_
  refine z_icmp_lt (pc := 10) (tgt := 15) dX11_year_10 (by decide) (fun c1 => ?_) (fun c1 => ?_)
  · have h := zt_some c1 h
    refine z_aload_n (pc := 15) (q := 0) dX11_year_15 rfl rfl ?_
    refine z_getR (pc := 16) dX11_year_16 zf_X11_35 gX_0_5 ?_
    obtain ⟨r4, T3, q2, h⟩ := zb_some h
    refine z_callVi (pc := 19) (st := []) [] dX11_year_19 zm_X11_165 zM_X3_livingBits (by decide) oX_37 rfl (w_X3_livingBits_37 l q2) rfl rfl (Nat.le_of_ble_eq_true rfl) ?_
    refine z_istore_n (pc := 22) (lo' := [(1, .int r4), (0, .ref 0)]) dX11_year_22 rfl (by decide) rfl ?_
    refine z_aload_n (pc := 23) (q := 1) dX11_year_23 rfl rfl ?_
    refine z_getR (pc := 24) dX11_year_24 zf_X11_35 gX_0_5 ?_
    refine z_aload_n (pc := 27) (q := 1) dX11_year_27 rfl rfl ?_
    refine z_getR (pc := 28) dX11_year_28 zf_X11_25 gX_0_3 ?_
    obtain ⟨T6, q5, h⟩ := zu_some h
    refine z_callVv (pc := 31) (st := []) [.ref 5] dX11_year_31 zm_X11_226 zM_X3_passYear (by decide) oX_37 rfl (w_X3_passYear_37_5 l q5) rfl rfl (Nat.le_of_ble_eq_true rfl) ?_
    refine z_aload_n (pc := 34) (q := 1) dX11_year_34 rfl rfl ?_
    refine z_getR (pc := 35) dX11_year_35 zf_X11_45 gX_0_7 ?_
    refine z_aload_n (pc := 38) (q := 1) dX11_year_38 rfl rfl ?_
    refine z_getR (pc := 39) dX11_year_39 zf_X11_35 gX_0_5 ?_
    obtain ⟨T8, q7, h⟩ := zu_some h
    refine z_callVv (pc := 42) (st := []) [.ref 37] dX11_year_42 zm_X11_211 zM_X0_keep (by decide) oX_43 rfl (w_X0_keep_43_37 l q7) rfl rfl (Nat.le_of_ble_eq_true rfl) ?_
    refine z_iload_n (pc := 45) (q := 0) dX11_year_45 rfl rfl ?_
    refine z_aload_n (pc := 46) (q := 1) dX11_year_46 rfl rfl ?_
    refine z_getR (pc := 47) dX11_year_47 zf_X11_35 gX_0_5 ?_
    obtain ⟨r11, T10, q9, h⟩ := zb_some h
    refine z_callVi (pc := 50) (st := [.int r4]) [] dX11_year_50 zm_X11_165 zM_X3_livingBits (by decide) oX_37 rfl (w_X3_livingBits_37 l q9) rfl rfl (Nat.le_of_ble_eq_true rfl) ?_
    refine z_iconst (pc := 53) (v := (-1)) dX11_year_53 zci_m1 ?_
    refine z_ixor (pc := 54) dX11_year_54 ?_
    refine z_iand (pc := 55) dX11_year_55 ?_
    obtain ⟨r14, T13, q12, h⟩ := zb_some h
    refine z_callSi (pc := 56) (st := []) [.int (r4 &&& (r11 ^^^ (-1)))] dX11_year_56 zm_X11_218 zM_J6_bitCount_0f7a4 (by decide) (w_J6_bitCount_0f7a4 l q12) rfl rfl (Nat.le_of_ble_eq_true rfl) ?_
    obtain ⟨rfl, rfl⟩ := zr_some h
    exact z_iret dX11_year_59
  · have h := ze_some c1 h
    refine z_iconst (pc := 13) (v := (-1)) dX11_year_13 zci_m1 ?_
    obtain ⟨rfl, rfl⟩ := zr_some h
    exact z_iret dX11_year_14
def f_X3_load_37_44 (x2 : Int32) (S : zS) : Option zS :=
  if x2 < 0 then
    some S
  else
    if (1107 : Int32) < (x2 + 27) then
      some S
    else
      if zin x2 1107 then
      zlet (zput S 37 0 (S.1 44 x2.toNatClampNeg)) fun T4 =>
      if zin (x2 + 1) 1107 then
      zlet (zput T4 37 1 (T4.1 44 (x2 + 1).toNatClampNeg)) fun T6 =>
      if zin (x2 + 2) 1107 then
      zlet (zput T6 37 2 (T6.1 44 (x2 + 2).toNatClampNeg)) fun T8 =>
      if zcinB (x2 + 3) 0 12 1107 12 then
      zlet (zcpy T8 44 38 (x2 + 3).toNatClampNeg (Int32.toNatClampNeg 0) (Int32.toNatClampNeg 12)) fun T10 =>
      if zcinB ((x2 + 3) + 12) 0 12 1107 12 then
      zlet (zcpy T10 44 39 ((x2 + 3) + 12).toNatClampNeg (Int32.toNatClampNeg 0) (Int32.toNatClampNeg 12)) fun T12 =>
      some T12 else none else none else none else none else none
set_option maxRecDepth 100000 in
theorem w_X3_load_37_44 (l : Launch) {x2 : Int32} {S : zS} {S1 : zS} (h : f_X3_load_37_44 x2 S = some S1) : zMet zLX l yX3_load cX3_load 3 none 1 [.ref 37, .ref 44, .int x2] S none S1 := by
  unfold f_X3_load_37_44 at h
  refine zMet.of (by decide +kernel) (Nat.le_of_ble_eq_true rfl) ?_
  show WA zLX l RX3 cX3_load 3 none 1 none S1 0 [(0, .ref 37), (1, .ref 44), (2, .int x2)] [] S
  refine z_iload_n (pc := 0) (q := 2) dX3_load_0 rfl rfl ?_
  refine z_if_lt (pc := 1) (tgt := 69) dX3_load_1 (by decide) (fun c1 => ?_) (fun c1 => ?_)
  · have h := zt_some c1 h
    cases h
    exact z_vret dX3_load_69
  · have h := ze_some c1 h
    refine z_iload_n (pc := 4) (q := 2) dX3_load_4 rfl rfl ?_
    refine z_bipush (pc := 5) (v := 27) dX3_load_5 zcb_27 ?_
    refine z_iadd (pc := 7) dX3_load_7 ?_
    refine z_aload_n (pc := 8) (q := 1) dX3_load_8 rfl rfl ?_
    refine z_alen (pc := 9) (v := 1107) dX3_load_9 aX_44 (by decide) (by decide) ?_
    refine z_icmp_gt (pc := 10) (tgt := 69) dX3_load_10 (by decide) (fun c2 => ?_) (fun c2 => ?_)
    · have h := zt_some c2 h
      cases h
      exact z_vret dX3_load_69
    · have h := ze_some c2 h
      refine z_aload_n (pc := 13) (q := 0) dX3_load_13 rfl rfl ?_
      refine z_aload_n (pc := 14) (q := 1) dX3_load_14 rfl rfl ?_
      refine z_iload_n (pc := 15) (q := 2) dX3_load_15 rfl rfl ?_
      obtain ⟨c3, h⟩ := zg_some h
      refine z_iald (pc := 16) dX3_load_16 aX_44 c3 ?_
      obtain ⟨T4, eT4, h⟩ := zl_some h
      refine z_putI (pc := 17) dX3_load_17 zp_X3_24 gX_37_0 rfl rfl eT4 ?_
      refine z_aload_n (pc := 20) (q := 0) dX3_load_20 rfl rfl ?_
      refine z_aload_n (pc := 21) (q := 1) dX3_load_21 rfl rfl ?_
      refine z_iload_n (pc := 22) (q := 2) dX3_load_22 rfl rfl ?_
      refine z_iconst (pc := 23) (v := 1) dX3_load_23 zci_1 ?_
      refine z_iadd (pc := 24) dX3_load_24 ?_
      obtain ⟨c5, h⟩ := zg_some h
      refine z_iald (pc := 25) dX3_load_25 aX_44 c5 ?_
      obtain ⟨T6, eT6, h⟩ := zl_some h
      refine z_putI (pc := 26) dX3_load_26 zp_X3_27 gX_37_1 rfl rfl eT6 ?_
      refine z_aload_n (pc := 29) (q := 0) dX3_load_29 rfl rfl ?_
      refine z_aload_n (pc := 30) (q := 1) dX3_load_30 rfl rfl ?_
      refine z_iload_n (pc := 31) (q := 2) dX3_load_31 rfl rfl ?_
      refine z_iconst (pc := 32) (v := 2) dX3_load_32 zci_2 ?_
      refine z_iadd (pc := 33) dX3_load_33 ?_
      obtain ⟨c7, h⟩ := zg_some h
      refine z_iald (pc := 34) dX3_load_34 aX_44 c7 ?_
      obtain ⟨T8, eT8, h⟩ := zl_some h
      refine z_putI (pc := 35) dX3_load_35 zp_X3_33 gX_37_2 rfl rfl eT8 ?_
      refine z_aload_n (pc := 38) (q := 1) dX3_load_38 rfl rfl ?_
      refine z_iload_n (pc := 39) (q := 2) dX3_load_39 rfl rfl ?_
      refine z_iconst (pc := 40) (v := 3) dX3_load_40 zci_3 ?_
      refine z_iadd (pc := 41) dX3_load_41 ?_
      refine z_aload_n (pc := 42) (q := 0) dX3_load_42 rfl rfl ?_
      refine z_getR (pc := 43) dX3_load_43 zf_X3_9 gX_37_3 ?_
      refine z_iconst (pc := 46) (v := 0) dX3_load_46 zci_0 ?_
      refine z_bipush (pc := 47) (v := 12) dX3_load_47 zcb_12 ?_
      obtain ⟨c9, h⟩ := zg_some h
      obtain ⟨T10, eT10, h⟩ := zl_some h
      refine z_copy (pc := 49) dX3_load_49 zm_X3_40 zM_copy.1 zM_copy.2.1 zM_copy.2.2 aX_44 aX_38 c9 (by decide) (Nat.le_of_ble_eq_true rfl) eT10 ?_
      refine z_aload_n (pc := 52) (q := 1) dX3_load_52 rfl rfl ?_
      refine z_iload_n (pc := 53) (q := 2) dX3_load_53 rfl rfl ?_
      refine z_iconst (pc := 54) (v := 3) dX3_load_54 zci_3 ?_
      refine z_iadd (pc := 55) dX3_load_55 ?_
      refine z_bipush (pc := 56) (v := 12) dX3_load_56 zcb_12 ?_
      refine z_iadd (pc := 58) dX3_load_58 ?_
      refine z_aload_n (pc := 59) (q := 0) dX3_load_59 rfl rfl ?_
      refine z_getR (pc := 60) dX3_load_60 zf_X3_15 gX_37_4 ?_
      refine z_iconst (pc := 63) (v := 0) dX3_load_63 zci_0 ?_
      refine z_bipush (pc := 64) (v := 12) dX3_load_64 zcb_12 ?_
      obtain ⟨c11, h⟩ := zg_some h
      obtain ⟨T12, eT12, h⟩ := zl_some h
      refine z_copy (pc := 66) dX3_load_66 zm_X3_40 zM_copy.1 zM_copy.2.1 zM_copy.2.2 aX_44 aX_39 c11 (by decide) (Nat.le_of_ble_eq_true rfl) eT12 ?_
      cases h
      exact z_vret dX3_load_69
def f_X0_stepBack_43_37  (S : zS) : Option (Int32 × zS) :=
  if (S.1 43 0) = 0 then
    some (0, S)
  else
    zlet (zput S 43 0 ((S.1 43 0) - 1)) fun T2 =>
    zlet (zput T2 43 1 ((T2.1 43 1) + 1)) fun T3 =>
    zb (f_X0_presentRow_43 T3) fun r6 T5 =>
    zu (f_X3_load_37_44 r6 T5) fun T8 =>
    some (1, T8)
set_option maxRecDepth 100000 in
theorem w_X0_stepBack_43_37 (l : Launch)  {S : zS} {r : Int32} {S1 : zS} (h : f_X0_stepBack_43_37 S = some (r, S1)) : zMet zLX l yX0_stepBack cX0_stepBack 2 (some .boolean) 2 [.ref 43, .ref 37] S (some (.int r)) S1 := by
  unfold f_X0_stepBack_43_37 at h
  refine zMet.of (by decide +kernel) (Nat.le_of_ble_eq_true rfl) ?_
  show WA zLX l RX0 cX0_stepBack 2 (some .boolean) 2 (some (.int r)) S1 0 [(0, .ref 43), (1, .ref 37)] [] S
  refine z_aload_n (pc := 0) (q := 0) dX0_stepBack_0 rfl rfl ?_
  refine z_getI (pc := 1) dX0_stepBack_1 zf_X0_21 gX_43_0 ?_
  refine z_if_ne (pc := 4) (tgt := 9) dX0_stepBack_4 (by decide) (fun c1 => ?_) (fun c1 => ?_)
  · have h := ze_some c1 h
    refine z_aload_n (pc := 9) (q := 0) dX0_stepBack_9 rfl rfl ?_
    refine z_dup (pc := 10) dX0_stepBack_10 rfl ?_
    refine z_getI (pc := 11) dX0_stepBack_11 zf_X0_21 gX_43_0 ?_
    refine z_iconst (pc := 14) (v := 1) dX0_stepBack_14 zci_1 ?_
    refine z_isub (pc := 15) dX0_stepBack_15 ?_
    obtain ⟨T2, eT2, h⟩ := zl_some h
    refine z_putI (pc := 16) dX0_stepBack_16 zp_X0_21 gX_43_0 rfl rfl eT2 ?_
    refine z_aload_n (pc := 19) (q := 0) dX0_stepBack_19 rfl rfl ?_
    refine z_dup (pc := 20) dX0_stepBack_20 rfl ?_
    refine z_getI (pc := 21) dX0_stepBack_21 zf_X0_24 gX_43_1 ?_
    refine z_iconst (pc := 24) (v := 1) dX0_stepBack_24 zci_1 ?_
    refine z_iadd (pc := 25) dX0_stepBack_25 ?_
    obtain ⟨T3, eT3, h⟩ := zl_some h
    refine z_putI (pc := 26) dX0_stepBack_26 zp_X0_24 gX_43_1 rfl rfl eT3 ?_
    refine z_aload_n (pc := 29) (q := 1) dX0_stepBack_29 rfl rfl ?_
    refine z_aload_n (pc := 30) (q := 0) dX0_stepBack_30 rfl rfl ?_
    refine z_getR (pc := 31) dX0_stepBack_31 zf_X0_13 gX_43_3 ?_
    refine z_aload_n (pc := 34) (q := 0) dX0_stepBack_34 rfl rfl ?_
    obtain ⟨r6, T5, q4, h⟩ := zb_some h
    refine z_callVi (pc := 35) (st := [.ref 44, .ref 37]) [] dX0_stepBack_35 zm_X0_27 zM_X0_presentRow (by decide) oX_43 rfl (w_X0_presentRow_43 l q4) rfl rfl (Nat.le_of_ble_eq_true rfl) ?_
    obtain ⟨T8, q7, h⟩ := zu_some h
    refine z_callVv (pc := 38) (st := []) [.ref 44, .int r6] dX0_stepBack_38 zm_X0_35 zM_X3_load (by decide) oX_37 rfl (w_X3_load_37_44 l q7) rfl rfl (Nat.le_of_ble_eq_true rfl) ?_
    refine z_iconst (pc := 41) (v := 1) dX0_stepBack_41 zci_1 ?_
    obtain ⟨rfl, rfl⟩ := zr_some h
    exact z_zret dX0_stepBack_42 rfl
  · have h := zt_some c1 h
    refine z_iconst (pc := 7) (v := 0) dX0_stepBack_7 zci_0 ?_
    obtain ⟨rfl, rfl⟩ := zr_some h
    exact z_zret dX0_stepBack_8 rfl
def f_X11_undo  (S : zS) : Option (Int32 × zS) :=
  zb (f_X0_stepBack_43_37 S) fun r3 T2 =>
  if znb r3 then some (r3, T2) else none
set_option maxRecDepth 100000 in
theorem w_X11_undo (l : Launch)  {S : zS} {r : Int32} {S1 : zS} (h : f_X11_undo S = some (r, S1)) : zMet zLX l yX11_undo cX11_undo 1 (some .boolean) 3 [.ref 0] S (some (.int r)) S1 := by
  unfold f_X11_undo at h
  refine zMet.of (by decide +kernel) (Nat.le_of_ble_eq_true rfl) ?_
  show WA zLX l RX11 cX11_undo 1 (some .boolean) 3 (some (.int r)) S1 0 [(0, .ref 0)] [] S
  refine z_aload_n (pc := 0) (q := 0) dX11_undo_0 rfl rfl ?_
  refine z_getR (pc := 1) dX11_undo_1 zf_X11_45 gX_0_7 ?_
  refine z_aload_n (pc := 4) (q := 0) dX11_undo_4 rfl rfl ?_
  refine z_getR (pc := 5) dX11_undo_5 zf_X11_35 gX_0_5 ?_
  obtain ⟨r3, T2, q1, h⟩ := zb_some h
  refine z_callVi (pc := 8) (st := []) [.ref 37] dX11_undo_8 zm_X11_229 zM_X0_stepBack (by decide) oX_43 rfl (w_X0_stepBack_43_37 l q1) rfl rfl (Nat.le_of_ble_eq_true rfl) ?_
  obtain ⟨c4, h⟩ := zg_some h
  obtain ⟨rfl, rfl⟩ := zr_some h
  exact z_zret dX11_undo_11 (znb_n c4)
def f_X0_stepOn_43_37  (S : zS) : Option (Int32 × zS) :=
  if (S.1 43 1) = 0 then
    some (0, S)
  else
    zlet (zput S 43 1 ((S.1 43 1) - 1)) fun T2 =>
    zlet (zput T2 43 0 ((T2.1 43 0) + 1)) fun T3 =>
    zb (f_X0_presentRow_43 T3) fun r6 T5 =>
    zu (f_X3_load_37_44 r6 T5) fun T8 =>
    some (1, T8)
set_option maxRecDepth 100000 in
theorem w_X0_stepOn_43_37 (l : Launch)  {S : zS} {r : Int32} {S1 : zS} (h : f_X0_stepOn_43_37 S = some (r, S1)) : zMet zLX l yX0_stepOn cX0_stepOn 2 (some .boolean) 2 [.ref 43, .ref 37] S (some (.int r)) S1 := by
  unfold f_X0_stepOn_43_37 at h
  refine zMet.of (by decide +kernel) (Nat.le_of_ble_eq_true rfl) ?_
  show WA zLX l RX0 cX0_stepOn 2 (some .boolean) 2 (some (.int r)) S1 0 [(0, .ref 43), (1, .ref 37)] [] S
  refine z_aload_n (pc := 0) (q := 0) dX0_stepOn_0 rfl rfl ?_
  refine z_getI (pc := 1) dX0_stepOn_1 zf_X0_24 gX_43_1 ?_
  refine z_if_ne (pc := 4) (tgt := 9) dX0_stepOn_4 (by decide) (fun c1 => ?_) (fun c1 => ?_)
  · have h := ze_some c1 h
    refine z_aload_n (pc := 9) (q := 0) dX0_stepOn_9 rfl rfl ?_
    refine z_dup (pc := 10) dX0_stepOn_10 rfl ?_
    refine z_getI (pc := 11) dX0_stepOn_11 zf_X0_24 gX_43_1 ?_
    refine z_iconst (pc := 14) (v := 1) dX0_stepOn_14 zci_1 ?_
    refine z_isub (pc := 15) dX0_stepOn_15 ?_
    obtain ⟨T2, eT2, h⟩ := zl_some h
    refine z_putI (pc := 16) dX0_stepOn_16 zp_X0_24 gX_43_1 rfl rfl eT2 ?_
    refine z_aload_n (pc := 19) (q := 0) dX0_stepOn_19 rfl rfl ?_
    refine z_dup (pc := 20) dX0_stepOn_20 rfl ?_
    refine z_getI (pc := 21) dX0_stepOn_21 zf_X0_21 gX_43_0 ?_
    refine z_iconst (pc := 24) (v := 1) dX0_stepOn_24 zci_1 ?_
    refine z_iadd (pc := 25) dX0_stepOn_25 ?_
    obtain ⟨T3, eT3, h⟩ := zl_some h
    refine z_putI (pc := 26) dX0_stepOn_26 zp_X0_21 gX_43_0 rfl rfl eT3 ?_
    refine z_aload_n (pc := 29) (q := 1) dX0_stepOn_29 rfl rfl ?_
    refine z_aload_n (pc := 30) (q := 0) dX0_stepOn_30 rfl rfl ?_
    refine z_getR (pc := 31) dX0_stepOn_31 zf_X0_13 gX_43_3 ?_
    refine z_aload_n (pc := 34) (q := 0) dX0_stepOn_34 rfl rfl ?_
    obtain ⟨r6, T5, q4, h⟩ := zb_some h
    refine z_callVi (pc := 35) (st := [.ref 44, .ref 37]) [] dX0_stepOn_35 zm_X0_27 zM_X0_presentRow (by decide) oX_43 rfl (w_X0_presentRow_43 l q4) rfl rfl (Nat.le_of_ble_eq_true rfl) ?_
    obtain ⟨T8, q7, h⟩ := zu_some h
    refine z_callVv (pc := 38) (st := []) [.ref 44, .int r6] dX0_stepOn_38 zm_X0_35 zM_X3_load (by decide) oX_37 rfl (w_X3_load_37_44 l q7) rfl rfl (Nat.le_of_ble_eq_true rfl) ?_
    refine z_iconst (pc := 41) (v := 1) dX0_stepOn_41 zci_1 ?_
    obtain ⟨rfl, rfl⟩ := zr_some h
    exact z_zret dX0_stepOn_42 rfl
  · have h := zt_some c1 h
    refine z_iconst (pc := 7) (v := 0) dX0_stepOn_7 zci_0 ?_
    obtain ⟨rfl, rfl⟩ := zr_some h
    exact z_zret dX0_stepOn_8 rfl
def f_X11_redo  (S : zS) : Option (Int32 × zS) :=
  zb (f_X0_stepOn_43_37 S) fun r3 T2 =>
  if znb r3 then some (r3, T2) else none
set_option maxRecDepth 100000 in
theorem w_X11_redo (l : Launch)  {S : zS} {r : Int32} {S1 : zS} (h : f_X11_redo S = some (r, S1)) : zMet zLX l yX11_redo cX11_redo 1 (some .boolean) 3 [.ref 0] S (some (.int r)) S1 := by
  unfold f_X11_redo at h
  refine zMet.of (by decide +kernel) (Nat.le_of_ble_eq_true rfl) ?_
  show WA zLX l RX11 cX11_redo 1 (some .boolean) 3 (some (.int r)) S1 0 [(0, .ref 0)] [] S
  refine z_aload_n (pc := 0) (q := 0) dX11_redo_0 rfl rfl ?_
  refine z_getR (pc := 1) dX11_redo_1 zf_X11_45 gX_0_7 ?_
  refine z_aload_n (pc := 4) (q := 0) dX11_redo_4 rfl rfl ?_
  refine z_getR (pc := 5) dX11_redo_5 zf_X11_35 gX_0_5 ?_
  obtain ⟨r3, T2, q1, h⟩ := zb_some h
  refine z_callVi (pc := 8) (st := []) [.ref 37] dX11_redo_8 zm_X11_233 zM_X0_stepOn (by decide) oX_43 rfl (w_X0_stepOn_43_37 l q1) rfl rfl (Nat.le_of_ble_eq_true rfl) ?_
  obtain ⟨c4, h⟩ := zg_some h
  obtain ⟨rfl, rfl⟩ := zr_some h
  exact z_zret dX11_redo_11 (znb_n c4)
def f_X11_isAhead (x1 : Int32) (S : zS) : Option (Int32 × zS) :=
  if x1 < 0 then
    some (0, S)
  else
    if (60 : Int32) < x1 then
      some (0, S)
    else
      some (1, S)
set_option maxRecDepth 100000 in
theorem w_X11_isAhead (l : Launch) {x1 : Int32} {S : zS} {r : Int32} {S1 : zS} (h : f_X11_isAhead x1 S = some (r, S1)) : zMet zLX l yX11_isAhead cX11_isAhead 2 (some .boolean) 1 [.ref 0, .int x1] S (some (.int r)) S1 := by
  unfold f_X11_isAhead at h
  refine zMet.of (by decide +kernel) (Nat.le_of_ble_eq_true rfl) ?_
  show WA zLX l RX11 cX11_isAhead 2 (some .boolean) 1 (some (.int r)) S1 0 [(0, .ref 0), (1, .int x1)] [] S
  refine z_iload_n (pc := 0) (q := 1) dX11_isAhead_0 rfl rfl ?_
  refine z_if_lt (pc := 1) (tgt := 14) dX11_isAhead_1 (by decide) (fun c1 => ?_) (fun c1 => ?_)
  · have h := zt_some c1 h
    refine z_iconst (pc := 14) (v := 0) dX11_isAhead_14 zci_0 ?_
    obtain ⟨rfl, rfl⟩ := zr_some h
    exact z_zret dX11_isAhead_15 rfl
  · have h := ze_some c1 h
    refine z_iload_n (pc := 4) (q := 1) dX11_isAhead_4 rfl rfl ?_
    refine z_bipush (pc := 5) (v := 60) dX11_isAhead_5 zcb_60 ?_
    refine z_icmp_gt (pc := 7) (tgt := 14) dX11_isAhead_7 (by decide) (fun c2 => ?_) (fun c2 => ?_)
    · have h := zt_some c2 h
      refine z_iconst (pc := 14) (v := 0) dX11_isAhead_14 zci_0 ?_
      obtain ⟨rfl, rfl⟩ := zr_some h
      exact z_zret dX11_isAhead_15 rfl
    · have h := ze_some c2 h
      refine z_iconst (pc := 10) (v := 1) dX11_isAhead_10 zci_1 ?_
      refine z_goto (pc := 11) (tgt := 15) dX11_isAhead_11 (by decide) ?_
      obtain ⟨rfl, rfl⟩ := zr_some h
      exact z_zret dX11_isAhead_15 rfl
def f_X3_takeFrom_40_37  (S : zS) : Option zS :=
  zlet (zput S 40 0 (S.1 37 0)) fun T1 =>
  zlet (zput T1 40 1 (T1.1 37 1)) fun T2 =>
  zlet (zput T2 40 2 (T2.1 37 2)) fun T3 =>
  if zcinB 0 0 12 12 12 then
  zlet (zcpy T3 38 41 (Int32.toNatClampNeg 0) (Int32.toNatClampNeg 0) (Int32.toNatClampNeg 12)) fun T5 =>
  if zcinB 0 0 12 12 12 then
  zlet (zcpy T5 39 42 (Int32.toNatClampNeg 0) (Int32.toNatClampNeg 0) (Int32.toNatClampNeg 12)) fun T7 =>
  some T7 else none else none
set_option maxRecDepth 100000 in
theorem w_X3_takeFrom_40_37 (l : Launch)  {S : zS} {S1 : zS} (h : f_X3_takeFrom_40_37 S = some S1) : zMet zLX l yX3_takeFrom cX3_takeFrom 2 none 1 [.ref 40, .ref 37] S none S1 := by
  unfold f_X3_takeFrom_40_37 at h
  refine zMet.of (by decide +kernel) (Nat.le_of_ble_eq_true rfl) ?_
  show WA zLX l RX3 cX3_takeFrom 2 none 1 none S1 0 [(0, .ref 40), (1, .ref 37)] [] S
  refine z_aload_n (pc := 0) (q := 0) dX3_takeFrom_0 rfl rfl ?_
  refine z_aload_n (pc := 1) (q := 1) dX3_takeFrom_1 rfl rfl ?_
  refine z_getI (pc := 2) dX3_takeFrom_2 zf_X3_24 gX_37_0 ?_
  obtain ⟨T1, eT1, h⟩ := zl_some h
  refine z_putI (pc := 5) dX3_takeFrom_5 zp_X3_24 gX_40_0 rfl rfl eT1 ?_
  refine z_aload_n (pc := 8) (q := 0) dX3_takeFrom_8 rfl rfl ?_
  refine z_aload_n (pc := 9) (q := 1) dX3_takeFrom_9 rfl rfl ?_
  refine z_getI (pc := 10) dX3_takeFrom_10 zf_X3_27 gX_37_1 ?_
  obtain ⟨T2, eT2, h⟩ := zl_some h
  refine z_putI (pc := 13) dX3_takeFrom_13 zp_X3_27 gX_40_1 rfl rfl eT2 ?_
  refine z_aload_n (pc := 16) (q := 0) dX3_takeFrom_16 rfl rfl ?_
  refine z_aload_n (pc := 17) (q := 1) dX3_takeFrom_17 rfl rfl ?_
  refine z_getI (pc := 18) dX3_takeFrom_18 zf_X3_33 gX_37_2 ?_
  obtain ⟨T3, eT3, h⟩ := zl_some h
  refine z_putI (pc := 21) dX3_takeFrom_21 zp_X3_33 gX_40_2 rfl rfl eT3 ?_
  refine z_aload_n (pc := 24) (q := 1) dX3_takeFrom_24 rfl rfl ?_
  refine z_getR (pc := 25) dX3_takeFrom_25 zf_X3_9 gX_37_3 ?_
  refine z_iconst (pc := 28) (v := 0) dX3_takeFrom_28 zci_0 ?_
  refine z_aload_n (pc := 29) (q := 0) dX3_takeFrom_29 rfl rfl ?_
  refine z_getR (pc := 30) dX3_takeFrom_30 zf_X3_9 gX_40_3 ?_
  refine z_iconst (pc := 33) (v := 0) dX3_takeFrom_33 zci_0 ?_
  refine z_bipush (pc := 34) (v := 12) dX3_takeFrom_34 zcb_12 ?_
  obtain ⟨c4, h⟩ := zg_some h
  obtain ⟨T5, eT5, h⟩ := zl_some h
  refine z_copy (pc := 36) dX3_takeFrom_36 zm_X3_40 zM_copy.1 zM_copy.2.1 zM_copy.2.2 aX_38 aX_41 c4 (by decide) (Nat.le_of_ble_eq_true rfl) eT5 ?_
  refine z_aload_n (pc := 39) (q := 1) dX3_takeFrom_39 rfl rfl ?_
  refine z_getR (pc := 40) dX3_takeFrom_40 zf_X3_15 gX_37_4 ?_
  refine z_iconst (pc := 43) (v := 0) dX3_takeFrom_43 zci_0 ?_
  refine z_aload_n (pc := 44) (q := 0) dX3_takeFrom_44 rfl rfl ?_
  refine z_getR (pc := 45) dX3_takeFrom_45 zf_X3_15 gX_40_4 ?_
  refine z_iconst (pc := 48) (v := 0) dX3_takeFrom_48 zci_0 ?_
  refine z_bipush (pc := 49) (v := 12) dX3_takeFrom_49 zcb_12 ?_
  obtain ⟨c6, h⟩ := zg_some h
  obtain ⟨T7, eT7, h⟩ := zl_some h
  refine z_copy (pc := 51) dX3_takeFrom_51 zm_X3_40 zM_copy.1 zM_copy.2.1 zM_copy.2.2 aX_39 aX_42 c6 (by decide) (Nat.le_of_ble_eq_true rfl) eT7 ?_
  cases h
  exact z_vret dX3_takeFrom_54
def f_X3_livingBits_40_L4 : Nat → Int32 → Int32 → zS → Option (Int32 × zS)
  | 0, _, _, _ => none
  | n + 1, x1, x2, S =>
    if x2 < (S.1 40 0) then
      if x2 < 12 then
        if zin x2 12 then
        if (0 : Int32) < (S.1 41 x2.toNatClampNeg) then
          zlet (x1 ||| (1 <<< (x2 &&& 31))) fun v5 =>
          zlet (x2 + 1) fun v6 =>
          (f_X3_livingBits_40_L4 n) v5 v6 S
        else
          zlet (x2 + 1) fun v5 =>
          (f_X3_livingBits_40_L4 n) x1 v5 S else none
      else
        some (x1, S)
    else
      some (x1, S)
def f_X3_livingBits_40  (S : zS) : Option (Int32 × zS) :=
  f_X3_livingBits_40_L4 zN 0 0 S
set_option maxRecDepth 100000 in
theorem w_X3_livingBits_40_L4 (l : Launch) {r : Int32} {S1 : zS} : ∀ (n : Nat) (x1 : Int32) (x2 : Int32) (S : zS), f_X3_livingBits_40_L4 n x1 x2 S = some (r, S1) → WA zLX l RX3 cX3_livingBits 3 (some .int) 1 (some (.int r)) S1 4 [(0, .ref 40), (1, .int x1), (2, .int x2)] [] S := by
  intro n
  induction n with
  | zero =>
    intro x1 x2 S h
    exact nomatch h
  | succ n ih =>
    intro x1 x2 S h
    rw [f_X3_livingBits_40_L4] at h
    refine z_iload_n (pc := 4) (q := 2) dX3_livingBits_4 rfl rfl ?_
    refine z_aload_n (pc := 5) (q := 0) dX3_livingBits_5 rfl rfl ?_
    refine z_getI (pc := 6) dX3_livingBits_6 zf_X3_24 gX_40_0 ?_
    refine z_icmp_ge (pc := 9) (tgt := 39) dX3_livingBits_9 (by decide) (fun c1 => ?_) (fun c1 => ?_)
    · have h := ze_some c1 h
      refine z_iload_n (pc := 39) (q := 1) dX3_livingBits_39 rfl rfl ?_
      obtain ⟨rfl, rfl⟩ := zr_some h
      exact z_iret dX3_livingBits_40
    · have h := zt_some c1 h
      refine z_iload_n (pc := 12) (q := 2) dX3_livingBits_12 rfl rfl ?_
      refine z_bipush (pc := 13) (v := 12) dX3_livingBits_13 zcb_12 ?_
      refine z_icmp_ge (pc := 15) (tgt := 39) dX3_livingBits_15 (by decide) (fun c2 => ?_) (fun c2 => ?_)
      · have h := ze_some c2 h
        refine z_iload_n (pc := 39) (q := 1) dX3_livingBits_39 rfl rfl ?_
        obtain ⟨rfl, rfl⟩ := zr_some h
        exact z_iret dX3_livingBits_40
      · have h := zt_some c2 h
        refine z_aload_n (pc := 18) (q := 0) dX3_livingBits_18 rfl rfl ?_
        refine z_getR (pc := 19) dX3_livingBits_19 zf_X3_9 gX_40_3 ?_
        refine z_iload_n (pc := 22) (q := 2) dX3_livingBits_22 rfl rfl ?_
        obtain ⟨c3, h⟩ := zg_some h
        refine z_iald (pc := 23) dX3_livingBits_23 aX_41 c3 ?_
        refine z_if_le (pc := 24) (tgt := 33) dX3_livingBits_24 (by decide) (fun c4 => ?_) (fun c4 => ?_)
        · have h := ze_some c4 h
          obtain ⟨v5, ev5, h⟩ := zl_some h
          refine z_iinc (pc := 33) (q := 2) (v := v5) (lo' := [(2, .int v5), (0, .ref 40), (1, .int x1)]) dX3_livingBits_33 rfl (by rw [ev5, zci_1]) (by decide) rfl ?_
          refine z_goto (pc := 36) (tgt := 4) dX3_livingBits_36 (by decide) ?_
          exact z_sub [1, 2, 0] rfl (ih x1 v5 S h)
        · have h := zt_some c4 h
          refine z_iload_n (pc := 27) (q := 1) dX3_livingBits_27 rfl rfl ?_
          refine z_iconst (pc := 28) (v := 1) dX3_livingBits_28 zci_1 ?_
          refine z_iload_n (pc := 29) (q := 2) dX3_livingBits_29 rfl rfl ?_
          refine z_ishl (pc := 30) dX3_livingBits_30 ?_
          refine z_ior (pc := 31) dX3_livingBits_31 ?_
          obtain ⟨v5, ev5, h⟩ := zl_some h
          refine z_top ev5 ?_
          refine z_istore_n (pc := 32) (lo' := [(1, .int v5), (0, .ref 40), (2, .int x2)]) dX3_livingBits_32 rfl (by decide) rfl ?_
          obtain ⟨v6, ev6, h⟩ := zl_some h
          refine z_iinc (pc := 33) (q := 2) (v := v6) (lo' := [(2, .int v6), (1, .int v5), (0, .ref 40)]) dX3_livingBits_33 rfl (by rw [ev6, zci_1]) (by decide) rfl ?_
          refine z_goto (pc := 36) (tgt := 4) dX3_livingBits_36 (by decide) ?_
          exact z_sub [2, 1, 0] rfl (ih v5 v6 S h)
set_option maxRecDepth 100000 in
theorem w_X3_livingBits_40 (l : Launch)  {S : zS} {r : Int32} {S1 : zS} (h : f_X3_livingBits_40 S = some (r, S1)) : zMet zLX l yX3_livingBits cX3_livingBits 3 (some .int) 1 [.ref 40] S (some (.int r)) S1 := by
  unfold f_X3_livingBits_40 at h
  refine zMet.of (by decide +kernel) (Nat.le_of_ble_eq_true rfl) ?_
  show WA zLX l RX3 cX3_livingBits 3 (some .int) 1 (some (.int r)) S1 0 [(0, .ref 40)] [] S
  refine z_iconst (pc := 0) (v := 0) dX3_livingBits_0 zci_0 ?_
  refine z_istore_n (pc := 1) (lo' := [(1, .int 0), (0, .ref 40)]) dX3_livingBits_1 rfl (by decide) rfl ?_
  refine z_iconst (pc := 2) (v := 0) dX3_livingBits_2 zci_0 ?_
  refine z_istore_n (pc := 3) (lo' := [(2, .int 0), (1, .int 0), (0, .ref 40)]) dX3_livingBits_3 rfl (by decide) rfl ?_
  exact z_sub [2, 1, 0] rfl (w_X3_livingBits_40_L4 l zN 0 0 S h)
def f_X3_growAll_40_5_L13 : Nat → Int32 → Int32 → zS → Option zS
  | 0, _, _, _ => none
  | n + 1, x3, x4, S =>
    if x4 < (S.1 40 0) then
      if x4 < 12 then
        if zin x4 12 then
        if (0 : Int32) < (S.1 41 x4.toNatClampNeg) then
          zb (f_X1_othersNear_13 x4 x3 S) fun r7 T6 =>
          if zin x4 12 then
          if zin x4 12 then
          if zin x4 12 then
          zb (f_X2_result_9 (T6.1 41 x4.toNatClampNeg) (T6.1 42 x4.toNatClampNeg) (T6.1 14 x4.toNatClampNeg) r7 (T6.1 40 1) T6) fun r13 T12 =>
          if zin x4 12 then
          if zin x4 12 then
          zlet (zput T12 41 x4.toNatClampNeg (zmax 0 (zmin 99 ((T12.1 41 x4.toNatClampNeg) + r13)))) fun T16 =>
          if zin x4 12 then
          if zin x4 12 then
          zlet (zput T16 42 x4.toNatClampNeg ((T16.1 42 x4.toNatClampNeg) + 1)) fun T19 =>
          if zin x4 12 then
          if (T19.1 41 x4.toNatClampNeg) = 0 then
            zlet (x3 &&& ((1 <<< (x4 &&& 31)) ^^^ (-1))) fun v22 =>
            zlet (x4 + 1) fun v23 =>
            (f_X3_growAll_40_5_L13 n) v22 v23 T19
          else
            zlet (x4 + 1) fun v22 =>
            (f_X3_growAll_40_5_L13 n) x3 v22 T19 else none else none else none else none else none else none else none else none
        else
          zlet (x4 + 1) fun v5 =>
          (f_X3_growAll_40_5_L13 n) x3 v5 S else none
      else
        some S
    else
      some S
def f_X3_growAll_40_5  (S : zS) : Option zS :=
  zb (f_X3_livingBits_40 S) fun r3 T2 =>
  f_X3_growAll_40_5_L13 zN r3 0 T2
set_option maxRecDepth 100000 in
theorem w_X3_growAll_40_5_L13 (l : Launch) {S1 : zS} : ∀ (n : Nat) (x3 : Int32) (x4 : Int32) (S : zS), f_X3_growAll_40_5_L13 n x3 x4 S = some S1 → WA zLX l RX3 cX3_growAll 7 none 3 none S1 13 [(0, .ref 40), (1, .ref 5), (2, .ref 13), (3, .int x3), (4, .int x4)] [] S := by
  intro n
  induction n with
  | zero =>
    intro x3 x4 S h
    exact nomatch h
  | succ n ih =>
    intro x3 x4 S h
    rw [f_X3_growAll_40_5_L13] at h
    refine z_iload (pc := 13) (q := 4) dX3_growAll_13 rfl ?_
    refine z_aload_n (pc := 15) (q := 0) dX3_growAll_15 rfl rfl ?_
    refine z_getI (pc := 16) dX3_growAll_16 zf_X3_24 gX_40_0 ?_
    refine z_icmp_ge (pc := 19) (tgt := 146) dX3_growAll_19 (by decide) (fun c1 => ?_) (fun c1 => ?_)
    · have h := ze_some c1 h
      cases h
      exact z_vret dX3_growAll_146
    · have h := zt_some c1 h
      refine z_iload (pc := 22) (q := 4) dX3_growAll_22 rfl ?_
      refine z_bipush (pc := 24) (v := 12) dX3_growAll_24 zcb_12 ?_
      refine z_icmp_ge (pc := 26) (tgt := 146) dX3_growAll_26 (by decide) (fun c2 => ?_) (fun c2 => ?_)
      · have h := ze_some c2 h
        cases h
        exact z_vret dX3_growAll_146
      · have h := zt_some c2 h
        refine z_aload_n (pc := 29) (q := 0) dX3_growAll_29 rfl rfl ?_
        refine z_getR (pc := 30) dX3_growAll_30 zf_X3_9 gX_40_3 ?_
        refine z_iload (pc := 33) (q := 4) dX3_growAll_33 rfl ?_
        obtain ⟨c3, h⟩ := zg_some h
        refine z_iald (pc := 35) dX3_growAll_35 aX_41 c3 ?_
        refine z_if_le (pc := 36) (tgt := 140) dX3_growAll_36 (by decide) (fun c4 => ?_) (fun c4 => ?_)
        · have h := ze_some c4 h
          obtain ⟨v5, ev5, h⟩ := zl_some h
          refine z_iinc (pc := 140) (q := 4) (v := v5) (lo' := [(4, .int v5), (0, .ref 40), (1, .ref 5), (2, .ref 13), (3, .int x3)]) dX3_growAll_140 rfl (by rw [ev5, zci_1]) (by decide) rfl ?_
          refine z_goto (pc := 143) (tgt := 13) dX3_growAll_143 (by decide) ?_
          exact z_sub [1, 2, 3, 4, 0] rfl (ih x3 v5 S h)
        · have h := zt_some c4 h
          refine z_aload_n (pc := 39) (q := 2) dX3_growAll_39 rfl rfl ?_
          refine z_iload (pc := 40) (q := 4) dX3_growAll_40 rfl ?_
          refine z_iload_n (pc := 42) (q := 3) dX3_growAll_42 rfl rfl ?_
          obtain ⟨r7, T6, q5, h⟩ := zb_some h
          refine z_callVi (pc := 43) (st := []) [.int x4, .int x3] dX3_growAll_43 zm_X3_75 zM_X1_othersNear (by decide) oX_13 rfl (w_X1_othersNear_13 l q5) rfl rfl (Nat.le_of_ble_eq_true rfl) ?_
          refine z_istore (pc := 46) (lo' := [(5, .int r7), (0, .ref 40), (1, .ref 5), (2, .ref 13), (3, .int x3), (4, .int x4)]) dX3_growAll_46 (by decide) rfl ?_
          refine z_aload_n (pc := 48) (q := 2) dX3_growAll_48 rfl rfl ?_
          refine z_getR (pc := 49) dX3_growAll_49 zf_X3_78 gX_5_12 ?_
          refine z_aload_n (pc := 52) (q := 1) dX3_growAll_52 rfl rfl ?_
          refine z_getR (pc := 53) dX3_growAll_53 zf_X3_9 gX_40_3 ?_
          refine z_iload (pc := 56) (q := 5) dX3_growAll_56 rfl ?_
          obtain ⟨c8, h⟩ := zg_some h
          refine z_iald (pc := 58) dX3_growAll_58 aX_41 c8 ?_
          refine z_aload_n (pc := 59) (q := 1) dX3_growAll_59 rfl rfl ?_
          refine z_getR (pc := 60) dX3_growAll_60 zf_X3_15 gX_40_4 ?_
          refine z_iload (pc := 63) (q := 5) dX3_growAll_63 rfl ?_
          obtain ⟨c9, h⟩ := zg_some h
          refine z_iald (pc := 65) dX3_growAll_65 aX_42 c9 ?_
          refine z_aload_n (pc := 66) (q := 3) dX3_growAll_66 rfl rfl ?_
          refine z_getR (pc := 67) dX3_growAll_67 zf_X3_46 gX_13_0 ?_
          refine z_iload (pc := 70) (q := 5) dX3_growAll_70 rfl ?_
          obtain ⟨c10, h⟩ := zg_some h
          refine z_iald (pc := 72) dX3_growAll_72 aX_14 c10 ?_
          refine z_iload (pc := 73) (q := 0) dX3_growAll_73 rfl ?_
          refine z_aload_n (pc := 75) (q := 1) dX3_growAll_75 rfl rfl ?_
          refine z_getI (pc := 76) dX3_growAll_76 zf_X3_27 gX_40_1 ?_
          obtain ⟨r13, T12, q11, h⟩ := zb_some h
          refine z_callVi (pc := 79) (st := []) [.int (T6.1 41 x4.toNatClampNeg), .int (T6.1 42 x4.toNatClampNeg), .int (T6.1 14 x4.toNatClampNeg), .int r7, .int (T6.1 40 1)] dX3_growAll_79 zm_X3_82 zM_X2_result (by decide) oX_9 rfl (w_X2_result_9 l q11) rfl rfl (Nat.le_of_ble_eq_true rfl) ?_
          refine z_istore (pc := 82) (lo' := [(6, .int r13), (5, .int r7), (0, .ref 40), (1, .ref 5), (2, .ref 13), (3, .int x3), (4, .int x4)]) dX3_growAll_82 (by decide) rfl ?_
          refine z_aload_n (pc := 84) (q := 2) dX3_growAll_84 rfl rfl ?_
          refine z_getR (pc := 85) dX3_growAll_85 zf_X3_9 gX_40_3 ?_
          refine z_iload (pc := 88) (q := 6) dX3_growAll_88 rfl ?_
          refine z_iconst (pc := 90) (v := 0) dX3_growAll_90 zci_0 ?_
          refine z_bipush (pc := 91) (v := 99) dX3_growAll_91 zcb_99 ?_
          refine z_aload_n (pc := 93) (q := 2) dX3_growAll_93 rfl rfl ?_
          refine z_getR (pc := 94) dX3_growAll_94 zf_X3_9 gX_40_3 ?_
          refine z_iload (pc := 97) (q := 6) dX3_growAll_97 rfl ?_
          obtain ⟨c14, h⟩ := zg_some h
          refine z_iald (pc := 99) dX3_growAll_99 aX_41 c14 ?_
          refine z_iload (pc := 100) (q := 0) dX3_growAll_100 rfl ?_
          refine z_iadd (pc := 102) dX3_growAll_102 ?_
          refine z_min (pc := 103) dX3_growAll_103 zm_X3_88 zM_min.1 zM_min.2.1 zM_min.2.2 (by decide) (Nat.le_of_ble_eq_true rfl) ?_
          refine z_max (pc := 106) dX3_growAll_106 zm_X3_51 zM_max.1 zM_max.2.1 zM_max.2.2 (by decide) (Nat.le_of_ble_eq_true rfl) ?_
          obtain ⟨c15, h⟩ := zg_some h
          obtain ⟨T16, eT16, h⟩ := zl_some h
          refine z_iast (pc := 109) dX3_growAll_109 aX_41 c15 eT16 ?_
          refine z_aload_n (pc := 110) (q := 2) dX3_growAll_110 rfl rfl ?_
          refine z_getR (pc := 111) dX3_growAll_111 zf_X3_15 gX_40_4 ?_
          refine z_iload (pc := 114) (q := 6) dX3_growAll_114 rfl ?_
          refine z_dup2 (pc := 116) dX3_growAll_116 rfl rfl ?_
          obtain ⟨c17, h⟩ := zg_some h
          refine z_iald (pc := 117) dX3_growAll_117 aX_42 c17 ?_
          refine z_iconst (pc := 118) (v := 1) dX3_growAll_118 zci_1 ?_
          refine z_iadd (pc := 119) dX3_growAll_119 ?_
          obtain ⟨c18, h⟩ := zg_some h
          obtain ⟨T19, eT19, h⟩ := zl_some h
          refine z_iast (pc := 120) dX3_growAll_120 aX_42 c18 eT19 ?_
          refine z_aload_n (pc := 121) (q := 2) dX3_growAll_121 rfl rfl ?_
          refine z_getR (pc := 122) dX3_growAll_122 zf_X3_9 gX_40_3 ?_
          refine z_iload (pc := 125) (q := 6) dX3_growAll_125 rfl ?_
          obtain ⟨c20, h⟩ := zg_some h
          refine z_iald (pc := 127) dX3_growAll_127 aX_41 c20 ?_
          refine z_if_ne (pc := 128) (tgt := 140) dX3_growAll_128 (by decide) (fun c21 => ?_) (fun c21 => ?_)
          · have h := ze_some c21 h
            obtain ⟨v22, ev22, h⟩ := zl_some h
            refine z_iinc (pc := 140) (q := 6) (v := v22) (lo' := [(4, .int v22), (6, .int r13), (5, .int r7), (0, .ref 40), (1, .ref 5), (2, .ref 13), (3, .int x3)]) dX3_growAll_140 rfl (by rw [ev22, zci_1]) (by decide) rfl ?_
            refine z_goto (pc := 143) (tgt := 13) dX3_growAll_143 (by decide) ?_
            exact z_sub [3, 4, 5, 6, 0] rfl (ih x3 v22 T19 h)
          · have h := zt_some c21 h
            refine z_iload_n (pc := 131) (q := 5) dX3_growAll_131 rfl rfl ?_
            refine z_iconst (pc := 132) (v := 1) dX3_growAll_132 zci_1 ?_
            refine z_iload (pc := 133) (q := 6) dX3_growAll_133 rfl ?_
            refine z_ishl (pc := 135) dX3_growAll_135 ?_
            refine z_iconst (pc := 136) (v := (-1)) dX3_growAll_136 zci_m1 ?_
            refine z_ixor (pc := 137) dX3_growAll_137 ?_
            refine z_iand (pc := 138) dX3_growAll_138 ?_
            obtain ⟨v22, ev22, h⟩ := zl_some h
            refine z_top ev22 ?_
            refine z_istore_n (pc := 139) (lo' := [(3, .int v22), (6, .int r13), (5, .int r7), (0, .ref 40), (1, .ref 5), (2, .ref 13), (4, .int x4)]) dX3_growAll_139 rfl (by decide) rfl ?_
            obtain ⟨v23, ev23, h⟩ := zl_some h
            refine z_iinc (pc := 140) (q := 6) (v := v23) (lo' := [(4, .int v23), (3, .int v22), (6, .int r13), (5, .int r7), (0, .ref 40), (1, .ref 5), (2, .ref 13)]) dX3_growAll_140 rfl (by rw [ev23, zci_1]) (by decide) rfl ?_
            refine z_goto (pc := 143) (tgt := 13) dX3_growAll_143 (by decide) ?_
            exact z_sub [4, 5, 6, 1, 0] rfl (ih v22 v23 T19 h)
set_option maxRecDepth 100000 in
theorem w_X3_growAll_40_5 (l : Launch)  {S : zS} {S1 : zS} (h : f_X3_growAll_40_5 S = some S1) : zMet zLX l yX3_growAll cX3_growAll 7 none 3 [.ref 40, .ref 5] S none S1 := by
  unfold f_X3_growAll_40_5 at h
  refine zMet.of (by decide +kernel) (Nat.le_of_ble_eq_true rfl) ?_
  show WA zLX l RX3 cX3_growAll 7 none 3 none S1 0 [(0, .ref 40), (1, .ref 5)] [] S
  refine z_aload_n (pc := 0) (q := 1) dX3_growAll_0 rfl rfl ?_
  refine z_getR (pc := 1) dX3_growAll_1 zf_X3_67 gX_5_13 ?_
  refine z_astore_n (pc := 4) (lo' := [(2, .ref 13), (0, .ref 40), (1, .ref 5)]) dX3_growAll_4 rfl (by decide) rfl ?_
  refine z_aload_n (pc := 5) (q := 1) dX3_growAll_5 rfl rfl ?_
  obtain ⟨r3, T2, q1, h⟩ := zb_some h
  refine z_callVi (pc := 6) (st := []) [] dX3_growAll_6 zm_X3_71 zM_X3_livingBits (by decide) oX_40 rfl (w_X3_livingBits_40 l q1) rfl rfl (Nat.le_of_ble_eq_true rfl) ?_
  refine z_istore_n (pc := 9) (lo' := [(3, .int r3), (2, .ref 13), (0, .ref 40), (1, .ref 5)]) dX3_growAll_9 rfl (by decide) rfl ?_
  refine z_iconst (pc := 10) (v := 0) dX3_growAll_10 zci_0 ?_
  refine z_istore (pc := 11) (lo' := [(4, .int 0), (3, .int r3), (2, .ref 13), (0, .ref 40), (1, .ref 5)]) dX3_growAll_11 (by decide) rfl ?_
  exact z_sub [3, 4, 2, 1, 0] rfl (w_X3_growAll_40_5_L13 l zN r3 0 T2 h)
def f_X3_freeze_40_5_L2 : Nat → Int32 → zS → Option zS
  | 0, _, _ => none
  | n + 1, x2, S =>
    if x2 < (S.1 40 0) then
      if x2 < 12 then
        if zin x2 12 then
        if (((S.1 5 6) >>> ((S.1 15 x2.toNatClampNeg) &&& 31)) &&& 1) = 0 then
          if zin x2 12 then
          if zin x2 12 then
          zlet (zput S 41 x2.toNatClampNeg (zmax 0 ((S.1 41 x2.toNatClampNeg) - (S.1 5 10)))) fun T7 =>
          zlet (x2 + 1) fun v8 =>
          (f_X3_freeze_40_5_L2 n) v8 T7 else none else none
        else
          zlet (x2 + 1) fun v5 =>
          (f_X3_freeze_40_5_L2 n) v5 S else none
      else
        some S
    else
      some S
def f_X3_freeze_40_5  (S : zS) : Option zS :=
  f_X3_freeze_40_5_L2 zN 0 S
set_option maxRecDepth 100000 in
theorem w_X3_freeze_40_5_L2 (l : Launch) {S1 : zS} : ∀ (n : Nat) (x2 : Int32) (S : zS), f_X3_freeze_40_5_L2 n x2 S = some S1 → WA zLX l RX3 cX3_freeze 3 none 1 none S1 2 [(0, .ref 40), (1, .ref 5), (2, .int x2)] [] S := by
  intro n
  induction n with
  | zero =>
    intro x2 S h
    exact nomatch h
  | succ n ih =>
    intro x2 S h
    rw [f_X3_freeze_40_5_L2] at h
    refine z_iload_n (pc := 2) (q := 2) dX3_freeze_2 rfl rfl ?_
    refine z_aload_n (pc := 3) (q := 0) dX3_freeze_3 rfl rfl ?_
    refine z_getI (pc := 4) dX3_freeze_4 zf_X3_24 gX_40_0 ?_
    refine z_icmp_ge (pc := 7) (tgt := 62) dX3_freeze_7 (by decide) (fun c1 => ?_) (fun c1 => ?_)
    · have h := ze_some c1 h
      cases h
      exact z_vret dX3_freeze_62
    · have h := zt_some c1 h
      refine z_iload_n (pc := 10) (q := 2) dX3_freeze_10 rfl rfl ?_
      refine z_bipush (pc := 11) (v := 12) dX3_freeze_11 zcb_12 ?_
      refine z_icmp_ge (pc := 13) (tgt := 62) dX3_freeze_13 (by decide) (fun c2 => ?_) (fun c2 => ?_)
      · have h := ze_some c2 h
        cases h
        exact z_vret dX3_freeze_62
      · have h := zt_some c2 h
        refine z_aload_n (pc := 16) (q := 1) dX3_freeze_16 rfl rfl ?_
        refine z_getI (pc := 17) dX3_freeze_17 zf_X3_91 gX_5_6 ?_
        refine z_aload_n (pc := 20) (q := 1) dX3_freeze_20 rfl rfl ?_
        refine z_getR (pc := 21) dX3_freeze_21 zf_X3_67 gX_5_13 ?_
        refine z_getR (pc := 24) dX3_freeze_24 zf_X3_94 gX_13_1 ?_
        refine z_iload_n (pc := 27) (q := 2) dX3_freeze_27 rfl rfl ?_
        obtain ⟨c3, h⟩ := zg_some h
        refine z_iald (pc := 28) dX3_freeze_28 aX_15 c3 ?_
        refine z_ishr (pc := 29) dX3_freeze_29 ?_
        refine z_iconst (pc := 30) (v := 1) dX3_freeze_30 zci_1 ?_
        refine z_iand (pc := 31) dX3_freeze_31 ?_
        refine z_if_ne (pc := 32) (tgt := 56) dX3_freeze_32 (by decide) (fun c4 => ?_) (fun c4 => ?_)
        · have h := ze_some c4 h
          obtain ⟨v5, ev5, h⟩ := zl_some h
          refine z_iinc (pc := 56) (q := 2) (v := v5) (lo' := [(2, .int v5), (0, .ref 40), (1, .ref 5)]) dX3_freeze_56 rfl (by rw [ev5, zci_1]) (by decide) rfl ?_
          refine z_goto (pc := 59) (tgt := 2) dX3_freeze_59 (by decide) ?_
          exact z_sub [1, 2, 0] rfl (ih v5 S h)
        · have h := zt_some c4 h
          refine z_aload_n (pc := 35) (q := 0) dX3_freeze_35 rfl rfl ?_
          refine z_getR (pc := 36) dX3_freeze_36 zf_X3_9 gX_40_3 ?_
          refine z_iload_n (pc := 39) (q := 2) dX3_freeze_39 rfl rfl ?_
          refine z_iconst (pc := 40) (v := 0) dX3_freeze_40 zci_0 ?_
          refine z_aload_n (pc := 41) (q := 0) dX3_freeze_41 rfl rfl ?_
          refine z_getR (pc := 42) dX3_freeze_42 zf_X3_9 gX_40_3 ?_
          refine z_iload_n (pc := 45) (q := 2) dX3_freeze_45 rfl rfl ?_
          obtain ⟨c5, h⟩ := zg_some h
          refine z_iald (pc := 46) dX3_freeze_46 aX_41 c5 ?_
          refine z_aload_n (pc := 47) (q := 1) dX3_freeze_47 rfl rfl ?_
          refine z_getI (pc := 48) dX3_freeze_48 zf_X3_97 gX_5_10 ?_
          refine z_isub (pc := 51) dX3_freeze_51 ?_
          refine z_max (pc := 52) dX3_freeze_52 zm_X3_51 zM_max.1 zM_max.2.1 zM_max.2.2 (by decide) (Nat.le_of_ble_eq_true rfl) ?_
          obtain ⟨c6, h⟩ := zg_some h
          obtain ⟨T7, eT7, h⟩ := zl_some h
          refine z_iast (pc := 55) dX3_freeze_55 aX_41 c6 eT7 ?_
          obtain ⟨v8, ev8, h⟩ := zl_some h
          refine z_iinc (pc := 56) (q := 2) (v := v8) (lo' := [(2, .int v8), (0, .ref 40), (1, .ref 5)]) dX3_freeze_56 rfl (by rw [ev8, zci_1]) (by decide) rfl ?_
          refine z_goto (pc := 59) (tgt := 2) dX3_freeze_59 (by decide) ?_
          exact z_sub [1, 2, 0] rfl (ih v8 T7 h)
set_option maxRecDepth 100000 in
theorem w_X3_freeze_40_5 (l : Launch)  {S : zS} {S1 : zS} (h : f_X3_freeze_40_5 S = some S1) : zMet zLX l yX3_freeze cX3_freeze 3 none 1 [.ref 40, .ref 5] S none S1 := by
  unfold f_X3_freeze_40_5 at h
  refine zMet.of (by decide +kernel) (Nat.le_of_ble_eq_true rfl) ?_
  show WA zLX l RX3 cX3_freeze 3 none 1 none S1 0 [(0, .ref 40), (1, .ref 5)] [] S
  refine z_iconst (pc := 0) (v := 0) dX3_freeze_0 zci_0 ?_
  refine z_istore_n (pc := 1) (lo' := [(2, .int 0), (0, .ref 40), (1, .ref 5)]) dX3_freeze_1 rfl (by decide) rfl ?_
  exact z_sub [1, 2, 0] rfl (w_X3_freeze_40_5_L2 l zN 0 S h)
def f_X3_passYear_40_5_B43  (S : zS) : Option zS :=
  zlet (zput S 40 1 ((S.1 40 1) + 1)) fun T1 =>
  some T1
def f_X3_passYear_40_5  (S : zS) : Option zS :=
  zu (f_X3_growAll_40_5 S) fun T2 =>
  zlet (zput T2 40 2 (zrem (((T2.1 40 2) * 137) + 71) 1000)) fun T3 =>
  if (zrem (T3.1 40 2) 100) < (T3.1 5 9) then
    zu (f_X3_freeze_40_5 T3) fun T6 =>
    f_X3_passYear_40_5_B43 T6
  else
    f_X3_passYear_40_5_B43 T3
set_option maxRecDepth 100000 in
theorem w_X3_passYear_40_5_B43 (l : Launch) {S1 : zS}  (S : zS) (h : f_X3_passYear_40_5_B43 S = some S1) : WA zLX l RX3 cX3_passYear 2 none 4 none S1 43 [(0, .ref 40)] [] S := by
  unfold f_X3_passYear_40_5_B43 at h
  refine z_aload_n (pc := 43) (q := 0) dX3_passYear_43 rfl rfl ?_
  refine z_dup (pc := 44) dX3_passYear_44 rfl ?_
  refine z_getI (pc := 45) dX3_passYear_45 zf_X3_27 gX_40_1 ?_
  refine z_iconst (pc := 48) (v := 1) dX3_passYear_48 zci_1 ?_
  refine z_iadd (pc := 49) dX3_passYear_49 ?_
  obtain ⟨T1, eT1, h⟩ := zl_some h
  refine z_putI (pc := 50) dX3_passYear_50 zp_X3_27 gX_40_1 rfl rfl eT1 ?_
  cases h
  exact z_vret dX3_passYear_53
set_option maxRecDepth 100000 in
theorem w_X3_passYear_40_5 (l : Launch)  {S : zS} {S1 : zS} (h : f_X3_passYear_40_5 S = some S1) : zMet zLX l yX3_passYear cX3_passYear 2 none 4 [.ref 40, .ref 5] S none S1 := by
  unfold f_X3_passYear_40_5 at h
  refine zMet.of (by decide +kernel) (Nat.le_of_ble_eq_true rfl) ?_
  show WA zLX l RX3 cX3_passYear 2 none 4 none S1 0 [(0, .ref 40), (1, .ref 5)] [] S
  refine z_aload_n (pc := 0) (q := 0) dX3_passYear_0 rfl rfl ?_
  refine z_aload_n (pc := 1) (q := 1) dX3_passYear_1 rfl rfl ?_
  obtain ⟨T2, q1, h⟩ := zu_some h
  refine z_callVv (pc := 2) (st := []) [.ref 5] dX3_passYear_2 zm_X3_57 zM_X3_growAll (by decide) oX_40 rfl (w_X3_growAll_40_5 l q1) rfl rfl (Nat.le_of_ble_eq_true rfl) ?_
  refine z_aload_n (pc := 5) (q := 0) dX3_passYear_5 rfl rfl ?_
  refine z_aload_n (pc := 6) (q := 0) dX3_passYear_6 rfl rfl ?_
  refine z_getI (pc := 7) dX3_passYear_7 zf_X3_33 gX_40_2 ?_
  refine z_sipush (pc := 10) (v := 137) dX3_passYear_10 zcs_137 ?_
  refine z_imul (pc := 13) dX3_passYear_13 ?_
  refine z_bipush (pc := 14) (v := 71) dX3_passYear_14 zcb_71 ?_
  refine z_iadd (pc := 16) dX3_passYear_16 ?_
  refine z_sipush (pc := 17) (v := 1000) dX3_passYear_17 zcs_1000 ?_
  refine z_irem (pc := 20) dX3_passYear_20 (by decide) ?_
  refine zrem_fold ?_
  obtain ⟨T3, eT3, h⟩ := zl_some h
  refine z_putI (pc := 21) dX3_passYear_21 zp_X3_33 gX_40_2 rfl rfl eT3 ?_
  refine z_aload_n (pc := 24) (q := 0) dX3_passYear_24 rfl rfl ?_
  refine z_getI (pc := 25) dX3_passYear_25 zf_X3_33 gX_40_2 ?_
  refine z_bipush (pc := 28) (v := 100) dX3_passYear_28 zcb_100 ?_
  refine z_irem (pc := 30) dX3_passYear_30 (by decide) ?_
  refine zrem_fold ?_
  refine z_aload_n (pc := 31) (q := 1) dX3_passYear_31 rfl rfl ?_
  refine z_getI (pc := 32) dX3_passYear_32 zf_X3_61 gX_5_9 ?_
  refine z_icmp_ge (pc := 35) (tgt := 43) dX3_passYear_35 (by decide) (fun c4 => ?_) (fun c4 => ?_)
  · have h := ze_some c4 h
    exact z_sub [0] rfl (w_X3_passYear_40_5_B43 l T3 h)
  · have h := zt_some c4 h
    refine z_aload_n (pc := 38) (q := 0) dX3_passYear_38 rfl rfl ?_
    refine z_aload_n (pc := 39) (q := 1) dX3_passYear_39 rfl rfl ?_
    obtain ⟨T6, q5, h⟩ := zu_some h
    refine z_callVv (pc := 40) (st := []) [.ref 5] dX3_passYear_40 zm_X3_64 zM_X3_freeze (by decide) oX_40 rfl (w_X3_freeze_40_5 l q5) rfl rfl (Nat.le_of_ble_eq_true rfl) ?_
    exact z_sub [0] rfl (w_X3_passYear_40_5_B43 l T6 h)
def f_X11_lookAhead_L13 : Nat → Int32 → Int32 → zS → Option zS
  | 0, _, _, _ => none
  | n + 1, x1, x2, S =>
    if x2 < x1 then
      if x2 < 60 then
        zu (f_X3_passYear_40_5 S) fun T4 =>
        zlet (x2 + 1) fun v5 =>
        (f_X11_lookAhead_L13 n) x1 v5 T4
      else
        some S
    else
      some S
def f_X11_lookAhead (x1 : Int32) (S : zS) : Option zS :=
  zu (f_X3_takeFrom_40_37 S) fun T2 =>
  f_X11_lookAhead_L13 zN x1 0 T2
set_option maxRecDepth 100000 in
theorem w_X11_lookAhead_L13 (l : Launch) {S1 : zS} : ∀ (n : Nat) (x1 : Int32) (x2 : Int32) (S : zS), f_X11_lookAhead_L13 n x1 x2 S = some S1 → WA zLX l RX11 cX11_lookAhead 3 none 5 none S1 13 [(0, .ref 0), (1, .int x1), (2, .int x2)] [] S := by
  intro n
  induction n with
  | zero =>
    intro x1 x2 S h
    exact nomatch h
  | succ n ih =>
    intro x1 x2 S h
    rw [f_X11_lookAhead_L13] at h
    refine z_iload_n (pc := 13) (q := 2) dX11_lookAhead_13 rfl rfl ?_
    refine z_iload_n (pc := 14) (q := 1) dX11_lookAhead_14 rfl rfl ?_
    refine z_icmp_ge (pc := 15) (tgt := 41) dX11_lookAhead_15 (by decide) (fun c1 => ?_) (fun c1 => ?_)
    · have h := ze_some c1 h
      cases h
      exact z_vret dX11_lookAhead_41
    · have h := zt_some c1 h
      refine z_iload_n (pc := 18) (q := 2) dX11_lookAhead_18 rfl rfl ?_
      refine z_bipush (pc := 19) (v := 60) dX11_lookAhead_19 zcb_60 ?_
      refine z_icmp_ge (pc := 21) (tgt := 41) dX11_lookAhead_21 (by decide) (fun c2 => ?_) (fun c2 => ?_)
      · have h := ze_some c2 h
        cases h
        exact z_vret dX11_lookAhead_41
      · have h := zt_some c2 h
        refine z_aload_n (pc := 24) (q := 0) dX11_lookAhead_24 rfl rfl ?_
        refine z_getR (pc := 25) dX11_lookAhead_25 zf_X11_39 gX_0_6 ?_
        refine z_aload_n (pc := 28) (q := 0) dX11_lookAhead_28 rfl rfl ?_
        refine z_getR (pc := 29) dX11_lookAhead_29 zf_X11_25 gX_0_3 ?_
        obtain ⟨T4, q3, h⟩ := zu_some h
        refine z_callVv (pc := 32) (st := []) [.ref 5] dX11_lookAhead_32 zm_X11_226 zM_X3_passYear (by decide) oX_40 rfl (w_X3_passYear_40_5 l q3) rfl rfl (Nat.le_of_ble_eq_true rfl) ?_
        obtain ⟨v5, ev5, h⟩ := zl_some h
        refine z_iinc (pc := 35) (q := 2) (v := v5) (lo' := [(2, .int v5), (0, .ref 0), (1, .int x1)]) dX11_lookAhead_35 rfl (by rw [ev5, zci_1]) (by decide) rfl ?_
        refine z_goto (pc := 38) (tgt := 13) dX11_lookAhead_38 (by decide) ?_
        exact z_sub [1, 2, 0] rfl (ih x1 v5 T4 h)
set_option maxRecDepth 100000 in
theorem w_X11_lookAhead (l : Launch) {x1 : Int32} {S : zS} {S1 : zS} (h : f_X11_lookAhead x1 S = some S1) : zMet zLX l yX11_lookAhead cX11_lookAhead 3 none 5 [.ref 0, .int x1] S none S1 := by
  unfold f_X11_lookAhead at h
  refine zMet.of (by decide +kernel) (Nat.le_of_ble_eq_true rfl) ?_
  show WA zLX l RX11 cX11_lookAhead 3 none 5 none S1 0 [(0, .ref 0), (1, .int x1)] [] S
  refine z_aload_n (pc := 0) (q := 0) dX11_lookAhead_0 rfl rfl ?_
  refine z_getR (pc := 1) dX11_lookAhead_1 zf_X11_39 gX_0_6 ?_
  refine z_aload_n (pc := 4) (q := 0) dX11_lookAhead_4 rfl rfl ?_
  refine z_getR (pc := 5) dX11_lookAhead_5 zf_X11_35 gX_0_5 ?_
  obtain ⟨T2, q1, h⟩ := zu_some h
  refine z_callVv (pc := 8) (st := []) [.ref 37] dX11_lookAhead_8 zm_X11_242 zM_X3_takeFrom (by decide) oX_40 rfl (w_X3_takeFrom_40_37 l q1) rfl rfl (Nat.le_of_ble_eq_true rfl) ?_
  refine z_iconst (pc := 11) (v := 0) dX11_lookAhead_11 zci_0 ?_
  refine z_istore_n (pc := 12) (lo' := [(2, .int 0), (0, .ref 0), (1, .int x1)]) dX11_lookAhead_12 rfl (by decide) rfl ?_
  exact z_sub [1, 2, 0] rfl (w_X11_lookAhead_L13 l zN x1 0 T2 h)
def f_X11_will (x1 : Int32) (x2 : Int32) (S : zS) : Option (Int32 × zS) :=
  zb (f_X11_isTopic x1 S) fun r3 T2 =>
  if r3 = 0 then
    some ((-1000), T2)
  else
    zb (f_X11_isAhead x2 T2) fun r7 T6 =>
    if r7 = 0 then
      some ((-1000), T6)
    else
      zu (f_X11_lookAhead x2 T6) fun T10 =>
      zb (f_X3_livingBits_40 T10) fun r13 T12 =>
      zb (f_X1_standing_13 r13 T12) fun r16 T15 =>
      zb (f_X1_lawOf_13 x1 r16 T15) fun r19 T18 =>
      some (r19, T18)
set_option maxRecDepth 100000 in
theorem w_X11_will (l : Launch) {x1 : Int32} {x2 : Int32} {S : zS} {r : Int32} {S1 : zS} (h : f_X11_will x1 x2 S = some (r, S1)) : zMet zLX l yX11_will cX11_will 3 (some .int) 6 [.ref 0, .int x1, .int x2] S (some (.int r)) S1 := by
  unfold f_X11_will at h
  refine zMet.of (by decide +kernel) (Nat.le_of_ble_eq_true rfl) ?_
  show WA zLX l RX11 cX11_will 3 (some .int) 6 (some (.int r)) S1 0 [(0, .ref 0), (1, .int x1), (2, .int x2)] [] S
  refine z_aload_n (pc := 0) (q := 0) dX11_will_0 rfl rfl ?_
  refine z_iload_n (pc := 1) (q := 1) dX11_will_1 rfl rfl ?_
  obtain ⟨r3, T2, q1, h⟩ := zb_some h
  refine z_callVi (pc := 2) (st := []) [.int x1] dX11_will_2 zm_X11_179 zM_X11_isTopic (by decide) oX_0 rfl (w_X11_isTopic l q1) rfl rfl (Nat.le_of_ble_eq_true rfl) ?_
  refine z_if_eq (pc := 5) (tgt := 16) dX11_will_5 (by decide) (fun c4 => ?_) (fun c4 => ?_)
  · have h := zt_some c4 h
    refine z_sipush (pc := 16) (v := (-1000)) dX11_will_16 zcs_m1000 ?_
    obtain ⟨rfl, rfl⟩ := zr_some h
    exact z_iret dX11_will_19
  · have h := ze_some c4 h
    refine z_aload_n (pc := 8) (q := 0) dX11_will_8 rfl rfl ?_
    refine z_iload_n (pc := 9) (q := 2) dX11_will_9 rfl rfl ?_
    obtain ⟨r7, T6, q5, h⟩ := zb_some h
    refine z_callVi (pc := 10) (st := []) [.int x2] dX11_will_10 zm_X11_236 zM_X11_isAhead (by decide) oX_0 rfl (w_X11_isAhead l q5) rfl rfl (Nat.le_of_ble_eq_true rfl) ?_
    refine z_if_ne (pc := 13) (tgt := 20) dX11_will_13 (by decide) (fun c8 => ?_) (fun c8 => ?_)
    · have h := ze_some c8 h
      refine z_aload_n (pc := 20) (q := 0) dX11_will_20 rfl rfl ?_
      refine z_iload_n (pc := 21) (q := 2) dX11_will_21 rfl rfl ?_
      obtain ⟨T10, q9, h⟩ := zu_some h
      refine z_callVv (pc := 22) (st := []) [.int x2] dX11_will_22 zm_X11_239 zM_X11_lookAhead (by decide) oX_0 rfl (w_X11_lookAhead l q9) rfl rfl (Nat.le_of_ble_eq_true rfl) ?_
      refine z_aload_n (pc := 25) (q := 0) dX11_will_25 rfl rfl ?_
      refine z_getR (pc := 26) dX11_will_26 zf_X11_25 gX_0_3 ?_
      refine z_getR (pc := 29) dX11_will_29 zf_X11_131 gX_5_13 ?_
      refine z_iload_n (pc := 32) (q := 1) dX11_will_32 rfl rfl ?_
      refine z_aload_n (pc := 33) (q := 0) dX11_will_33 rfl rfl ?_
      refine z_getR (pc := 34) dX11_will_34 zf_X11_25 gX_0_3 ?_
      refine z_getR (pc := 37) dX11_will_37 zf_X11_131 gX_5_13 ?_
      refine z_aload_n (pc := 40) (q := 0) dX11_will_40 rfl rfl ?_
      refine z_getR (pc := 41) dX11_will_41 zf_X11_39 gX_0_6 ?_
      obtain ⟨r13, T12, q11, h⟩ := zb_some h
      refine z_callVi (pc := 44) (st := [.ref 13, .int x1, .ref 13]) [] dX11_will_44 zm_X11_165 zM_X3_livingBits (by decide) oX_40 rfl (w_X3_livingBits_40 l q11) rfl rfl (Nat.le_of_ble_eq_true rfl) ?_
      obtain ⟨r16, T15, q14, h⟩ := zb_some h
      refine z_callVi (pc := 47) (st := [.int x1, .ref 13]) [.int r13] dX11_will_47 zm_X11_185 zM_X1_standing (by decide) oX_13 rfl (w_X1_standing_13 l q14) rfl rfl (Nat.le_of_ble_eq_true rfl) ?_
      obtain ⟨r19, T18, q17, h⟩ := zb_some h
      refine z_callVi (pc := 50) (st := []) [.int x1, .int r16] dX11_will_50 zm_X11_182 zM_X1_lawOf (by decide) oX_13 rfl (w_X1_lawOf_13 l q17) rfl rfl (Nat.le_of_ble_eq_true rfl) ?_
      obtain ⟨rfl, rfl⟩ := zr_some h
      exact z_iret dX11_will_53
    · have h := zt_some c8 h
      refine z_sipush (pc := 16) (v := (-1000)) dX11_will_16 zcs_m1000 ?_
      obtain ⟨rfl, rfl⟩ := zr_some h
      exact z_iret dX11_will_19
def f_X11_lapse_L42 : Nat → Int32 → Int32 → Int32 → zS → Option (Int32 × zS)
  | 0, _, _, _, _ => none
  | n + 1, x1, x3, x4, S =>
    if (60 : Int32) < x4 then
      some ((-1), S)
    else
      zu (f_X3_passYear_40_5 S) fun T3 =>
      zb (f_X3_livingBits_40 T3) fun r6 T5 =>
      zb (f_X1_standing_13 r6 T5) fun r9 T8 =>
      zb (f_X1_lawOf_13 x1 r9 T8) fun r12 T11 =>
      if r12 = x3 then
        zlet (x4 + 1) fun v14 =>
        (f_X11_lapse_L42 n) x1 x3 v14 T11
      else
        some (x4, T11)
def f_X11_lapse (x1 : Int32) (S : zS) : Option (Int32 × zS) :=
  zb (f_X11_isTopic x1 S) fun r3 T2 =>
  if r3 = 0 then
    some ((-1), T2)
  else
    zb (f_X11_standingNow T2) fun r7 T6 =>
    zb (f_X1_lawOf_13 x1 r7 T6) fun r10 T9 =>
    zu (f_X3_takeFrom_40_37 T9) fun T12 =>
    f_X11_lapse_L42 zN x1 r10 1 T12
set_option maxRecDepth 100000 in
theorem w_X11_lapse_L42 (l : Launch) {r : Int32} {S1 : zS} : ∀ (n : Nat) (x1 : Int32) (x3 : Int32) (x4 : Int32) (S : zS), f_X11_lapse_L42 n x1 x3 x4 S = some (r, S1) → WA zLX l RX11 cX11_lapse 5 (some .int) 5 (some (.int r)) S1 42 [(0, .ref 0), (1, .int x1), (2, .ref 13), (3, .int x3), (4, .int x4)] [] S := by
  intro n
  induction n with
  | zero =>
    intro x1 x3 x4 S h
    exact nomatch h
  | succ n ih =>
    intro x1 x3 x4 S h
    rw [f_X11_lapse_L42] at h
    refine z_iload (pc := 42) (q := 4) dX11_lapse_42 rfl ?_
    refine z_bipush (pc := 44) (v := 60) dX11_lapse_44 zcb_60 ?_
    refine z_icmp_gt (pc := 46) (tgt := 89) dX11_lapse_46 (by decide) (fun c1 => ?_) (fun c1 => ?_)
    · have h := zt_some c1 h
      refine z_iconst (pc := 89) (v := (-1)) dX11_lapse_89 zci_m1 ?_
      obtain ⟨rfl, rfl⟩ := zr_some h
      exact z_iret dX11_lapse_90
    · have h := ze_some c1 h
      refine z_aload_n (pc := 49) (q := 0) dX11_lapse_49 rfl rfl ?_
      refine z_getR (pc := 50) dX11_lapse_50 zf_X11_39 gX_0_6 ?_
      refine z_aload_n (pc := 53) (q := 0) dX11_lapse_53 rfl rfl ?_
      refine z_getR (pc := 54) dX11_lapse_54 zf_X11_25 gX_0_3 ?_
      obtain ⟨T3, q2, h⟩ := zu_some h
      refine z_callVv (pc := 57) (st := []) [.ref 5] dX11_lapse_57 zm_X11_226 zM_X3_passYear (by decide) oX_40 rfl (w_X3_passYear_40_5 l q2) rfl rfl (Nat.le_of_ble_eq_true rfl) ?_
      refine z_aload_n (pc := 60) (q := 2) dX11_lapse_60 rfl rfl ?_
      refine z_iload_n (pc := 61) (q := 1) dX11_lapse_61 rfl rfl ?_
      refine z_aload_n (pc := 62) (q := 2) dX11_lapse_62 rfl rfl ?_
      refine z_aload_n (pc := 63) (q := 0) dX11_lapse_63 rfl rfl ?_
      refine z_getR (pc := 64) dX11_lapse_64 zf_X11_39 gX_0_6 ?_
      obtain ⟨r6, T5, q4, h⟩ := zb_some h
      refine z_callVi (pc := 67) (st := [.ref 13, .int x1, .ref 13]) [] dX11_lapse_67 zm_X11_165 zM_X3_livingBits (by decide) oX_40 rfl (w_X3_livingBits_40 l q4) rfl rfl (Nat.le_of_ble_eq_true rfl) ?_
      obtain ⟨r9, T8, q7, h⟩ := zb_some h
      refine z_callVi (pc := 70) (st := [.int x1, .ref 13]) [.int r6] dX11_lapse_70 zm_X11_185 zM_X1_standing (by decide) oX_13 rfl (w_X1_standing_13 l q7) rfl rfl (Nat.le_of_ble_eq_true rfl) ?_
      obtain ⟨r12, T11, q10, h⟩ := zb_some h
      refine z_callVi (pc := 73) (st := []) [.int x1, .int r9] dX11_lapse_73 zm_X11_182 zM_X1_lawOf (by decide) oX_13 rfl (w_X1_lawOf_13 l q10) rfl rfl (Nat.le_of_ble_eq_true rfl) ?_
      refine z_iload_n (pc := 76) (q := 3) dX11_lapse_76 rfl rfl ?_
      refine z_icmp_eq (pc := 77) (tgt := 83) dX11_lapse_77 (by decide) (fun c13 => ?_) (fun c13 => ?_)
      · have h := zt_some c13 h
        obtain ⟨v14, ev14, h⟩ := zl_some h
        refine z_iinc (pc := 83) (q := 4) (v := v14) (lo' := [(4, .int v14), (0, .ref 0), (1, .int x1), (2, .ref 13), (3, .int x3)]) dX11_lapse_83 rfl (by rw [ev14, zci_1]) (by decide) rfl ?_
        refine z_goto (pc := 86) (tgt := 42) dX11_lapse_86 (by decide) ?_
        exact z_sub [1, 2, 3, 4, 0] rfl (ih x1 x3 v14 T11 h)
      · have h := ze_some c13 h
        refine z_iload (pc := 80) (q := 4) dX11_lapse_80 rfl ?_
        obtain ⟨rfl, rfl⟩ := zr_some h
        exact z_iret dX11_lapse_82
set_option maxRecDepth 100000 in
theorem w_X11_lapse (l : Launch) {x1 : Int32} {S : zS} {r : Int32} {S1 : zS} (h : f_X11_lapse x1 S = some (r, S1)) : zMet zLX l yX11_lapse cX11_lapse 5 (some .int) 5 [.ref 0, .int x1] S (some (.int r)) S1 := by
  unfold f_X11_lapse at h
  refine zMet.of (by decide +kernel) (Nat.le_of_ble_eq_true rfl) ?_
  show WA zLX l RX11 cX11_lapse 5 (some .int) 5 (some (.int r)) S1 0 [(0, .ref 0), (1, .int x1)] [] S
  refine z_aload_n (pc := 0) (q := 0) dX11_lapse_0 rfl rfl ?_
  refine z_iload_n (pc := 1) (q := 1) dX11_lapse_1 rfl rfl ?_
  obtain ⟨r3, T2, q1, h⟩ := zb_some h
  refine z_callVi (pc := 2) (st := []) [.int x1] dX11_lapse_2 zm_X11_179 zM_X11_isTopic (by decide) oX_0 rfl (w_X11_isTopic l q1) rfl rfl (Nat.le_of_ble_eq_true rfl) ?_
  refine z_if_ne (pc := 5) (tgt := 10) dX11_lapse_5 (by decide) (fun c4 => ?_) (fun c4 => ?_)
  · have h := ze_some c4 h
    refine z_aload_n (pc := 10) (q := 0) dX11_lapse_10 rfl rfl ?_
    refine z_getR (pc := 11) dX11_lapse_11 zf_X11_25 gX_0_3 ?_
    refine z_getR (pc := 14) dX11_lapse_14 zf_X11_131 gX_5_13 ?_
    refine z_astore_n (pc := 17) (lo' := [(2, .ref 13), (0, .ref 0), (1, .int x1)]) dX11_lapse_17 rfl (by decide) rfl ?_
    refine z_aload_n (pc := 18) (q := 0) dX11_lapse_18 rfl rfl ?_
    refine z_iload_n (pc := 19) (q := 2) dX11_lapse_19 rfl rfl ?_
    refine z_aload_n (pc := 20) (q := 1) dX11_lapse_20 rfl rfl ?_
    obtain ⟨r7, T6, q5, h⟩ := zb_some h
    refine z_callVi (pc := 21) (st := [.int x1, .ref 13]) [] dX11_lapse_21 zm_X11_161 zM_X11_standingNow (by decide) oX_0 rfl (w_X11_standingNow l q5) rfl rfl (Nat.le_of_ble_eq_true rfl) ?_
    obtain ⟨r10, T9, q8, h⟩ := zb_some h
    refine z_callVi (pc := 24) (st := []) [.int x1, .int r7] dX11_lapse_24 zm_X11_182 zM_X1_lawOf (by decide) oX_13 rfl (w_X1_lawOf_13 l q8) rfl rfl (Nat.le_of_ble_eq_true rfl) ?_
    refine z_istore_n (pc := 27) (lo' := [(3, .int r10), (2, .ref 13), (0, .ref 0), (1, .int x1)]) dX11_lapse_27 rfl (by decide) rfl ?_
    refine z_aload_n (pc := 28) (q := 2) dX11_lapse_28 rfl rfl ?_
    refine z_getR (pc := 29) dX11_lapse_29 zf_X11_39 gX_0_6 ?_
    refine z_aload_n (pc := 32) (q := 2) dX11_lapse_32 rfl rfl ?_
    refine z_getR (pc := 33) dX11_lapse_33 zf_X11_35 gX_0_5 ?_
    obtain ⟨T12, q11, h⟩ := zu_some h
    refine z_callVv (pc := 36) (st := []) [.ref 37] dX11_lapse_36 zm_X11_242 zM_X3_takeFrom (by decide) oX_40 rfl (w_X3_takeFrom_40_37 l q11) rfl rfl (Nat.le_of_ble_eq_true rfl) ?_
    refine z_iconst (pc := 39) (v := 1) dX11_lapse_39 zci_1 ?_
    refine z_istore (pc := 40) (lo' := [(4, .int 1), (3, .int r10), (2, .ref 13), (0, .ref 0), (1, .int x1)]) dX11_lapse_40 (by decide) rfl ?_
    exact z_sub [3, 4, 2, 1, 0] rfl (w_X11_lapse_L42 l zN x1 r10 1 T12 h)
  · have h := zt_some c4 h
    refine z_iconst (pc := 8) (v := (-1)) dX11_lapse_8 zci_m1 ?_
    obtain ⟨rfl, rfl⟩ := zr_some h
    exact z_iret dX11_lapse_9
def f_X11_dies_L23 : Nat → Int32 → Int32 → zS → Option (Int32 × zS)
  | 0, _, _, _ => none
  | n + 1, x1, x2, S =>
    if (60 : Int32) < x2 then
      some ((-1), S)
    else
      if zin x1 12 then
      if (0 : Int32) < (S.1 41 x1.toNatClampNeg) then
        zu (f_X3_passYear_40_5 S) fun T5 =>
        zlet (x2 + 1) fun v6 =>
        (f_X11_dies_L23 n) x1 v6 T5
      else
        some (x2, S) else none
def f_X11_dies (x1 : Int32) (S : zS) : Option (Int32 × zS) :=
  zb (f_X11_isBill x1 S) fun r3 T2 =>
  if r3 = 0 then
    some ((-1), T2)
  else
    zu (f_X3_takeFrom_40_37 T2) fun T6 =>
    f_X11_dies_L23 zN x1 0 T6
set_option maxRecDepth 100000 in
theorem w_X11_dies_L23 (l : Launch) {r : Int32} {S1 : zS} : ∀ (n : Nat) (x1 : Int32) (x2 : Int32) (S : zS), f_X11_dies_L23 n x1 x2 S = some (r, S1) → WA zLX l RX11 cX11_dies 3 (some .int) 5 (some (.int r)) S1 23 [(0, .ref 0), (1, .int x1), (2, .int x2)] [] S := by
  intro n
  induction n with
  | zero =>
    intro x1 x2 S h
    exact nomatch h
  | succ n ih =>
    intro x1 x2 S h
    rw [f_X11_dies_L23] at h
    refine z_iload_n (pc := 23) (q := 2) dX11_dies_23 rfl rfl ?_
    refine z_bipush (pc := 24) (v := 60) dX11_dies_24 zcb_60 ?_
    refine z_icmp_gt (pc := 26) (tgt := 60) dX11_dies_26 (by decide) (fun c1 => ?_) (fun c1 => ?_)
    · have h := zt_some c1 h
      refine z_iconst (pc := 60) (v := (-1)) dX11_dies_60 zci_m1 ?_
      obtain ⟨rfl, rfl⟩ := zr_some h
      exact z_iret dX11_dies_61
    · have h := ze_some c1 h
      refine z_aload_n (pc := 29) (q := 0) dX11_dies_29 rfl rfl ?_
      refine z_getR (pc := 30) dX11_dies_30 zf_X11_39 gX_0_6 ?_
      refine z_getR (pc := 33) dX11_dies_33 zf_X11_135 gX_40_3 ?_
      refine z_iload_n (pc := 36) (q := 1) dX11_dies_36 rfl rfl ?_
      obtain ⟨c2, h⟩ := zg_some h
      refine z_iald (pc := 37) dX11_dies_37 aX_41 c2 ?_
      refine z_if_gt (pc := 38) (tgt := 43) dX11_dies_38 (by decide) (fun c3 => ?_) (fun c3 => ?_)
      · have h := zt_some c3 h
        refine z_aload_n (pc := 43) (q := 0) dX11_dies_43 rfl rfl ?_
        refine z_getR (pc := 44) dX11_dies_44 zf_X11_39 gX_0_6 ?_
        refine z_aload_n (pc := 47) (q := 0) dX11_dies_47 rfl rfl ?_
        refine z_getR (pc := 48) dX11_dies_48 zf_X11_25 gX_0_3 ?_
        obtain ⟨T5, q4, h⟩ := zu_some h
        refine z_callVv (pc := 51) (st := []) [.ref 5] dX11_dies_51 zm_X11_226 zM_X3_passYear (by decide) oX_40 rfl (w_X3_passYear_40_5 l q4) rfl rfl (Nat.le_of_ble_eq_true rfl) ?_
        obtain ⟨v6, ev6, h⟩ := zl_some h
        refine z_iinc (pc := 54) (q := 2) (v := v6) (lo' := [(2, .int v6), (0, .ref 0), (1, .int x1)]) dX11_dies_54 rfl (by rw [ev6, zci_1]) (by decide) rfl ?_
        refine z_goto (pc := 57) (tgt := 23) dX11_dies_57 (by decide) ?_
        exact z_sub [1, 2, 0] rfl (ih x1 v6 T5 h)
      · have h := ze_some c3 h
        refine z_iload_n (pc := 41) (q := 2) dX11_dies_41 rfl rfl ?_
        obtain ⟨rfl, rfl⟩ := zr_some h
        exact z_iret dX11_dies_42
set_option maxRecDepth 100000 in
theorem w_X11_dies (l : Launch) {x1 : Int32} {S : zS} {r : Int32} {S1 : zS} (h : f_X11_dies x1 S = some (r, S1)) : zMet zLX l yX11_dies cX11_dies 3 (some .int) 5 [.ref 0, .int x1] S (some (.int r)) S1 := by
  unfold f_X11_dies at h
  refine zMet.of (by decide +kernel) (Nat.le_of_ble_eq_true rfl) ?_
  show WA zLX l RX11 cX11_dies 3 (some .int) 5 (some (.int r)) S1 0 [(0, .ref 0), (1, .int x1)] [] S
  refine z_aload_n (pc := 0) (q := 0) dX11_dies_0 rfl rfl ?_
  refine z_iload_n (pc := 1) (q := 1) dX11_dies_1 rfl rfl ?_
  obtain ⟨r3, T2, q1, h⟩ := zb_some h
  refine z_callVi (pc := 2) (st := []) [.int x1] dX11_dies_2 zm_X11_127 zM_X11_isBill (by decide) oX_0 rfl (w_X11_isBill l q1) rfl rfl (Nat.le_of_ble_eq_true rfl) ?_
  refine z_if_ne (pc := 5) (tgt := 10) dX11_dies_5 (by decide) (fun c4 => ?_) (fun c4 => ?_)
  · have h := ze_some c4 h
    refine z_aload_n (pc := 10) (q := 0) dX11_dies_10 rfl rfl ?_
    refine z_getR (pc := 11) dX11_dies_11 zf_X11_39 gX_0_6 ?_
    refine z_aload_n (pc := 14) (q := 0) dX11_dies_14 rfl rfl ?_
    refine z_getR (pc := 15) dX11_dies_15 zf_X11_35 gX_0_5 ?_
    obtain ⟨T6, q5, h⟩ := zu_some h
    refine z_callVv (pc := 18) (st := []) [.ref 37] dX11_dies_18 zm_X11_242 zM_X3_takeFrom (by decide) oX_40 rfl (w_X3_takeFrom_40_37 l q5) rfl rfl (Nat.le_of_ble_eq_true rfl) ?_
    refine z_iconst (pc := 21) (v := 0) dX11_dies_21 zci_0 ?_
    refine z_istore_n (pc := 22) (lo' := [(2, .int 0), (0, .ref 0), (1, .int x1)]) dX11_dies_22 rfl (by decide) rfl ?_
    exact z_sub [1, 2, 0] rfl (w_X11_dies_L23 l zN x1 0 T6 h)
  · have h := zt_some c4 h
    refine z_iconst (pc := 8) (v := (-1)) dX11_dies_8 zci_m1 ?_
    obtain ⟨rfl, rfl⟩ := zr_some h
    exact z_iret dX11_dies_9
def f_X11_living (x1 : Int32) (S : zS) : Option (Int32 × zS) :=
  zb (f_X11_isAhead x1 S) fun r3 T2 =>
  if r3 = 0 then
    some ((-1), T2)
  else
    zu (f_X11_lookAhead x1 T2) fun T6 =>
    zb (f_X3_livingBits_40 T6) fun r9 T8 =>
    some (r9, T8)
set_option maxRecDepth 100000 in
theorem w_X11_living (l : Launch) {x1 : Int32} {S : zS} {r : Int32} {S1 : zS} (h : f_X11_living x1 S = some (r, S1)) : zMet zLX l yX11_living cX11_living 2 (some .int) 6 [.ref 0, .int x1] S (some (.int r)) S1 := by
  unfold f_X11_living at h
  refine zMet.of (by decide +kernel) (Nat.le_of_ble_eq_true rfl) ?_
  show WA zLX l RX11 cX11_living 2 (some .int) 6 (some (.int r)) S1 0 [(0, .ref 0), (1, .int x1)] [] S
  refine z_aload_n (pc := 0) (q := 0) dX11_living_0 rfl rfl ?_
  refine z_iload_n (pc := 1) (q := 1) dX11_living_1 rfl rfl ?_
  obtain ⟨r3, T2, q1, h⟩ := zb_some h
  refine z_callVi (pc := 2) (st := []) [.int x1] dX11_living_2 zm_X11_236 zM_X11_isAhead (by decide) oX_0 rfl (w_X11_isAhead l q1) rfl rfl (Nat.le_of_ble_eq_true rfl) ?_
  refine z_if_ne (pc := 5) (tgt := 10) dX11_living_5 (by decide) (fun c4 => ?_) (fun c4 => ?_)
  · have h := ze_some c4 h
    refine z_aload_n (pc := 10) (q := 0) dX11_living_10 rfl rfl ?_
    refine z_iload_n (pc := 11) (q := 1) dX11_living_11 rfl rfl ?_
    obtain ⟨T6, q5, h⟩ := zu_some h
    refine z_callVv (pc := 12) (st := []) [.int x1] dX11_living_12 zm_X11_239 zM_X11_lookAhead (by decide) oX_0 rfl (w_X11_lookAhead l q5) rfl rfl (Nat.le_of_ble_eq_true rfl) ?_
    refine z_aload_n (pc := 15) (q := 0) dX11_living_15 rfl rfl ?_
    refine z_getR (pc := 16) dX11_living_16 zf_X11_39 gX_0_6 ?_
    obtain ⟨r9, T8, q7, h⟩ := zb_some h
    refine z_callVi (pc := 19) (st := []) [] dX11_living_19 zm_X11_165 zM_X3_livingBits (by decide) oX_40 rfl (w_X3_livingBits_40 l q7) rfl rfl (Nat.le_of_ble_eq_true rfl) ?_
    obtain ⟨rfl, rfl⟩ := zr_some h
    exact z_iret dX11_living_22
  · have h := zt_some c4 h
    refine z_iconst (pc := 8) (v := (-1)) dX11_living_8 zci_m1 ?_
    obtain ⟨rfl, rfl⟩ := zr_some h
    exact z_iret dX11_living_9
def f_X1_isClash_13 (x1 : Int32) (x2 : Int32) (S : zS) : Option (Int32 × zS) :=
  if x1 < 0 then
    some (0, S)
  else
    if x2 < 0 then
      some (0, S)
    else
      if x1 < 12 then
        if x2 < 12 then
          if zin x1 12 then
          if (S.1 18 x1.toNatClampNeg) < 0 then
            if zin x2 12 then
            if (S.1 18 x2.toNatClampNeg) < 0 then
              if zin x1 12 then
              if (S.1 16 x1.toNatClampNeg) < 0 then
                some (0, S)
              else
                if zin x1 12 then
                if zin x2 12 then
                if (S.1 16 x1.toNatClampNeg) = (S.1 16 x2.toNatClampNeg) then
                  if zin x1 12 then
                  if zin x2 12 then
                  if (S.1 17 x1.toNatClampNeg) = (S.1 17 x2.toNatClampNeg) then
                    some (0, S)
                  else
                    some (1, S) else none else none
                else
                  some (0, S) else none else none else none
            else
              some (0, S) else none
          else
            some (0, S) else none
        else
          some (0, S)
      else
        some (0, S)
set_option maxRecDepth 100000 in
theorem w_X1_isClash_13 (l : Launch) {x1 : Int32} {x2 : Int32} {S : zS} {r : Int32} {S1 : zS} (h : f_X1_isClash_13 x1 x2 S = some (r, S1)) : zMet zLX l yX1_isClash cX1_isClash 3 (some .boolean) 1 [.ref 13, .int x1, .int x2] S (some (.int r)) S1 := by
  unfold f_X1_isClash_13 at h
  refine zMet.of (by decide +kernel) (Nat.le_of_ble_eq_true rfl) ?_
  show WA zLX l RX1 cX1_isClash 3 (some .boolean) 1 (some (.int r)) S1 0 [(0, .ref 13), (1, .int x1), (2, .int x2)] [] S
  refine z_iload_n (pc := 0) (q := 1) dX1_isClash_0 rfl rfl ?_
  refine z_if_lt (pc := 1) (tgt := 20) dX1_isClash_1 (by decide) (fun c1 => ?_) (fun c1 => ?_)
  · have h := zt_some c1 h
    refine z_iconst (pc := 20) (v := 0) dX1_isClash_20 zci_0 ?_
    obtain ⟨rfl, rfl⟩ := zr_some h
    exact z_zret dX1_isClash_21 rfl
  · have h := ze_some c1 h
    refine z_iload_n (pc := 4) (q := 2) dX1_isClash_4 rfl rfl ?_
    refine z_if_lt (pc := 5) (tgt := 20) dX1_isClash_5 (by decide) (fun c2 => ?_) (fun c2 => ?_)
    · have h := zt_some c2 h
      refine z_iconst (pc := 20) (v := 0) dX1_isClash_20 zci_0 ?_
      obtain ⟨rfl, rfl⟩ := zr_some h
      exact z_zret dX1_isClash_21 rfl
    · have h := ze_some c2 h
      refine z_iload_n (pc := 8) (q := 1) dX1_isClash_8 rfl rfl ?_
      refine z_bipush (pc := 9) (v := 12) dX1_isClash_9 zcb_12 ?_
      refine z_icmp_ge (pc := 11) (tgt := 20) dX1_isClash_11 (by decide) (fun c3 => ?_) (fun c3 => ?_)
      · have h := ze_some c3 h
        refine z_iconst (pc := 20) (v := 0) dX1_isClash_20 zci_0 ?_
        obtain ⟨rfl, rfl⟩ := zr_some h
        exact z_zret dX1_isClash_21 rfl
      · have h := zt_some c3 h
        refine z_iload_n (pc := 14) (q := 2) dX1_isClash_14 rfl rfl ?_
        refine z_bipush (pc := 15) (v := 12) dX1_isClash_15 zcb_12 ?_
        refine z_icmp_lt (pc := 17) (tgt := 22) dX1_isClash_17 (by decide) (fun c4 => ?_) (fun c4 => ?_)
        · have h := zt_some c4 h
          refine z_aload_n (pc := 22) (q := 0) dX1_isClash_22 rfl rfl ?_
          refine z_getR (pc := 23) dX1_isClash_23 zf_X1_24 gX_13_4 ?_
          refine z_iload_n (pc := 26) (q := 1) dX1_isClash_26 rfl rfl ?_
          obtain ⟨c5, h⟩ := zg_some h
          refine z_iald (pc := 27) dX1_isClash_27 aX_18 c5 ?_
          refine z_if_ge (pc := 28) (tgt := 83) dX1_isClash_28 (by decide) (fun c6 => ?_) (fun c6 => ?_)
          · have h := ze_some c6 h
            refine z_iconst (pc := 83) (v := 0) dX1_isClash_83 zci_0 ?_
            obtain ⟨rfl, rfl⟩ := zr_some h
            exact z_zret dX1_isClash_84 rfl
          · have h := zt_some c6 h
            refine z_aload_n (pc := 31) (q := 0) dX1_isClash_31 rfl rfl ?_
            refine z_getR (pc := 32) dX1_isClash_32 zf_X1_24 gX_13_4 ?_
            refine z_iload_n (pc := 35) (q := 2) dX1_isClash_35 rfl rfl ?_
            obtain ⟨c7, h⟩ := zg_some h
            refine z_iald (pc := 36) dX1_isClash_36 aX_18 c7 ?_
            refine z_if_ge (pc := 37) (tgt := 83) dX1_isClash_37 (by decide) (fun c8 => ?_) (fun c8 => ?_)
            · have h := ze_some c8 h
              refine z_iconst (pc := 83) (v := 0) dX1_isClash_83 zci_0 ?_
              obtain ⟨rfl, rfl⟩ := zr_some h
              exact z_zret dX1_isClash_84 rfl
            · have h := zt_some c8 h
              refine z_aload_n (pc := 40) (q := 0) dX1_isClash_40 rfl rfl ?_
              refine z_getR (pc := 41) dX1_isClash_41 zf_X1_18 gX_13_2 ?_
              refine z_iload_n (pc := 44) (q := 1) dX1_isClash_44 rfl rfl ?_
              obtain ⟨c9, h⟩ := zg_some h
              refine z_iald (pc := 45) dX1_isClash_45 aX_16 c9 ?_
              refine z_if_lt (pc := 46) (tgt := 83) dX1_isClash_46 (by decide) (fun c10 => ?_) (fun c10 => ?_)
              · have h := zt_some c10 h
                refine z_iconst (pc := 83) (v := 0) dX1_isClash_83 zci_0 ?_
                obtain ⟨rfl, rfl⟩ := zr_some h
                exact z_zret dX1_isClash_84 rfl
              · have h := ze_some c10 h
                refine z_aload_n (pc := 49) (q := 0) dX1_isClash_49 rfl rfl ?_
                refine z_getR (pc := 50) dX1_isClash_50 zf_X1_18 gX_13_2 ?_
                refine z_iload_n (pc := 53) (q := 1) dX1_isClash_53 rfl rfl ?_
                obtain ⟨c11, h⟩ := zg_some h
                refine z_iald (pc := 54) dX1_isClash_54 aX_16 c11 ?_
                refine z_aload_n (pc := 55) (q := 0) dX1_isClash_55 rfl rfl ?_
                refine z_getR (pc := 56) dX1_isClash_56 zf_X1_18 gX_13_2 ?_
                refine z_iload_n (pc := 59) (q := 2) dX1_isClash_59 rfl rfl ?_
                obtain ⟨c12, h⟩ := zg_some h
                refine z_iald (pc := 60) dX1_isClash_60 aX_16 c12 ?_
                refine z_icmp_ne (pc := 61) (tgt := 83) dX1_isClash_61 (by decide) (fun c13 => ?_) (fun c13 => ?_)
                · have h := ze_some c13 h
                  refine z_iconst (pc := 83) (v := 0) dX1_isClash_83 zci_0 ?_
                  obtain ⟨rfl, rfl⟩ := zr_some h
                  exact z_zret dX1_isClash_84 rfl
                · have h := zt_some c13 h
                  refine z_aload_n (pc := 64) (q := 0) dX1_isClash_64 rfl rfl ?_
                  refine z_getR (pc := 65) dX1_isClash_65 zf_X1_21 gX_13_3 ?_
                  refine z_iload_n (pc := 68) (q := 1) dX1_isClash_68 rfl rfl ?_
                  obtain ⟨c14, h⟩ := zg_some h
                  refine z_iald (pc := 69) dX1_isClash_69 aX_17 c14 ?_
                  refine z_aload_n (pc := 70) (q := 0) dX1_isClash_70 rfl rfl ?_
                  refine z_getR (pc := 71) dX1_isClash_71 zf_X1_21 gX_13_3 ?_
                  refine z_iload_n (pc := 74) (q := 2) dX1_isClash_74 rfl rfl ?_
                  obtain ⟨c15, h⟩ := zg_some h
                  refine z_iald (pc := 75) dX1_isClash_75 aX_17 c15 ?_
                  refine z_icmp_eq (pc := 76) (tgt := 83) dX1_isClash_76 (by decide) (fun c16 => ?_) (fun c16 => ?_)
                  · have h := zt_some c16 h
                    refine z_iconst (pc := 83) (v := 0) dX1_isClash_83 zci_0 ?_
                    obtain ⟨rfl, rfl⟩ := zr_some h
                    exact z_zret dX1_isClash_84 rfl
                  · have h := ze_some c16 h
                    refine z_iconst (pc := 79) (v := 1) dX1_isClash_79 zci_1 ?_
                    refine z_goto (pc := 80) (tgt := 84) dX1_isClash_80 (by decide) ?_
                    obtain ⟨rfl, rfl⟩ := zr_some h
                    exact z_zret dX1_isClash_84 rfl
        · have h := ze_some c4 h
          refine z_iconst (pc := 20) (v := 0) dX1_isClash_20 zci_0 ?_
          obtain ⟨rfl, rfl⟩ := zr_some h
          exact z_zret dX1_isClash_21 rfl
def f_X1_clashing_13_L15 (K4 : Int32 → Int32 → Int32 → zS → Option (Int32 × zS)) : Nat → Int32 → Int32 → Int32 → Int32 → zS → Option (Int32 × zS)
  | 0, _, _, _, _, _ => none
  | n + 1, x1, x2, x3, x4, S =>
    if x4 < 12 then
      if (((x1 >>> (x3 &&& 31)) &&& (x1 >>> (x4 &&& 31))) &&& 1) = 0 then
        zlet (x4 + 1) fun v3 =>
        (f_X1_clashing_13_L15 K4 n) x1 x2 x3 v3 S
      else
        zb (f_X1_isClash_13 x3 x4 S) fun r5 T4 =>
        if r5 = 0 then
          zlet (x4 + 1) fun v7 =>
          (f_X1_clashing_13_L15 K4 n) x1 x2 x3 v7 T4
        else
          zlet (x2 + 1) fun v7 =>
          zlet (x4 + 1) fun v8 =>
          (f_X1_clashing_13_L15 K4 n) x1 v7 x3 v8 T4
    else
      zlet (x3 + 1) fun v2 =>
      K4 x1 x2 v2 S
def f_X1_clashing_13_L4 : Nat → Int32 → Int32 → Int32 → zS → Option (Int32 × zS)
  | 0, _, _, _, _ => none
  | n + 1, x1, x2, x3, S =>
    if x3 < 12 then
      zlet (x3 + 1) fun v2 =>
      f_X1_clashing_13_L15 (f_X1_clashing_13_L4 n) zN x1 x2 x3 v2 S
    else
      some (x2, S)
def f_X1_clashing_13 (x1 : Int32) (S : zS) : Option (Int32 × zS) :=
  f_X1_clashing_13_L4 zN x1 0 0 S
set_option maxRecDepth 100000 in
theorem w_X1_clashing_13_L15 (l : Launch) {r : Int32} {S1 : zS} (K4 : Int32 → Int32 → Int32 → zS → Option (Int32 × zS)) (hK4 : ∀ (x1 : Int32) (x2 : Int32) (x3 : Int32) (S : zS), K4 x1 x2 x3 S = some (r, S1) → WA zLX l RX1 cX1_clashing 5 (some .int) 2 (some (.int r)) S1 4 [(0, .ref 13), (1, .int x1), (2, .int x2), (3, .int x3)] [] S) : ∀ (n : Nat) (x1 : Int32) (x2 : Int32) (x3 : Int32) (x4 : Int32) (S : zS), f_X1_clashing_13_L15 K4 n x1 x2 x3 x4 S = some (r, S1) → WA zLX l RX1 cX1_clashing 5 (some .int) 2 (some (.int r)) S1 15 [(0, .ref 13), (1, .int x1), (2, .int x2), (3, .int x3), (4, .int x4)] [] S := by
  intro n
  induction n with
  | zero =>
    intro x1 x2 x3 x4 S h
    exact nomatch h
  | succ n ih =>
    intro x1 x2 x3 x4 S h
    rw [f_X1_clashing_13_L15] at h
    refine z_iload (pc := 15) (q := 4) dX1_clashing_15 rfl ?_
    refine z_bipush (pc := 17) (v := 12) dX1_clashing_17 zcb_12 ?_
    refine z_icmp_ge (pc := 19) (tgt := 54) dX1_clashing_19 (by decide) (fun c1 => ?_) (fun c1 => ?_)
    · have h := ze_some c1 h
      obtain ⟨v2, ev2, h⟩ := zl_some h
      refine z_iinc (pc := 54) (q := 3) (v := v2) (lo' := [(3, .int v2), (0, .ref 13), (1, .int x1), (2, .int x2), (4, .int x4)]) dX1_clashing_54 rfl (by rw [ev2, zci_1]) (by decide) rfl ?_
      refine z_goto (pc := 57) (tgt := 4) dX1_clashing_57 (by decide) ?_
      exact z_sub [1, 2, 3, 0] rfl (hK4 x1 x2 v2 S h)
    · have h := zt_some c1 h
      refine z_iload_n (pc := 22) (q := 1) dX1_clashing_22 rfl rfl ?_
      refine z_iload_n (pc := 23) (q := 3) dX1_clashing_23 rfl rfl ?_
      refine z_ishr (pc := 24) dX1_clashing_24 ?_
      refine z_iload_n (pc := 25) (q := 1) dX1_clashing_25 rfl rfl ?_
      refine z_iload (pc := 26) (q := 4) dX1_clashing_26 rfl ?_
      refine z_ishr (pc := 28) dX1_clashing_28 ?_
      refine z_iand (pc := 29) dX1_clashing_29 ?_
      refine z_iconst (pc := 30) (v := 1) dX1_clashing_30 zci_1 ?_
      refine z_iand (pc := 31) dX1_clashing_31 ?_
      refine z_if_eq (pc := 32) (tgt := 48) dX1_clashing_32 (by decide) (fun c2 => ?_) (fun c2 => ?_)
      · have h := zt_some c2 h
        obtain ⟨v3, ev3, h⟩ := zl_some h
        refine z_iinc (pc := 48) (q := 4) (v := v3) (lo' := [(4, .int v3), (0, .ref 13), (1, .int x1), (2, .int x2), (3, .int x3)]) dX1_clashing_48 rfl (by rw [ev3, zci_1]) (by decide) rfl ?_
        refine z_goto (pc := 51) (tgt := 15) dX1_clashing_51 (by decide) ?_
        exact z_sub [1, 2, 3, 4, 0] rfl (ih x1 x2 x3 v3 S h)
      · have h := ze_some c2 h
        refine z_aload_n (pc := 35) (q := 0) dX1_clashing_35 rfl rfl ?_
        refine z_iload_n (pc := 36) (q := 3) dX1_clashing_36 rfl rfl ?_
        refine z_iload (pc := 37) (q := 4) dX1_clashing_37 rfl ?_
        obtain ⟨r5, T4, q3, h⟩ := zb_some h
        refine z_callVi (pc := 39) (st := []) [.int x3, .int x4] dX1_clashing_39 zm_X1_55 zM_X1_isClash (by decide) oX_13 rfl (w_X1_isClash_13 l q3) rfl rfl (Nat.le_of_ble_eq_true rfl) ?_
        refine z_if_eq (pc := 42) (tgt := 48) dX1_clashing_42 (by decide) (fun c6 => ?_) (fun c6 => ?_)
        · have h := zt_some c6 h
          obtain ⟨v7, ev7, h⟩ := zl_some h
          refine z_iinc (pc := 48) (q := 4) (v := v7) (lo' := [(4, .int v7), (0, .ref 13), (1, .int x1), (2, .int x2), (3, .int x3)]) dX1_clashing_48 rfl (by rw [ev7, zci_1]) (by decide) rfl ?_
          refine z_goto (pc := 51) (tgt := 15) dX1_clashing_51 (by decide) ?_
          exact z_sub [1, 2, 3, 4, 0] rfl (ih x1 x2 x3 v7 T4 h)
        · have h := ze_some c6 h
          obtain ⟨v7, ev7, h⟩ := zl_some h
          refine z_iinc (pc := 45) (q := 2) (v := v7) (lo' := [(2, .int v7), (0, .ref 13), (1, .int x1), (3, .int x3), (4, .int x4)]) dX1_clashing_45 rfl (by rw [ev7, zci_1]) (by decide) rfl ?_
          obtain ⟨v8, ev8, h⟩ := zl_some h
          refine z_iinc (pc := 48) (q := 4) (v := v8) (lo' := [(4, .int v8), (2, .int v7), (0, .ref 13), (1, .int x1), (3, .int x3)]) dX1_clashing_48 rfl (by rw [ev8, zci_1]) (by decide) rfl ?_
          refine z_goto (pc := 51) (tgt := 15) dX1_clashing_51 (by decide) ?_
          exact z_sub [2, 3, 1, 4, 0] rfl (ih x1 v7 x3 v8 T4 h)
set_option maxRecDepth 100000 in
theorem w_X1_clashing_13_L4 (l : Launch) {r : Int32} {S1 : zS} : ∀ (n : Nat) (x1 : Int32) (x2 : Int32) (x3 : Int32) (S : zS), f_X1_clashing_13_L4 n x1 x2 x3 S = some (r, S1) → WA zLX l RX1 cX1_clashing 5 (some .int) 2 (some (.int r)) S1 4 [(0, .ref 13), (1, .int x1), (2, .int x2), (3, .int x3)] [] S := by
  intro n
  induction n with
  | zero =>
    intro x1 x2 x3 S h
    exact nomatch h
  | succ n ih =>
    intro x1 x2 x3 S h
    rw [f_X1_clashing_13_L4] at h
    refine z_iload_n (pc := 4) (q := 3) dX1_clashing_4 rfl rfl ?_
    refine z_bipush (pc := 5) (v := 12) dX1_clashing_5 zcb_12 ?_
    refine z_icmp_ge (pc := 7) (tgt := 60) dX1_clashing_7 (by decide) (fun c1 => ?_) (fun c1 => ?_)
    · have h := ze_some c1 h
      refine z_iload_n (pc := 60) (q := 2) dX1_clashing_60 rfl rfl ?_
      obtain ⟨rfl, rfl⟩ := zr_some h
      exact z_iret dX1_clashing_61
    · have h := zt_some c1 h
      refine z_iload_n (pc := 10) (q := 3) dX1_clashing_10 rfl rfl ?_
      refine z_iconst (pc := 11) (v := 1) dX1_clashing_11 zci_1 ?_
      refine z_iadd (pc := 12) dX1_clashing_12 ?_
      obtain ⟨v2, ev2, h⟩ := zl_some h
      refine z_top ev2 ?_
      refine z_istore (pc := 13) (lo' := [(4, .int v2), (0, .ref 13), (1, .int x1), (2, .int x2), (3, .int x3)]) dX1_clashing_13 (by decide) rfl ?_
      exact z_sub [1, 2, 3, 4, 0] rfl (w_X1_clashing_13_L15 l (f_X1_clashing_13_L4 n) ih zN x1 x2 x3 v2 S h)
set_option maxRecDepth 100000 in
theorem w_X1_clashing_13 (l : Launch) {x1 : Int32} {S : zS} {r : Int32} {S1 : zS} (h : f_X1_clashing_13 x1 S = some (r, S1)) : zMet zLX l yX1_clashing cX1_clashing 5 (some .int) 2 [.ref 13, .int x1] S (some (.int r)) S1 := by
  unfold f_X1_clashing_13 at h
  refine zMet.of (by decide +kernel) (Nat.le_of_ble_eq_true rfl) ?_
  show WA zLX l RX1 cX1_clashing 5 (some .int) 2 (some (.int r)) S1 0 [(0, .ref 13), (1, .int x1)] [] S
  refine z_iconst (pc := 0) (v := 0) dX1_clashing_0 zci_0 ?_
  refine z_istore_n (pc := 1) (lo' := [(2, .int 0), (0, .ref 13), (1, .int x1)]) dX1_clashing_1 rfl (by decide) rfl ?_
  refine z_iconst (pc := 2) (v := 0) dX1_clashing_2 zci_0 ?_
  refine z_istore_n (pc := 3) (lo' := [(3, .int 0), (2, .int 0), (0, .ref 13), (1, .int x1)]) dX1_clashing_3 rfl (by decide) rfl ?_
  exact z_sub [2, 3, 1, 0] rfl (w_X1_clashing_13_L4 l zN x1 0 0 S h)
def f_X11_clashes  (S : zS) : Option (Int32 × zS) :=
  zb (f_X11_standingNow S) fun r3 T2 =>
  zb (f_X1_clashing_13 r3 T2) fun r6 T5 =>
  some (r6, T5)
set_option maxRecDepth 100000 in
theorem w_X11_clashes (l : Launch)  {S : zS} {r : Int32} {S1 : zS} (h : f_X11_clashes S = some (r, S1)) : zMet zLX l yX11_clashes cX11_clashes 1 (some .int) 4 [.ref 0] S (some (.int r)) S1 := by
  unfold f_X11_clashes at h
  refine zMet.of (by decide +kernel) (Nat.le_of_ble_eq_true rfl) ?_
  show WA zLX l RX11 cX11_clashes 1 (some .int) 4 (some (.int r)) S1 0 [(0, .ref 0)] [] S
  refine z_aload_n (pc := 0) (q := 0) dX11_clashes_0 rfl rfl ?_
  refine z_getR (pc := 1) dX11_clashes_1 zf_X11_25 gX_0_3 ?_
  refine z_getR (pc := 4) dX11_clashes_4 zf_X11_131 gX_5_13 ?_
  refine z_aload_n (pc := 7) (q := 0) dX11_clashes_7 rfl rfl ?_
  obtain ⟨r3, T2, q1, h⟩ := zb_some h
  refine z_callVi (pc := 8) (st := [.ref 13]) [] dX11_clashes_8 zm_X11_161 zM_X11_standingNow (by decide) oX_0 rfl (w_X11_standingNow l q1) rfl rfl (Nat.le_of_ble_eq_true rfl) ?_
  obtain ⟨r6, T5, q4, h⟩ := zb_some h
  refine z_callVi (pc := 11) (st := []) [.int r3] dX11_clashes_11 zm_X11_245 zM_X1_clashing (by decide) oX_13 rfl (w_X1_clashing_13 l q4) rfl rfl (Nat.le_of_ble_eq_true rfl) ?_
  obtain ⟨rfl, rfl⟩ := zr_some h
  exact z_iret dX11_clashes_14
def f_X11_isClear (x1 : Int32) (S : zS) : Option (Int32 × zS) :=
  zb (f_X1_standing_13 x1 S) fun r3 T2 =>
  zb (f_X1_clashing_13 r3 T2) fun r6 T5 =>
  if r6 = 0 then
    some (1, T5)
  else
    some (0, T5)
set_option maxRecDepth 100000 in
theorem w_X11_isClear (l : Launch) {x1 : Int32} {S : zS} {r : Int32} {S1 : zS} (h : f_X11_isClear x1 S = some (r, S1)) : zMet zLX l yX11_isClear cX11_isClear 2 (some .boolean) 3 [.ref 0, .int x1] S (some (.int r)) S1 := by
  unfold f_X11_isClear at h
  refine zMet.of (by decide +kernel) (Nat.le_of_ble_eq_true rfl) ?_
  show WA zLX l RX11 cX11_isClear 2 (some .boolean) 3 (some (.int r)) S1 0 [(0, .ref 0), (1, .int x1)] [] S
  refine z_aload_n (pc := 0) (q := 0) dX11_isClear_0 rfl rfl ?_
  refine z_getR (pc := 1) dX11_isClear_1 zf_X11_25 gX_0_3 ?_
  refine z_getR (pc := 4) dX11_isClear_4 zf_X11_131 gX_5_13 ?_
  refine z_aload_n (pc := 7) (q := 0) dX11_isClear_7 rfl rfl ?_
  refine z_getR (pc := 8) dX11_isClear_8 zf_X11_25 gX_0_3 ?_
  refine z_getR (pc := 11) dX11_isClear_11 zf_X11_131 gX_5_13 ?_
  refine z_iload_n (pc := 14) (q := 1) dX11_isClear_14 rfl rfl ?_
  obtain ⟨r3, T2, q1, h⟩ := zb_some h
  refine z_callVi (pc := 15) (st := [.ref 13]) [.int x1] dX11_isClear_15 zm_X11_185 zM_X1_standing (by decide) oX_13 rfl (w_X1_standing_13 l q1) rfl rfl (Nat.le_of_ble_eq_true rfl) ?_
  obtain ⟨r6, T5, q4, h⟩ := zb_some h
  refine z_callVi (pc := 18) (st := []) [.int r3] dX11_isClear_18 zm_X11_245 zM_X1_clashing (by decide) oX_13 rfl (w_X1_clashing_13 l q4) rfl rfl (Nat.le_of_ble_eq_true rfl) ?_
  refine z_if_ne (pc := 21) (tgt := 28) dX11_isClear_21 (by decide) (fun c7 => ?_) (fun c7 => ?_)
  · have h := ze_some c7 h
    refine z_iconst (pc := 28) (v := 0) dX11_isClear_28 zci_0 ?_
    obtain ⟨rfl, rfl⟩ := zr_some h
    exact z_zret dX11_isClear_29 rfl
  · have h := zt_some c7 h
    refine z_iconst (pc := 24) (v := 1) dX11_isClear_24 zci_1 ?_
    refine z_goto (pc := 25) (tgt := 29) dX11_isClear_25 (by decide) ?_
    obtain ⟨rfl, rfl⟩ := zr_some h
    exact z_zret dX11_isClear_29 rfl
def f_X11_fewestWeeds_L18 (K10 : Int32 → Int32 → zS → Option (Int32 × zS)) : Nat → Int32 → Int32 → Int32 → zS → Option (Int32 × zS)
  | 0, _, _, _, _ => none
  | n + 1, x1, x2, x3, S =>
    if x1 < x3 then
      zlet (x2 + 1) fun v2 =>
      K10 x1 v2 S
    else
      if (x3 &&& (x1 ^^^ (-1))) = 0 then
        zb (f_J6_bitCount_0f7a4 x3 S) fun r5 T4 =>
        if r5 = x2 then
          zb (f_X11_isClear (x1 &&& (x3 ^^^ (-1))) T4) fun r9 T8 =>
          if r9 = 0 then
            zlet (x3 + 1) fun v11 =>
            (f_X11_fewestWeeds_L18 K10 n) x1 x2 v11 T8
          else
            some (x3, T8)
        else
          zlet (x3 + 1) fun v7 =>
          (f_X11_fewestWeeds_L18 K10 n) x1 x2 v7 T4
      else
        zlet (x3 + 1) fun v3 =>
        (f_X11_fewestWeeds_L18 K10 n) x1 x2 v3 S
def f_X11_fewestWeeds_L10 : Nat → Int32 → Int32 → zS → Option (Int32 × zS)
  | 0, _, _, _ => none
  | n + 1, x1, x2, S =>
    if (12 : Int32) < x2 then
      some (x1, S)
    else
      f_X11_fewestWeeds_L18 (f_X11_fewestWeeds_L10 n) zN x1 x2 0 S
def f_X11_fewestWeeds  (S : zS) : Option (Int32 × zS) :=
  zb (f_X3_livingBits_37 S) fun r3 T2 =>
  f_X11_fewestWeeds_L10 zN r3 0 T2
set_option maxRecDepth 100000 in
theorem w_X11_fewestWeeds_L18 (l : Launch) {r : Int32} {S1 : zS} (K10 : Int32 → Int32 → zS → Option (Int32 × zS)) (hK10 : ∀ (x1 : Int32) (x2 : Int32) (S : zS), K10 x1 x2 S = some (r, S1) → WA zLX l RX11 cX11_fewestWeeds 4 (some .int) 4 (some (.int r)) S1 10 [(0, .ref 0), (1, .int x1), (2, .int x2)] [] S) : ∀ (n : Nat) (x1 : Int32) (x2 : Int32) (x3 : Int32) (S : zS), f_X11_fewestWeeds_L18 K10 n x1 x2 x3 S = some (r, S1) → WA zLX l RX11 cX11_fewestWeeds 4 (some .int) 4 (some (.int r)) S1 18 [(0, .ref 0), (1, .int x1), (2, .int x2), (3, .int x3)] [] S := by
  intro n
  induction n with
  | zero =>
    intro x1 x2 x3 S h
    exact nomatch h
  | succ n ih =>
    intro x1 x2 x3 S h
    rw [f_X11_fewestWeeds_L18] at h
    refine z_iload_n (pc := 18) (q := 3) dX11_fewestWeeds_18 rfl rfl ?_
    refine z_iload_n (pc := 19) (q := 1) dX11_fewestWeeds_19 rfl rfl ?_
    refine z_icmp_gt (pc := 20) (tgt := 59) dX11_fewestWeeds_20 (by decide) (fun c1 => ?_) (fun c1 => ?_)
    · have h := zt_some c1 h
      obtain ⟨v2, ev2, h⟩ := zl_some h
      refine z_iinc (pc := 59) (q := 2) (v := v2) (lo' := [(2, .int v2), (0, .ref 0), (1, .int x1), (3, .int x3)]) dX11_fewestWeeds_59 rfl (by rw [ev2, zci_1]) (by decide) rfl ?_
      refine z_goto (pc := 62) (tgt := 10) dX11_fewestWeeds_62 (by decide) ?_
      exact z_sub [1, 2, 0] rfl (hK10 x1 v2 S h)
    · have h := ze_some c1 h
      refine z_iload_n (pc := 23) (q := 3) dX11_fewestWeeds_23 rfl rfl ?_
      refine z_iload_n (pc := 24) (q := 1) dX11_fewestWeeds_24 rfl rfl ?_
      refine z_iconst (pc := 25) (v := (-1)) dX11_fewestWeeds_25 zci_m1 ?_
      refine z_ixor (pc := 26) dX11_fewestWeeds_26 ?_
      refine z_iand (pc := 27) dX11_fewestWeeds_27 ?_
      refine z_if_ne (pc := 28) (tgt := 53) dX11_fewestWeeds_28 (by decide) (fun c2 => ?_) (fun c2 => ?_)
      · have h := ze_some c2 h
        obtain ⟨v3, ev3, h⟩ := zl_some h
        refine z_iinc (pc := 53) (q := 3) (v := v3) (lo' := [(3, .int v3), (0, .ref 0), (1, .int x1), (2, .int x2)]) dX11_fewestWeeds_53 rfl (by rw [ev3, zci_1]) (by decide) rfl ?_
        refine z_goto (pc := 56) (tgt := 18) dX11_fewestWeeds_56 (by decide) ?_
        exact z_sub [1, 2, 3, 0] rfl (ih x1 x2 v3 S h)
      · have h := zt_some c2 h
        refine z_iload_n (pc := 31) (q := 3) dX11_fewestWeeds_31 rfl rfl ?_
        obtain ⟨r5, T4, q3, h⟩ := zb_some h
        refine z_callSi (pc := 32) (st := []) [.int x3] dX11_fewestWeeds_32 zm_X11_218 zM_J6_bitCount_0f7a4 (by decide) (w_J6_bitCount_0f7a4 l q3) rfl rfl (Nat.le_of_ble_eq_true rfl) ?_
        refine z_iload_n (pc := 35) (q := 2) dX11_fewestWeeds_35 rfl rfl ?_
        refine z_icmp_ne (pc := 36) (tgt := 53) dX11_fewestWeeds_36 (by decide) (fun c6 => ?_) (fun c6 => ?_)
        · have h := ze_some c6 h
          obtain ⟨v7, ev7, h⟩ := zl_some h
          refine z_iinc (pc := 53) (q := 3) (v := v7) (lo' := [(3, .int v7), (0, .ref 0), (1, .int x1), (2, .int x2)]) dX11_fewestWeeds_53 rfl (by rw [ev7, zci_1]) (by decide) rfl ?_
          refine z_goto (pc := 56) (tgt := 18) dX11_fewestWeeds_56 (by decide) ?_
          exact z_sub [1, 2, 3, 0] rfl (ih x1 x2 v7 T4 h)
        · have h := zt_some c6 h
          refine z_aload_n (pc := 39) (q := 0) dX11_fewestWeeds_39 rfl rfl ?_
          refine z_iload_n (pc := 40) (q := 1) dX11_fewestWeeds_40 rfl rfl ?_
          refine z_iload_n (pc := 41) (q := 3) dX11_fewestWeeds_41 rfl rfl ?_
          refine z_iconst (pc := 42) (v := (-1)) dX11_fewestWeeds_42 zci_m1 ?_
          refine z_ixor (pc := 43) dX11_fewestWeeds_43 ?_
          refine z_iand (pc := 44) dX11_fewestWeeds_44 ?_
          obtain ⟨r9, T8, q7, h⟩ := zb_some h
          refine z_callVi (pc := 45) (st := []) [.int (x1 &&& (x3 ^^^ (-1)))] dX11_fewestWeeds_45 zm_X11_251 zM_X11_isClear (by decide) oX_0 rfl (w_X11_isClear l q7) rfl rfl (Nat.le_of_ble_eq_true rfl) ?_
          refine z_if_eq (pc := 48) (tgt := 53) dX11_fewestWeeds_48 (by decide) (fun c10 => ?_) (fun c10 => ?_)
          · have h := zt_some c10 h
            obtain ⟨v11, ev11, h⟩ := zl_some h
            refine z_iinc (pc := 53) (q := 3) (v := v11) (lo' := [(3, .int v11), (0, .ref 0), (1, .int x1), (2, .int x2)]) dX11_fewestWeeds_53 rfl (by rw [ev11, zci_1]) (by decide) rfl ?_
            refine z_goto (pc := 56) (tgt := 18) dX11_fewestWeeds_56 (by decide) ?_
            exact z_sub [1, 2, 3, 0] rfl (ih x1 x2 v11 T8 h)
          · have h := ze_some c10 h
            refine z_iload_n (pc := 51) (q := 3) dX11_fewestWeeds_51 rfl rfl ?_
            obtain ⟨rfl, rfl⟩ := zr_some h
            exact z_iret dX11_fewestWeeds_52
set_option maxRecDepth 100000 in
theorem w_X11_fewestWeeds_L10 (l : Launch) {r : Int32} {S1 : zS} : ∀ (n : Nat) (x1 : Int32) (x2 : Int32) (S : zS), f_X11_fewestWeeds_L10 n x1 x2 S = some (r, S1) → WA zLX l RX11 cX11_fewestWeeds 4 (some .int) 4 (some (.int r)) S1 10 [(0, .ref 0), (1, .int x1), (2, .int x2)] [] S := by
  intro n
  induction n with
  | zero =>
    intro x1 x2 S h
    exact nomatch h
  | succ n ih =>
    intro x1 x2 S h
    rw [f_X11_fewestWeeds_L10] at h
    refine z_iload_n (pc := 10) (q := 2) dX11_fewestWeeds_10 rfl rfl ?_
    refine z_bipush (pc := 11) (v := 12) dX11_fewestWeeds_11 zcb_12 ?_
    refine z_icmp_gt (pc := 13) (tgt := 65) dX11_fewestWeeds_13 (by decide) (fun c1 => ?_) (fun c1 => ?_)
    · have h := zt_some c1 h
      refine z_iload_n (pc := 65) (q := 1) dX11_fewestWeeds_65 rfl rfl ?_
      obtain ⟨rfl, rfl⟩ := zr_some h
      exact z_iret dX11_fewestWeeds_66
    · have h := ze_some c1 h
      refine z_iconst (pc := 16) (v := 0) dX11_fewestWeeds_16 zci_0 ?_
      refine z_istore_n (pc := 17) (lo' := [(3, .int 0), (0, .ref 0), (1, .int x1), (2, .int x2)]) dX11_fewestWeeds_17 rfl (by decide) rfl ?_
      exact z_sub [1, 2, 3, 0] rfl (w_X11_fewestWeeds_L18 l (f_X11_fewestWeeds_L10 n) ih zN x1 x2 0 S h)
set_option maxRecDepth 100000 in
theorem w_X11_fewestWeeds (l : Launch)  {S : zS} {r : Int32} {S1 : zS} (h : f_X11_fewestWeeds S = some (r, S1)) : zMet zLX l yX11_fewestWeeds cX11_fewestWeeds 4 (some .int) 4 [.ref 0] S (some (.int r)) S1 := by
  unfold f_X11_fewestWeeds at h
  refine zMet.of (by decide +kernel) (Nat.le_of_ble_eq_true rfl) ?_
  show WA zLX l RX11 cX11_fewestWeeds 4 (some .int) 4 (some (.int r)) S1 0 [(0, .ref 0)] [] S
  refine z_aload_n (pc := 0) (q := 0) dX11_fewestWeeds_0 rfl rfl ?_
  refine z_getR (pc := 1) dX11_fewestWeeds_1 zf_X11_35 gX_0_5 ?_
  obtain ⟨r3, T2, q1, h⟩ := zb_some h
  refine z_callVi (pc := 4) (st := []) [] dX11_fewestWeeds_4 zm_X11_165 zM_X3_livingBits (by decide) oX_37 rfl (w_X3_livingBits_37 l q1) rfl rfl (Nat.le_of_ble_eq_true rfl) ?_
  refine z_istore_n (pc := 7) (lo' := [(1, .int r3), (0, .ref 0)]) dX11_fewestWeeds_7 rfl (by decide) rfl ?_
  refine z_iconst (pc := 8) (v := 0) dX11_fewestWeeds_8 zci_0 ?_
  refine z_istore_n (pc := 9) (lo' := [(2, .int 0), (1, .int r3), (0, .ref 0)]) dX11_fewestWeeds_9 rfl (by decide) rfl ?_
  exact z_sub [2, 1, 0] rfl (w_X11_fewestWeeds_L10 l zN r3 0 T2 h)
def f_X11_weed (x1 : Int32) (S : zS) : Option (Int32 × zS) :=
  if x1 < 0 then
    some ((-1), S)
  else
    if (1 : Int32) < x1 then
      some ((-1), S)
    else
      zb (f_X11_fewestWeeds S) fun r5 T4 =>
      if x1 = 0 then
        zb (f_J6_bitCount_0f7a4 r5 T4) fun r9 T8 =>
        some (r9, T8)
      else
        some (r5, T4)
set_option maxRecDepth 100000 in
theorem w_X11_weed (l : Launch) {x1 : Int32} {S : zS} {r : Int32} {S1 : zS} (h : f_X11_weed x1 S = some (r, S1)) : zMet zLX l yX11_weed cX11_weed 3 (some .int) 5 [.ref 0, .int x1] S (some (.int r)) S1 := by
  unfold f_X11_weed at h
  refine zMet.of (by decide +kernel) (Nat.le_of_ble_eq_true rfl) ?_
  show WA zLX l RX11 cX11_weed 3 (some .int) 5 (some (.int r)) S1 0 [(0, .ref 0), (1, .int x1)] [] S
  refine z_iload_n (pc := 0) (q := 1) dX11_weed_0 rfl rfl ?_
  refine z_if_lt (pc := 1) (tgt := 9) dX11_weed_1 (by decide) (fun c1 => ?_) (fun c1 => ?_)
  · have h := zt_some c1 h
    refine z_iconst (pc := 9) (v := (-1)) dX11_weed_9 zci_m1 ?_
    obtain ⟨rfl, rfl⟩ := zr_some h
    exact z_iret dX11_weed_10
  · have h := ze_some c1 h
    refine z_iload_n (pc := 4) (q := 1) dX11_weed_4 rfl rfl ?_
    refine z_iconst (pc := 5) (v := 1) dX11_weed_5 zci_1 ?_
    refine z_icmp_le (pc := 6) (tgt := 11) dX11_weed_6 (by decide) (fun c2 => ?_) (fun c2 => ?_)
    · have h := ze_some c2 h
      refine z_aload_n (pc := 11) (q := 0) dX11_weed_11 rfl rfl ?_
      obtain ⟨r5, T4, q3, h⟩ := zb_some h
      refine z_callVi (pc := 12) (st := []) [] dX11_weed_12 zm_X11_248 zM_X11_fewestWeeds (by decide) oX_0 rfl (w_X11_fewestWeeds l q3) rfl rfl (Nat.le_of_ble_eq_true rfl) ?_
      refine z_istore_n (pc := 15) (lo' := [(2, .int r5), (0, .ref 0), (1, .int x1)]) dX11_weed_15 rfl (by decide) rfl ?_
      refine z_iload_n (pc := 16) (q := 2) dX11_weed_16 rfl rfl ?_
      refine z_if_ne (pc := 17) (tgt := 27) dX11_weed_17 (by decide) (fun c6 => ?_) (fun c6 => ?_)
      · have h := ze_some c6 h
        refine z_iload_n (pc := 27) (q := 0) dX11_weed_27 rfl rfl ?_
        obtain ⟨rfl, rfl⟩ := zr_some h
        exact z_iret dX11_weed_28
      · have h := zt_some c6 h
        refine z_iload_n (pc := 20) (q := 0) dX11_weed_20 rfl rfl ?_
        obtain ⟨r9, T8, q7, h⟩ := zb_some h
        refine z_callSi (pc := 21) (st := []) [.int r5] dX11_weed_21 zm_X11_218 zM_J6_bitCount_0f7a4 (by decide) (w_J6_bitCount_0f7a4 l q7) rfl rfl (Nat.le_of_ble_eq_true rfl) ?_
        refine z_goto (pc := 24) (tgt := 28) dX11_weed_24 (by decide) ?_
        obtain ⟨rfl, rfl⟩ := zr_some h
        exact z_iret dX11_weed_28
    · have h := zt_some c2 h
      refine z_iconst (pc := 9) (v := (-1)) dX11_weed_9 zci_m1 ?_
      obtain ⟨rfl, rfl⟩ := zr_some h
      exact z_iret dX11_weed_10
def f_X11_places_L49 : Nat → Int32 → Int32 → Int32 → Int32 → Int32 → zS → Option (Int32 × zS)
  | 0, _, _, _, _, _, _ => none
  | n + 1, x2, x3, x4, x5, x6, S =>
    if x6 < (S.1 5 0) then
      zb (f_X1_lawWithNew_13 x2 x4 x6 x3 S) fun r4 T3 =>
      if r4 = x3 then
        zlet (x5 ||| (1 <<< (x6 &&& 31))) fun v6 =>
        zlet (x6 + 1) fun v7 =>
        (f_X11_places_L49 n) x2 x3 x4 v6 v7 T3
      else
        zlet (x6 + 1) fun v6 =>
        (f_X11_places_L49 n) x2 x3 x4 x5 v6 T3
    else
      some (x5, S)
def f_X11_places (x1 : Int32) (x2 : Int32) (x3 : Int32) (S : zS) : Option (Int32 × zS) :=
  if (S.1 37 0) < 12 then
    zb (f_X11_isPlant x1 S) fun r4 T3 =>
    if r4 = 0 then
      some ((-1), T3)
    else
      zb (f_X11_isTopic x2 T3) fun r8 T7 =>
      if r8 = 0 then
        some ((-1), T7)
      else
        zb (f_X11_isSaying x3 T7) fun r12 T11 =>
        if r12 = 0 then
          some ((-1), T11)
        else
          zb (f_X11_standingNow T11) fun r16 T15 =>
          f_X11_places_L49 zN x2 x3 r16 0 0 T15
  else
    some ((-1), S)
set_option maxRecDepth 100000 in
theorem w_X11_places_L49 (l : Launch) {r : Int32} {S1 : zS} : ∀ (n : Nat) (x2 : Int32) (x3 : Int32) (x4 : Int32) (x5 : Int32) (x6 : Int32) (S : zS), f_X11_places_L49 n x2 x3 x4 x5 x6 S = some (r, S1) → WA zLX l RX11 cX11_places 7 (some .int) 4 (some (.int r)) S1 49 [(0, .ref 0), (2, .int x2), (3, .int x3), (4, .int x4), (5, .int x5), (6, .int x6)] [] S := by
  intro n
  induction n with
  | zero =>
    intro x2 x3 x4 x5 x6 S h
    exact nomatch h
  | succ n ih =>
    intro x2 x3 x4 x5 x6 S h
    rw [f_X11_places_L49] at h
    refine z_iload (pc := 49) (q := 5) dX11_places_49 rfl ?_
    refine z_aload_n (pc := 51) (q := 0) dX11_places_51 rfl rfl ?_
    refine z_getR (pc := 52) dX11_places_52 zf_X11_25 gX_0_3 ?_
    refine z_getI (pc := 55) dX11_places_55 zf_X11_254 gX_5_0 ?_
    refine z_icmp_ge (pc := 58) (tgt := 96) dX11_places_58 (by decide) (fun c1 => ?_) (fun c1 => ?_)
    · have h := ze_some c1 h
      refine z_iload (pc := 96) (q := 4) dX11_places_96 rfl ?_
      obtain ⟨rfl, rfl⟩ := zr_some h
      exact z_iret dX11_places_98
    · have h := zt_some c1 h
      refine z_aload_n (pc := 61) (q := 0) dX11_places_61 rfl rfl ?_
      refine z_getR (pc := 62) dX11_places_62 zf_X11_25 gX_0_3 ?_
      refine z_getR (pc := 65) dX11_places_65 zf_X11_131 gX_5_13 ?_
      refine z_iload_n (pc := 68) (q := 1) dX11_places_68 rfl rfl ?_
      refine z_iload (pc := 69) (q := 3) dX11_places_69 rfl ?_
      refine z_iload (pc := 71) (q := 5) dX11_places_71 rfl ?_
      refine z_iload_n (pc := 73) (q := 2) dX11_places_73 rfl rfl ?_
      obtain ⟨r4, T3, q2, h⟩ := zb_some h
      refine z_callVi (pc := 74) (st := []) [.int x2, .int x4, .int x6, .int x3] dX11_places_74 zm_X11_257 zM_X1_lawWithNew (by decide) oX_13 rfl (w_X1_lawWithNew_13 l q2) rfl rfl (Nat.le_of_ble_eq_true rfl) ?_
      refine z_iload_n (pc := 77) (q := 2) dX11_places_77 rfl rfl ?_
      refine z_icmp_ne (pc := 78) (tgt := 90) dX11_places_78 (by decide) (fun c5 => ?_) (fun c5 => ?_)
      · have h := ze_some c5 h
        obtain ⟨v6, ev6, h⟩ := zl_some h
        refine z_iinc (pc := 90) (q := 5) (v := v6) (lo' := [(6, .int v6), (0, .ref 0), (2, .int x2), (3, .int x3), (4, .int x4), (5, .int x5)]) dX11_places_90 rfl (by rw [ev6, zci_1]) (by decide) rfl ?_
        refine z_goto (pc := 93) (tgt := 49) dX11_places_93 (by decide) ?_
        exact z_sub [1, 2, 3, 4, 5, 0] rfl (ih x2 x3 x4 x5 v6 T3 h)
      · have h := zt_some c5 h
        refine z_iload (pc := 81) (q := 4) dX11_places_81 rfl ?_
        refine z_iconst (pc := 83) (v := 1) dX11_places_83 zci_1 ?_
        refine z_iload (pc := 84) (q := 5) dX11_places_84 rfl ?_
        refine z_ishl (pc := 86) dX11_places_86 ?_
        refine z_ior (pc := 87) dX11_places_87 ?_
        obtain ⟨v6, ev6, h⟩ := zl_some h
        refine z_top ev6 ?_
        refine z_istore (pc := 88) (lo' := [(5, .int v6), (0, .ref 0), (2, .int x2), (3, .int x3), (4, .int x4), (6, .int x6)]) dX11_places_88 (by decide) rfl ?_
        obtain ⟨v7, ev7, h⟩ := zl_some h
        refine z_iinc (pc := 90) (q := 5) (v := v7) (lo' := [(6, .int v7), (5, .int v6), (0, .ref 0), (2, .int x2), (3, .int x3), (4, .int x4)]) dX11_places_90 rfl (by rw [ev7, zci_1]) (by decide) rfl ?_
        refine z_goto (pc := 93) (tgt := 49) dX11_places_93 (by decide) ?_
        exact z_sub [2, 3, 4, 5, 1, 0] rfl (ih x2 x3 x4 v6 v7 T3 h)
set_option maxRecDepth 100000 in
theorem w_X11_places (l : Launch) {x1 : Int32} {x2 : Int32} {x3 : Int32} {S : zS} {r : Int32} {S1 : zS} (h : f_X11_places x1 x2 x3 S = some (r, S1)) : zMet zLX l yX11_places cX11_places 7 (some .int) 4 [.ref 0, .int x1, .int x2, .int x3] S (some (.int r)) S1 := by
  unfold f_X11_places at h
  refine zMet.of (by decide +kernel) (Nat.le_of_ble_eq_true rfl) ?_
  show WA zLX l RX11 cX11_places 7 (some .int) 4 (some (.int r)) S1 0 [(0, .ref 0), (1, .int x1), (2, .int x2), (3, .int x3)] [] S
  refine z_aload_n (pc := 0) (q := 0) dX11_places_0 rfl rfl ?_
  refine z_getR (pc := 1) dX11_places_1 zf_X11_35 gX_0_5 ?_
  refine z_getI (pc := 4) dX11_places_4 zf_X11_118 gX_37_0 ?_
  refine z_bipush (pc := 7) (v := 12) dX11_places_7 zcb_12 ?_
  refine z_icmp_ge (pc := 9) (tgt := 35) dX11_places_9 (by decide) (fun c1 => ?_) (fun c1 => ?_)
  · have h := ze_some c1 h
    refine z_iconst (pc := 35) (v := (-1)) dX11_places_35 zci_m1 ?_
    obtain ⟨rfl, rfl⟩ := zr_some h
    exact z_iret dX11_places_36
  · have h := zt_some c1 h
    refine z_aload_n (pc := 12) (q := 0) dX11_places_12 rfl rfl ?_
    refine z_iload_n (pc := 13) (q := 1) dX11_places_13 rfl rfl ?_
    obtain ⟨r4, T3, q2, h⟩ := zb_some h
    refine z_callVi (pc := 14) (st := []) [.int x1] dX11_places_14 zm_X11_195 zM_X11_isPlant (by decide) oX_0 rfl (w_X11_isPlant l q2) rfl rfl (Nat.le_of_ble_eq_true rfl) ?_
    refine z_if_eq (pc := 17) (tgt := 35) dX11_places_17 (by decide) (fun c5 => ?_) (fun c5 => ?_)
    · have h := zt_some c5 h
      refine z_iconst (pc := 35) (v := (-1)) dX11_places_35 zci_m1 ?_
      obtain ⟨rfl, rfl⟩ := zr_some h
      exact z_iret dX11_places_36
    · have h := ze_some c5 h
      refine z_aload_n (pc := 20) (q := 0) dX11_places_20 rfl rfl ?_
      refine z_iload_n (pc := 21) (q := 2) dX11_places_21 rfl rfl ?_
      obtain ⟨r8, T7, q6, h⟩ := zb_some h
      refine z_callVi (pc := 22) (st := []) [.int x2] dX11_places_22 zm_X11_179 zM_X11_isTopic (by decide) oX_0 rfl (w_X11_isTopic l q6) rfl rfl (Nat.le_of_ble_eq_true rfl) ?_
      refine z_if_eq (pc := 25) (tgt := 35) dX11_places_25 (by decide) (fun c9 => ?_) (fun c9 => ?_)
      · have h := zt_some c9 h
        refine z_iconst (pc := 35) (v := (-1)) dX11_places_35 zci_m1 ?_
        obtain ⟨rfl, rfl⟩ := zr_some h
        exact z_iret dX11_places_36
      · have h := ze_some c9 h
        refine z_iload_n (pc := 28) (q := 3) dX11_places_28 rfl rfl ?_
        obtain ⟨r12, T11, q10, h⟩ := zb_some h
        refine z_callSi (pc := 29) (st := []) [.int x3] dX11_places_29 zm_X11_188 zM_X11_isSaying (by decide) (w_X11_isSaying l q10) rfl rfl (Nat.le_of_ble_eq_true rfl) ?_
        refine z_if_ne (pc := 32) (tgt := 37) dX11_places_32 (by decide) (fun c13 => ?_) (fun c13 => ?_)
        · have h := ze_some c13 h
          refine z_aload_n (pc := 37) (q := 0) dX11_places_37 rfl rfl ?_
          obtain ⟨r16, T15, q14, h⟩ := zb_some h
          refine z_callVi (pc := 38) (st := []) [] dX11_places_38 zm_X11_161 zM_X11_standingNow (by decide) oX_0 rfl (w_X11_standingNow l q14) rfl rfl (Nat.le_of_ble_eq_true rfl) ?_
          refine z_istore (pc := 41) (lo' := [(4, .int r16), (0, .ref 0), (1, .int x1), (2, .int x2), (3, .int x3)]) dX11_places_41 (by decide) rfl ?_
          refine z_iconst (pc := 43) (v := 0) dX11_places_43 zci_0 ?_
          refine z_istore (pc := 44) (lo' := [(5, .int 0), (4, .int r16), (0, .ref 0), (1, .int x1), (2, .int x2), (3, .int x3)]) dX11_places_44 (by decide) rfl ?_
          refine z_iconst (pc := 46) (v := 0) dX11_places_46 zci_0 ?_
          refine z_istore (pc := 47) (lo' := [(6, .int 0), (5, .int 0), (4, .int r16), (0, .ref 0), (1, .int x1), (2, .int x2), (3, .int x3)]) dX11_places_47 (by decide) rfl ?_
          exact z_sub [3, 5, 6, 2, 1, 0] rfl (w_X11_places_L49 l zN x2 x3 r16 0 0 T15 h)
        · have h := zt_some c13 h
          refine z_iconst (pc := 35) (v := (-1)) dX11_places_35 zci_m1 ?_
          obtain ⟨rfl, rfl⟩ := zr_some h
          exact z_iret dX11_places_36
def f_X11_gaps_L22 : Nat → Int32 → Int32 → Int32 → zS → Option (Int32 × zS)
  | 0, _, _, _, _ => none
  | n + 1, x1, x2, x3, S =>
    if x3 < (S.1 5 0) then
      zb (f_X1_onStake_13 x3 x2 S) fun r4 T3 =>
      if r4 = 0 then
        zlet (x3 + 1) fun v6 =>
        (f_X11_gaps_L22 n) x1 x2 v6 T3
      else
        zlet (x1 &&& ((1 <<< (x3 &&& 31)) ^^^ (-1))) fun v6 =>
        zlet (x3 + 1) fun v7 =>
        (f_X11_gaps_L22 n) v6 x2 v7 T3
    else
      some (x1, S)
def f_X11_gaps  (S : zS) : Option (Int32 × zS) :=
  zlet ((1 <<< ((S.1 5 0) &&& 31)) - 1) fun v1 =>
  zb (f_X3_livingBits_37 S) fun r4 T3 =>
  f_X11_gaps_L22 zN v1 r4 0 T3
set_option maxRecDepth 100000 in
theorem w_X11_gaps_L22 (l : Launch) {r : Int32} {S1 : zS} : ∀ (n : Nat) (x1 : Int32) (x2 : Int32) (x3 : Int32) (S : zS), f_X11_gaps_L22 n x1 x2 x3 S = some (r, S1) → WA zLX l RX11 cX11_gaps 4 (some .int) 2 (some (.int r)) S1 22 [(0, .ref 0), (1, .int x1), (2, .int x2), (3, .int x3)] [] S := by
  intro n
  induction n with
  | zero =>
    intro x1 x2 x3 S h
    exact nomatch h
  | succ n ih =>
    intro x1 x2 x3 S h
    rw [f_X11_gaps_L22] at h
    refine z_iload_n (pc := 22) (q := 3) dX11_gaps_22 rfl rfl ?_
    refine z_aload_n (pc := 23) (q := 0) dX11_gaps_23 rfl rfl ?_
    refine z_getR (pc := 24) dX11_gaps_24 zf_X11_25 gX_0_3 ?_
    refine z_getI (pc := 27) dX11_gaps_27 zf_X11_254 gX_5_0 ?_
    refine z_icmp_ge (pc := 30) (tgt := 62) dX11_gaps_30 (by decide) (fun c1 => ?_) (fun c1 => ?_)
    · have h := ze_some c1 h
      refine z_iload_n (pc := 62) (q := 1) dX11_gaps_62 rfl rfl ?_
      obtain ⟨rfl, rfl⟩ := zr_some h
      exact z_iret dX11_gaps_63
    · have h := zt_some c1 h
      refine z_aload_n (pc := 33) (q := 0) dX11_gaps_33 rfl rfl ?_
      refine z_getR (pc := 34) dX11_gaps_34 zf_X11_25 gX_0_3 ?_
      refine z_getR (pc := 37) dX11_gaps_37 zf_X11_131 gX_5_13 ?_
      refine z_iload_n (pc := 40) (q := 3) dX11_gaps_40 rfl rfl ?_
      refine z_iload_n (pc := 41) (q := 2) dX11_gaps_41 rfl rfl ?_
      obtain ⟨r4, T3, q2, h⟩ := zb_some h
      refine z_callVi (pc := 42) (st := []) [.int x3, .int x2] dX11_gaps_42 zm_X11_175 zM_X1_onStake (by decide) oX_13 rfl (w_X1_onStake_13 l q2) rfl rfl (Nat.le_of_ble_eq_true rfl) ?_
      refine z_if_eq (pc := 45) (tgt := 56) dX11_gaps_45 (by decide) (fun c5 => ?_) (fun c5 => ?_)
      · have h := zt_some c5 h
        obtain ⟨v6, ev6, h⟩ := zl_some h
        refine z_iinc (pc := 56) (q := 3) (v := v6) (lo' := [(3, .int v6), (0, .ref 0), (1, .int x1), (2, .int x2)]) dX11_gaps_56 rfl (by rw [ev6, zci_1]) (by decide) rfl ?_
        refine z_goto (pc := 59) (tgt := 22) dX11_gaps_59 (by decide) ?_
        exact z_sub [1, 2, 3, 0] rfl (ih x1 x2 v6 T3 h)
      · have h := ze_some c5 h
        refine z_iload_n (pc := 48) (q := 1) dX11_gaps_48 rfl rfl ?_
        refine z_iconst (pc := 49) (v := 1) dX11_gaps_49 zci_1 ?_
        refine z_iload_n (pc := 50) (q := 3) dX11_gaps_50 rfl rfl ?_
        refine z_ishl (pc := 51) dX11_gaps_51 ?_
        refine z_iconst (pc := 52) (v := (-1)) dX11_gaps_52 zci_m1 ?_
        refine z_ixor (pc := 53) dX11_gaps_53 ?_
        refine z_iand (pc := 54) dX11_gaps_54 ?_
        obtain ⟨v6, ev6, h⟩ := zl_some h
        refine z_top ev6 ?_
        refine z_istore_n (pc := 55) (lo' := [(1, .int v6), (0, .ref 0), (2, .int x2), (3, .int x3)]) dX11_gaps_55 rfl (by decide) rfl ?_
        obtain ⟨v7, ev7, h⟩ := zl_some h
        refine z_iinc (pc := 56) (q := 3) (v := v7) (lo' := [(3, .int v7), (1, .int v6), (0, .ref 0), (2, .int x2)]) dX11_gaps_56 rfl (by rw [ev7, zci_1]) (by decide) rfl ?_
        refine z_goto (pc := 59) (tgt := 22) dX11_gaps_59 (by decide) ?_
        exact z_sub [2, 1, 3, 0] rfl (ih v6 x2 v7 T3 h)
set_option maxRecDepth 100000 in
theorem w_X11_gaps (l : Launch)  {S : zS} {r : Int32} {S1 : zS} (h : f_X11_gaps S = some (r, S1)) : zMet zLX l yX11_gaps cX11_gaps 4 (some .int) 2 [.ref 0] S (some (.int r)) S1 := by
  unfold f_X11_gaps at h
  refine zMet.of (by decide +kernel) (Nat.le_of_ble_eq_true rfl) ?_
  show WA zLX l RX11 cX11_gaps 4 (some .int) 2 (some (.int r)) S1 0 [(0, .ref 0)] [] S
  refine z_iconst (pc := 0) (v := 1) dX11_gaps_0 zci_1 ?_
  refine z_aload_n (pc := 1) (q := 0) dX11_gaps_1 rfl rfl ?_
  refine z_getR (pc := 2) dX11_gaps_2 zf_X11_25 gX_0_3 ?_
  refine z_getI (pc := 5) dX11_gaps_5 zf_X11_254 gX_5_0 ?_
  refine z_ishl (pc := 8) dX11_gaps_8 ?_
  refine z_iconst (pc := 9) (v := 1) dX11_gaps_9 zci_1 ?_
  refine z_isub (pc := 10) dX11_gaps_10 ?_
  obtain ⟨v1, ev1, h⟩ := zl_some h
  refine z_top ev1 ?_
  refine z_istore_n (pc := 11) (lo' := [(1, .int v1), (0, .ref 0)]) dX11_gaps_11 rfl (by decide) rfl ?_
  refine z_aload_n (pc := 12) (q := 1) dX11_gaps_12 rfl rfl ?_
  refine z_getR (pc := 13) dX11_gaps_13 zf_X11_35 gX_0_5 ?_
  obtain ⟨r4, T3, q2, h⟩ := zb_some h
  refine z_callVi (pc := 16) (st := []) [] dX11_gaps_16 zm_X11_165 zM_X3_livingBits (by decide) oX_37 rfl (w_X3_livingBits_37 l q2) rfl rfl (Nat.le_of_ble_eq_true rfl) ?_
  refine z_istore_n (pc := 19) (lo' := [(2, .int r4), (1, .int v1), (0, .ref 0)]) dX11_gaps_19 rfl (by decide) rfl ?_
  refine z_iconst (pc := 20) (v := 0) dX11_gaps_20 zci_0 ?_
  refine z_istore_n (pc := 21) (lo' := [(3, .int 0), (2, .int r4), (1, .int v1), (0, .ref 0)]) dX11_gaps_21 rfl (by decide) rfl ?_
  exact z_sub [3, 2, 1, 0] rfl (w_X11_gaps_L22 l zN v1 r4 0 T3 h)
def f_X11_widest_B40 (K12 : Int32 → Int32 → Int32 → Int32 → zS → Option (Int32 × zS)) (x1 : Int32) (x2 : Int32) (x4 : Int32) (s0 : Int32) (S : zS) : Option (Int32 × zS) :=
  zlet (zmax x2 s0) fun v1 =>
  zlet (x4 + 1) fun v2 =>
  K12 x1 v1 s0 v2 S
def f_X11_widest_L12 : Nat → Int32 → Int32 → Int32 → Int32 → zS → Option (Int32 × zS)
  | 0, _, _, _, _, _ => none
  | n + 1, x1, x2, x3, x4, S =>
    if x4 < (S.1 5 0) then
      if ((x1 >>> (x4 &&& 31)) &&& 1) = 0 then
        f_X11_widest_B40 (f_X11_widest_L12 n) x1 x2 x4 0 S
      else
        f_X11_widest_B40 (f_X11_widest_L12 n) x1 x2 x4 (x3 + 1) S
    else
      some (x2, S)
def f_X11_widest  (S : zS) : Option (Int32 × zS) :=
  zb (f_X11_gaps S) fun r3 T2 =>
  f_X11_widest_L12 zN r3 0 0 0 T2
set_option maxRecDepth 100000 in
theorem w_X11_widest_B40 (l : Launch) {r : Int32} {S1 : zS} (K12 : Int32 → Int32 → Int32 → Int32 → zS → Option (Int32 × zS)) (hK12 : ∀ (x1 : Int32) (x2 : Int32) (x3 : Int32) (x4 : Int32) (S : zS), K12 x1 x2 x3 x4 S = some (r, S1) → WA zLX l RX11 cX11_widest 5 (some .int) 3 (some (.int r)) S1 12 [(0, .ref 0), (1, .int x1), (2, .int x2), (3, .int x3), (4, .int x4)] [] S) (x1 : Int32) (x2 : Int32) (x4 : Int32) (s0 : Int32) (S : zS) (h : f_X11_widest_B40 K12 x1 x2 x4 s0 S = some (r, S1)) : WA zLX l RX11 cX11_widest 5 (some .int) 3 (some (.int r)) S1 40 [(0, .ref 0), (1, .int x1), (2, .int x2), (4, .int x4)] [.int s0] S := by
  unfold f_X11_widest_B40 at h
  refine z_istore_n (pc := 40) (lo' := [(3, .int s0), (0, .ref 0), (1, .int x1), (2, .int x2), (4, .int x4)]) dX11_widest_40 rfl (by decide) rfl ?_
  refine z_iload_n (pc := 41) (q := 3) dX11_widest_41 rfl rfl ?_
  refine z_iload_n (pc := 42) (q := 0) dX11_widest_42 rfl rfl ?_
  refine z_max (pc := 43) dX11_widest_43 zm_X11_264 zM_max.1 zM_max.2.1 zM_max.2.2 (by decide) (Nat.le_of_ble_eq_true rfl) ?_
  obtain ⟨v1, ev1, h⟩ := zl_some h
  refine z_top ev1 ?_
  refine z_istore_n (pc := 46) (lo' := [(2, .int v1), (3, .int s0), (0, .ref 0), (1, .int x1), (4, .int x4)]) dX11_widest_46 rfl (by decide) rfl ?_
  obtain ⟨v2, ev2, h⟩ := zl_some h
  refine z_iinc (pc := 47) (q := 4) (v := v2) (lo' := [(4, .int v2), (2, .int v1), (3, .int s0), (0, .ref 0), (1, .int x1)]) dX11_widest_47 rfl (by rw [ev2, zci_1]) (by decide) rfl ?_
  refine z_goto (pc := 50) (tgt := 12) dX11_widest_50 (by decide) ?_
  exact z_sub [3, 4, 1, 2, 0] rfl (hK12 x1 v1 s0 v2 S h)
set_option maxRecDepth 100000 in
theorem w_X11_widest_L12 (l : Launch) {r : Int32} {S1 : zS} : ∀ (n : Nat) (x1 : Int32) (x2 : Int32) (x3 : Int32) (x4 : Int32) (S : zS), f_X11_widest_L12 n x1 x2 x3 x4 S = some (r, S1) → WA zLX l RX11 cX11_widest 5 (some .int) 3 (some (.int r)) S1 12 [(0, .ref 0), (1, .int x1), (2, .int x2), (3, .int x3), (4, .int x4)] [] S := by
  intro n
  induction n with
  | zero =>
    intro x1 x2 x3 x4 S h
    exact nomatch h
  | succ n ih =>
    intro x1 x2 x3 x4 S h
    rw [f_X11_widest_L12] at h
    refine z_iload (pc := 12) (q := 4) dX11_widest_12 rfl ?_
    refine z_aload_n (pc := 14) (q := 0) dX11_widest_14 rfl rfl ?_
    refine z_getR (pc := 15) dX11_widest_15 zf_X11_25 gX_0_3 ?_
    refine z_getI (pc := 18) dX11_widest_18 zf_X11_254 gX_5_0 ?_
    refine z_icmp_ge (pc := 21) (tgt := 53) dX11_widest_21 (by decide) (fun c1 => ?_) (fun c1 => ?_)
    · have h := ze_some c1 h
      refine z_iload_n (pc := 53) (q := 2) dX11_widest_53 rfl rfl ?_
      obtain ⟨rfl, rfl⟩ := zr_some h
      exact z_iret dX11_widest_54
    · have h := zt_some c1 h
      refine z_iload_n (pc := 24) (q := 1) dX11_widest_24 rfl rfl ?_
      refine z_iload (pc := 25) (q := 4) dX11_widest_25 rfl ?_
      refine z_ishr (pc := 27) dX11_widest_27 ?_
      refine z_iconst (pc := 28) (v := 1) dX11_widest_28 zci_1 ?_
      refine z_iand (pc := 29) dX11_widest_29 ?_
      refine z_if_ne (pc := 30) (tgt := 37) dX11_widest_30 (by decide) (fun c2 => ?_) (fun c2 => ?_)
      · have h := ze_some c2 h
        refine z_iload_n (pc := 37) (q := 3) dX11_widest_37 rfl rfl ?_
        refine z_iconst (pc := 38) (v := 1) dX11_widest_38 zci_1 ?_
        refine z_iadd (pc := 39) dX11_widest_39 ?_
        exact z_sub [0, 1, 2, 4] rfl (w_X11_widest_B40 l (f_X11_widest_L12 n) ih x1 x2 x4 (x3 + 1) S h)
      · have h := zt_some c2 h
        refine z_iconst (pc := 33) (v := 0) dX11_widest_33 zci_0 ?_
        refine z_goto (pc := 34) (tgt := 40) dX11_widest_34 (by decide) ?_
        exact z_sub [0, 1, 2, 4] rfl (w_X11_widest_B40 l (f_X11_widest_L12 n) ih x1 x2 x4 0 S h)
set_option maxRecDepth 100000 in
theorem w_X11_widest (l : Launch)  {S : zS} {r : Int32} {S1 : zS} (h : f_X11_widest S = some (r, S1)) : zMet zLX l yX11_widest cX11_widest 5 (some .int) 3 [.ref 0] S (some (.int r)) S1 := by
  unfold f_X11_widest at h
  refine zMet.of (by decide +kernel) (Nat.le_of_ble_eq_true rfl) ?_
  show WA zLX l RX11 cX11_widest 5 (some .int) 3 (some (.int r)) S1 0 [(0, .ref 0)] [] S
  refine z_aload_n (pc := 0) (q := 0) dX11_widest_0 rfl rfl ?_
  obtain ⟨r3, T2, q1, h⟩ := zb_some h
  refine z_callVi (pc := 1) (st := []) [] dX11_widest_1 zm_X11_261 zM_X11_gaps (by decide) oX_0 rfl (w_X11_gaps l q1) rfl rfl (Nat.le_of_ble_eq_true rfl) ?_
  refine z_istore_n (pc := 4) (lo' := [(1, .int r3), (0, .ref 0)]) dX11_widest_4 rfl (by decide) rfl ?_
  refine z_iconst (pc := 5) (v := 0) dX11_widest_5 zci_0 ?_
  refine z_istore_n (pc := 6) (lo' := [(2, .int 0), (1, .int r3), (0, .ref 0)]) dX11_widest_6 rfl (by decide) rfl ?_
  refine z_iconst (pc := 7) (v := 0) dX11_widest_7 zci_0 ?_
  refine z_istore_n (pc := 8) (lo' := [(3, .int 0), (2, .int 0), (1, .int r3), (0, .ref 0)]) dX11_widest_8 rfl (by decide) rfl ?_
  refine z_iconst (pc := 9) (v := 0) dX11_widest_9 zci_0 ?_
  refine z_istore (pc := 10) (lo' := [(4, .int 0), (3, .int 0), (2, .int 0), (1, .int r3), (0, .ref 0)]) dX11_widest_10 (by decide) rfl ?_
  exact z_sub [4, 3, 2, 1, 0] rfl (w_X11_widest_L12 l zN r3 0 0 0 T2 h)
