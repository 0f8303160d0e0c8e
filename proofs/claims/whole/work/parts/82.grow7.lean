/-! ===== the formula: a level; the line ===== -/
theorem LO_wrap {cb : Nat → Nat} {n q lv w : Nat} {l : List Int32} {u : Nat} {dl : Int} {rx : Option (Int32 × zS)} {rm : Option zS} {X M : zS} (h : LO cb n q lv w l u dl rx rm X M) : LO cb n q lv w l u dl (zb rx fun r T => if znb r then some (r, T) else none) rm X M := by
  rcases h with ⟨X', M', a, b⟩ | ⟨X', M', q', k', p, u', ns', a, b⟩
  · left
    rw [a]
    exact ⟨X', M', by rw [zb_def, if_pos znb0], b⟩
  · right
    rw [a]
    exact ⟨X', M', q', k', p, u', ns', by rw [zb_def, if_pos znb1], b⟩
theorem levelLV {cb : Nat → Nat} {n : Nat} : ∀ (d lv w : Nat), lv ≤ 5 → w ≤ 7 → (7 - w) * 6 + (6 - lv) ≤ d → LV cb n (f_X7_readLevel_2_25 d) lv w := by
  intro d
  induction d with
  | zero =>
    intro lv w h1 h2 h3
    omega
  | succ d ih =>
    intro lv w hlv hw hd l u ns q m k dl X M h1 h2 h3 hG hP hm hk hnot
    show LO cb n q lv w l u dl (fb_X7_readLevel_2_25 (f_X7_readLevel_2_25 d) (nI lv) (nI w) X) (RU m k M) X M
    unfold fb_X7_readLevel_2_25
    by_cases h5 : lv = 5
    · subst h5
      rw [if_pos (show (4 : Int32) < nI 5 by decide)]
      exact LO_wrap (unitLV hw (fun hlt => ih 0 (w + 1) (by omega) (by omega) (by omega)) h1 h3 hG hP hm hk (hnot.resolve_left (by omega)))
    · have hlv4 : lv ≤ 4 := by omega
      rw [if_neg (show ¬ (4 : Int32) < nI lv from nI_nlt (b := lv) (a := 4) (by omega) (by omega))]
      have hlo := lo_thr lv
      have hdl0 : 0 ≤ dl := hG.2.2.2.2.2.2.2.2.2.2.2.2.1
      have hB33 : ¬ (lv = 2 ∧ X.1 2 6 = 1 ∧ X.1 2 7 = 19) → LO cb n q lv w l u dl (f_X7_readLevel_2_25_B33 (f_X7_readLevel_2_25 d) (nI lv) (nI w) X) (RU m k M) X M := by
        intro hn19
        unfold f_X7_readLevel_2_25_B33
        rw [nI_1]
        have hin := ih (lv + 1) w (by omega) hw (by omega) l u ns q m k dl X M h1 (stop_mono (by omega) h2) (by omega) hG hP hm hk (by
          by_cases hl1 : lv ≤ 1
          · exact Or.inl (by omega)
          · right
            by_cases hl2 : lv = 2
            · exact Or.inl (fun z => hn19 ⟨hl2, z⟩)
            · exact hnot.resolve_left (by omega))
        rcases hin with ⟨X', M', b1, b2, b3, b4, b5⟩ | ⟨X1, M1, q1, k1, p, u1, ns1, b1, b2, b3, b4, b5, b6, b7, b8, b9, b10, b11, b12⟩
        · left
          rw [b1, zb_def, if_pos rfl]
          exact ⟨X', M', rfl, b2, b3, b4, b5⟩
        · have hu30 := b7.2.1
          have hzN : zN = 10000 := rfl
          have hl := loopLV (F := f_X7_readLevel_2_25 d) hlv4 hw (ih (lv + 1) w (by omega) hw (by omega)) h1 h2 h3 31 zN 0 p u1 ns1 q1 k1 dl X1 M1 (by omega) (by omega) b7 b8 (fun c hc => ⟨(b10 c hc).1, by have := (b10 c hc).2; omega⟩) (by omega) b12 b5 (by omega) hdl0 (fun hl2 => Or.inl ⟨rfl, fun c hc => ⟨(b10 c hc).1, by
            have := (b10 c hc).2
            rw [hl2] at this
            exact this⟩⟩)
          have hx : (if nI lv = 2 then f_X7_readLevel_2_25_B58 (f_X7_readLevel_2_25 d) (nI lv) (nI w) 1 X1 else f_X7_readLevel_2_25_B58 (f_X7_readLevel_2_25 d) (nI lv) (nI w) 30 X1) = f_X7_readLevel_2_25_L70 (f_X7_readLevel_2_25 d) zN (nI lv) (nI w) (if lv = 2 then 1 else 30) (if lvC (jc X1) = lv then jc X1 else 0) (nI 0) X1 := by
            unfold f_X7_readLevel_2_25_B58
            rw [joinX hlv4]
            simp only [zb_def]
            by_cases hl2 : lv = 2
            · rw [if_pos (show nI lv = 2 by rw [hl2]; rfl), if_pos hl2]
              rfl
            · rw [if_neg (show ¬ nI lv = 2 from fun z => hl2 ((nI_eq (b := 2) (by omega) (by omega)).mp z)), if_neg hl2]
              rfl
          rw [b1, zb_def, if_neg (by decide), hx, b2]
          rcases hl with ⟨X', M', g1, g2, g3, g4, g5⟩ | ⟨X', M', q', k', p', u', ns', g1, g2, g3, g4, g5, g6, g7, g8, g9, g10, g11, g12⟩
          · exact Or.inl ⟨X', M', g1, g2, g3, gX_trans (gX_v b3) g4, gMf_trans (gMf_v b4) g5⟩
          · exact Or.inr ⟨X', M', q', k', p', u', ns', g1, g2, vX_trans b3 g3, vM_trans b4 g4, g5, by omega, g7, g8, by omega, g10, g11, g12⟩
      by_cases hl2 : lv = 2
      · rw [if_pos (show nI lv = 2 by rw [hl2]; rfl), wordBX, zb_def, z01]
        by_cases hn : X.1 2 6 = 1 ∧ X.1 2 7 = 19
        · rw [if_pos hn]
          subst hl2
          exact notLV hw (fun hlt => ih 2 (w + 1) (by omega) (by omega) (by omega)) h1 h2 h3 hG hP hm hk hn
        · rw [if_neg hn]
          exact hB33 (fun z => hn z.2)
      · rw [if_neg (show ¬ nI lv = 2 from fun z => hl2 ((nI_eq (b := 2) (by omega) (by omega)).mp z))]
        exact hB33 (fun z => hl2 z.1)
set_option maxHeartbeats 1000000 in
theorem lnGrow {cb : Nat → Nat} {n q st pl tp bl pa ln hb : Nat} {f d : Bool} {X M : zS} (h : cur cb n q X M) (hw : X.1 2 6 = 1 ∧ X.1 2 7 = nI 6) (hI : pI st pl tp bl pa ln hb false f d X M) : lnR cb n q ln (zb (f_X7_beginOnce_2 X) fun r10 T9 => if r10 = 0 then some (0, T9) else zb (f_X7_readLevel_2_25 zRD 0 0 T9) fun r14 T13 => if r14 = 0 then some (0, T13) else some (1, T13)) (fun K => zlet (zput M 0 49 1) fun T10 => zu (f_X12_readGrow T10) fun T12 => K T12) X M := by
  have hzN : zN = 10000 := rfl
  rcases onceC h (Or.inl rfl) hw hI with ⟨-, X1, M1, q1, o1, o2, o3, o4, o5, o6, o7⟩ | ⟨z, -⟩
  · rw [o1, zb_def, if_neg (by decide)]
    have gx0 := gX_once o3
    have gm0 := gM_once (Or.inl rfl) o4
    obtain ⟨a1, a2, a3, a4, ⟨n1, n2, n3, n4⟩, a6, a7, a8⟩ := hI
    obtain ⟨f1, f2, f3⟩ := a8.1 rfl
    have hx : ∀ k, k ≠ 2 → X1.1 k = X.1 k := fun k hk => by rw [o3.1 k hk, zput1_ne _ _ _ _ _ hk]
    have hm : ∀ k, k ≠ 0 → M1.1 k = M.1 k := fun k hk => by rw [o4.1 k hk, zput1_ne _ _ _ _ _ hk]
    have m : ∀ i, 9 ≤ i → i ≠ 49 → M1.1 0 i = M.1 0 i := fun i hi hk => by
      rw [o4.2.1 i (by omega) (by omega) (by omega) (by omega), zput1_eq, upd_ne _ _ _ _ hk]
    -- the reference's start
    have hgrow : f_X12_readGrow (zput M 0 49 1) = RU zN zN (zput (zput (zput (zput M1 0 17 0) 0 19 0) 0 23 0) 0 22 0) := by
      unfold f_X12_readGrow f_X12_unit
      rw [show f_X12_token (zput M 0 49 1) = some M1 from o2, zu_def, zlet_def, zlet_def, zlet_def, zlet_def]
      rfl
    have hkk : kM M1 (zput (zput (zput (zput M1 0 17 0) 0 19 0) 0 23 0) 0 22 0) := kM_trans (kM_trans (kM_trans (kM_put0 (by omega)) (kM_put0 (by omega))) (kM_put0 (by omega))) (kM_put0 (by omega))
    have hG : gI cb n q1 [] [] 0 0 0 X1 (zput (zput (zput (zput M1 0 17 0) 0 19 0) 0 23 0) 0 22 0) := by
      refine ⟨cur_c o5 hkk, by omega, ?_, ?_, rfl, ⟨by decide, rfl, fun i hi => absurd hi (by show ¬ i < 0; omega), fun c hc => absurd hc (by simp), rfl⟩, ?_, rfl, fun i hi => absurd hi (by omega), fun i hi => absurd hi (by show ¬ i < 0; omega), ⟨fun i hi => absurd hi (by show ¬ i < 0; omega), rfl, by omega, by omega⟩⟩
      · rw [hx 25 (by decide)]; exact f1
      · show M1.1 0 20 = nI 0
        rw [m 20 (by omega) (by omega)]; exact f3
      · rw [hx 25 (by decide)]; exact f2
    have hL := levelLV (cb := cb) (n := n) zRD 0 0 (by omega) (by omega) (by decide) [] 0 0 q1 zN zN 0 X1 _ rfl trivial (by show (0 : Nat) ≤ _; omega) hG (by show 0 + 0 ≤ _; omega) (by omega) (by omega) (Or.inl (by omega))
    rcases hL with ⟨X', M', b1, b2, b3, b4, b5⟩ | ⟨X', M', q', k', p, u', ns', b1, b2, b3, b4, b5, b6, b7, b8, b9, b10, b11, b12⟩
    · right
      rw [show f_X7_readLevel_2_25 zRD 0 0 X1 = _ from b1, zb_def, if_pos rfl]
      refine ⟨X', M', rfl, fun K => ?_, b3, gX_trans gx0 b4, gMf_trans gm0 (gMf_trans (gMf_v (vM_c hkk)) b5)⟩
      show (zlet (zput M 0 49 1) fun T10 => _) = _
      rw [zlet_def, hgrow, b2, zu_def]
    · left
      obtain ⟨g1, g2, g3, g4, g5, g6, g7, g8, g9, g10, g11⟩ := id b7
      have hq' := q_le g1
      rw [show f_X7_readLevel_2_25 zRD 0 0 X1 = _ from b1, zb_def, if_neg (by decide)]
      have hnob : hbF (p ++ []) (p ++ []).length = false := by
        cases hh : hbF (p ++ []) (p ++ []).length with
        | false => rfl
        | true =>
          have := (hbF_mem _).mp hh
          rw [List.append_nil] at this
          exact absurd rfl (oc_op (b10 1 this).1).2.1
      have hst : RS k' M' = f_X12_readGrow_B157 M' := rsStop g1 g6 (Or.inr hnob) (by
        unfold nxT at b12
        rcases b12 with z | z | ⟨z, -, z'⟩
        · omega
        · rcases jc_op X' with ⟨y, -⟩ | ⟨-, y, -⟩
          · exact Or.inl y
          · omega
        · exact Or.inr ⟨z, hr_app p _ z'⟩) (by omega)
      have hnbp : nb (p ++ []) = p.length := by rw [List.append_nil, nb_ops (fun c hc => (b10 c hc).1)]
      obtain ⟨M2, c1, c2, c3, c4, c5, c6, c7, c8⟩ := closeM (l := []) (x := 0) (by omega) trivial p zN ns' M' g6 g8 (by omega) (fun c hc => ⟨(b10 c hc).1, by omega⟩) (by omega)
      have h157 : f_X12_readGrow_B157 M' = some M2 := by
        unfold f_X12_readGrow_B157 f_X12_readGrow_B176 f_X12_close
        rw [if_pos g1.2.2.2.2.1, brkM g6, zb_def, hnob, if_pos (show (if false = true then (1 : Int32) else 0) = 0 from rfl), if_pos g1.2.2.2.2.1, show f_X12_close_L0 zN 0 M' = _ from c1, zu_def]
      have hvM : vM M1 M2 := vM_trans (vM_c hkk) (vM_trans b4 (vM_c c6))
      have hlen : ns' + p.length ≤ 269 := by omega
      have hlen0 : 0 < ns' + p.length := by
        rcases Nat.eq_zero_or_pos (ns' + p.length) with z | z
        · have := g11.2.1
          rw [z] at this
          exact absurd this (by show ¬ (0 : Int) = 0 + 1; omega)
        · exact z
      have mm : ∀ i, 24 ≤ i → i ≠ 49 → M2.1 0 i = M.1 0 i := fun i hi hk => by
        rw [hvM.2.1 i (by omega) (by omega) (by omega) (by omega) (by omega) (by omega)]; exact m i (by omega) hk
      have mk : ∀ k, k ≠ 0 → k ≠ 3 → k ≠ 4 → k ≠ 7 → M2.1 k = M.1 k := fun k z1 z2 z3 z4 => by rw [hvM.1 k z1 z2 z3 z4, hm k z1]
      have xk : ∀ k, k ≠ 2 → k ≠ 25 → k ≠ 26 → X'.1 k = X.1 k := fun k z1 z2 z3 => by rw [b3.1 k z1 z2 z3, hx k z1]
      have hnm : ∀ base cnt, nmOk base cnt X M → nmOk base cnt X' M2 := fun base cnt z => by
        have z' : nmOk base cnt X1 M1 := nmOk_y (X := zput X 2 10 _) (M := zput M 0 49 1) z o3 o4
        obtain ⟨y1, y2, y3⟩ := z'
        refine ⟨y1, fun i hi => ?_, fun i j hi hj => ?_⟩
        · rw [b3.2.2 3 _ (Or.inl rfl), hvM.2.2]; exact y2 i hi
        · rw [hvM.2.2, hvM.2.2]; exact y3 i j hi hj
      refine ⟨X', M2, q', st, pl, tp, bl, pa, hb, true, f, d, rfl, fun K => ?_, ?_, cur_c g1 c6, by omega, gX_trans gx0 (gX_v b3), gMf_trans gm0 (gMf_v hvM)⟩
      · show (zlet (zput M 0 49 1) fun T10 => _) = _
        rw [zlet_def, hgrow, b2, hst, h157, zu_def]
      · unfold pI
        rw [xk 21 (by decide) (by decide) (by decide), xk 22 (by decide) (by decide) (by decide), xk 23 (by decide) (by decide) (by decide), xk 24 (by decide) (by decide) (by decide), xk 30 (by decide) (by decide) (by decide), xk 31 (by decide) (by decide) (by decide), xk 32 (by decide) (by decide) (by decide), xk 33 (by decide) (by decide) (by decide), xk 34 (by decide) (by decide) (by decide), xk 35 (by decide) (by decide) (by decide), mk 10 (by decide) (by decide) (by decide) (by decide), mk 12 (by decide) (by decide) (by decide) (by decide), mk 13 (by decide) (by decide) (by decide) (by decide), mk 16 (by decide) (by decide) (by decide) (by decide), mk 18 (by decide) (by decide) (by decide) (by decide)]
        refine ⟨pA_0 a1 (fun i _ _ => mm i (by omega) (by omega)), pFr_0 a2 (fun i _ _ => mm i (by omega) (by omega)), a3, pL_0 o7 (b3.2.1 9 (by omega)) (b3.2.1 10 (by omega)) (fun i z1 z2 => hvM.2.1 i (by omega) (by omega) (by omega) (by omega) (by omega) (by omega)), ⟨hnm _ _ n1, hnm _ _ n2, hnm _ _ n3, hnm _ _ n4⟩, a6, a7, ⟨fun z => absurd z (by decide), fun _ => ⟨ns' + p.length, hlen0, g7, ns' + p.length, u', by omega, by omega, g3, c7.trans g4, g7, c3, ?_, fun _ => ?_, fun i hi => ?_⟩⟩⟩
        · rw [if_neg (by omega)]
        · rw [g11.2.1]; rfl
        · have hw1 := g11.1 i hi
          have hst3 : M2.1 3 i = mstep (X'.1 26 i) ∧ M2.1 4 i = marg (X'.1 26 i) := by
            by_cases hin : i < ns'
            · rw [(c5 i hin).1, (c5 i hin).2]; exact g9 i hin
            · obtain ⟨j, rfl⟩ : ∃ j, i = ns' + j := ⟨i - ns', by omega⟩
              rw [(c4 j (by omega)).1, (c4 j (by omega)).2, g10 j (by omega)]
              exact ⟨rfl, rfl⟩
          exact ⟨hst3.1, hst3.2, hw1⟩
  · cases z
