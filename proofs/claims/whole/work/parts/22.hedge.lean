def f_X11_hedge_B45  (S : zS) : Option (Int32 × zS) :=
  zu (f_X3_begin_37_5 S) fun T2 =>
  zu (f_X0_restart_43_37 T2) fun T4 =>
  zu (f_X5_clear_45 T4) fun T6 =>
  zu (f_X8_clear_47 T6) fun T8 =>
  zlet (zput T8 0 15 0) fun T9 =>
  some (T9.1 37 0, T9)
set_option maxRecDepth 100000 in
theorem w_X11_hedge_B45 (l : Launch) {r : Int32} {S1 : zS}  (S : zS) (h : f_X11_hedge_B45 S = some (r, S1)) : WA zLX l RX11 cX11_hedge 3 (some .int) 175 (some (.int r)) S1 45 [(0, .ref 0)] [] S := by
  unfold f_X11_hedge_B45 at h
  refine z_aload_n (pc := 45) (q := 0) dX11_hedge_45 rfl rfl ?_
  refine z_getR (pc := 46) dX11_hedge_46 zf_X11_35 gX_0_5 ?_
  refine z_aload_n (pc := 49) (q := 0) dX11_hedge_49 rfl rfl ?_
  refine z_getR (pc := 50) dX11_hedge_50 zf_X11_25 gX_0_3 ?_
  obtain ⟨T2, q1, h⟩ := zu_some h
  refine z_callVv (pc := 53) (st := []) [.ref 5] dX11_hedge_53 zm_X11_91 zM_X3_begin (by decide) oX_37 rfl (w_X3_begin_37_5 l q1) rfl rfl (Nat.le_of_ble_eq_true rfl) ?_
  refine z_aload_n (pc := 56) (q := 0) dX11_hedge_56 rfl rfl ?_
  refine z_getR (pc := 57) dX11_hedge_57 zf_X11_45 gX_0_7 ?_
  refine z_aload_n (pc := 60) (q := 0) dX11_hedge_60 rfl rfl ?_
  refine z_getR (pc := 61) dX11_hedge_61 zf_X11_35 gX_0_5 ?_
  obtain ⟨T4, q3, h⟩ := zu_some h
  refine z_callVv (pc := 64) (st := []) [.ref 37] dX11_hedge_64 zm_X11_95 zM_X0_restart (by decide) oX_43 rfl (w_X0_restart_43_37 l q3) rfl rfl (Nat.le_of_ble_eq_true rfl) ?_
  refine z_aload_n (pc := 67) (q := 0) dX11_hedge_67 rfl rfl ?_
  refine z_getR (pc := 68) dX11_hedge_68 zf_X11_52 gX_0_8 ?_
  obtain ⟨T6, q5, h⟩ := zu_some h
  refine z_callVv (pc := 71) (st := []) [] dX11_hedge_71 zm_X11_111 zM_X5_clear (by decide) oX_45 rfl (w_X5_clear_45 l q5) rfl rfl (Nat.le_of_ble_eq_true rfl) ?_
  refine z_aload_n (pc := 74) (q := 0) dX11_hedge_74 rfl rfl ?_
  refine z_getR (pc := 75) dX11_hedge_75 zf_X11_59 gX_0_9 ?_
  obtain ⟨T8, q7, h⟩ := zu_some h
  refine z_callVv (pc := 78) (st := []) [] dX11_hedge_78 zm_X11_114 zM_X8_clear (by decide) oX_47 rfl (w_X8_clear_47 l q7) rfl rfl (Nat.le_of_ble_eq_true rfl) ?_
  refine z_aload_n (pc := 81) (q := 0) dX11_hedge_81 rfl rfl ?_
  refine z_iconst (pc := 82) (v := 0) dX11_hedge_82 zci_0 ?_
  obtain ⟨T9, eT9, h⟩ := zl_some h
  refine z_putI (pc := 83) dX11_hedge_83 zp_X11_115 gX_0_15 rfl rfl eT9 ?_
  refine z_aload_n (pc := 86) (q := 0) dX11_hedge_86 rfl rfl ?_
  refine z_getR (pc := 87) dX11_hedge_87 zf_X11_35 gX_0_5 ?_
  refine z_getI (pc := 90) dX11_hedge_90 zf_X11_118 gX_37_0 ?_
  obtain ⟨rfl, rfl⟩ := zr_some h
  exact z_iret dX11_hedge_93
def f_X11_hedge  (S : zS) : Option (Int32 × zS) :=
  zb (f_X7_readAll_2_21 (S.1 0 1) S) fun r3 T2 =>
  zlet (zput T2 0 1 0) fun T4 =>
  if r3 = 0 then
    some ((-1), T4)
  else
    none
set_option maxRecDepth 100000 in
theorem w_X11_hedge (l : Launch)  {S : zS} {r : Int32} {S1 : zS} (h : f_X11_hedge S = some (r, S1)) : zMet zLX l yX11_hedge cX11_hedge 3 (some .int) 175 [.ref 0] S (some (.int r)) S1 := by
  unfold f_X11_hedge at h
  refine zMet.of (by decide +kernel) (Nat.le_of_ble_eq_true rfl) ?_
  show WA zLX l RX11 cX11_hedge 3 (some .int) 175 (some (.int r)) S1 0 [(0, .ref 0)] [] S
  refine z_aload_n (pc := 0) (q := 0) dX11_hedge_0 rfl rfl ?_
  refine z_getR (pc := 1) dX11_hedge_1 zf_X11_18 gX_0_2 ?_
  refine z_aload_n (pc := 4) (q := 0) dX11_hedge_4 rfl rfl ?_
  refine z_getI (pc := 5) dX11_hedge_5 zf_X11_99 gX_0_1 ?_
  refine z_aload_n (pc := 8) (q := 0) dX11_hedge_8 rfl rfl ?_
  refine z_getR (pc := 9) dX11_hedge_9 zf_X11_29 gX_0_4 ?_
  obtain ⟨r3, T2, q1, h⟩ := zb_some h
  refine z_callVi (pc := 12) (st := []) [.int (S.1 0 1), .ref 21] dX11_hedge_12 zm_X11_107 zM_X7_readAll (by decide) oX_2 rfl (w_X7_readAll_2_21 l q1) rfl rfl (Nat.le_of_ble_eq_true rfl) ?_
  refine z_istore_n (pc := 15) (lo' := [(1, .int r3), (0, .ref 0)]) dX11_hedge_15 rfl (by decide) rfl ?_
  refine z_aload_n (pc := 16) (q := 1) dX11_hedge_16 rfl rfl ?_
  refine z_iconst (pc := 17) (v := 0) dX11_hedge_17 zci_0 ?_
  obtain ⟨T4, eT4, h⟩ := zl_some h
  refine z_putI (pc := 18) dX11_hedge_18 zp_X11_99 gX_0_1 rfl rfl eT4 ?_
  refine z_iload_n (pc := 21) (q := 0) dX11_hedge_21 rfl rfl ?_
  refine z_if_ne (pc := 22) (tgt := 27) dX11_hedge_22 (by decide) (fun c5 => ?_) (fun c5 => ?_)
  · have h := ze_some c5 h
    exact nomatch h
  · have h := zt_some c5 h
    refine z_iconst (pc := 25) (v := (-1)) dX11_hedge_25 zci_m1 ?_
    obtain ⟨rfl, rfl⟩ := zr_some h
    exact z_iret dX11_hedge_26

/-! the exchange of the two hedges -/
def zpi (i : Nat) : Nat := if 5 ≤ i ∧ i < 21 then i + 16 else if 21 ≤ i ∧ i < 37 then i - 16 else i
theorem zpi_zpi (i : Nat) : zpi (zpi i) = i := by
  unfold zpi
  split <;> split <;> (try split) <;> omega
theorem zpi_ge (i : Nat) (h : 37 ≤ i) : zpi i = i := by
  unfold zpi
  split <;> (try split) <;> omega
def zswap (S : zS) : zS := (fun k => S.1 (zpi k), fun k => S.2 (zpi k))
def zmK : Nat ⊕ Nat → Nat ⊕ Nat
  | .inl n => .inl n
  | .inr j => .inr (zpi j)
def zmC : zC → zC
  | .inl q => .inl q
  | .inr q => .inr (q.1, q.2.map zmK)
def zLXs : List zC := zLX.set 0 (.inr (11, [.inr 1, .inl 0, .inr 2, .inr 21, .inr 5, .inr 37, .inr 40, .inr 43, .inr 45, .inr 47, .inr 52, .inr 56, .inr 63, .inr 65, .inr 66, .inl 0]))
theorem zmC_ok {cA : Nat → ClassId} {ad : Nat → Nat} {f : Nat → Int32} {g : Nat → Int64} {c : zC} : zce cA (fun i => ad (zpi i)) f g c = zce cA ad f g (zmC c) := by
  match c with
  | .inl q => rfl
  | .inr q =>
    refine congrArg (fun z => Sum.inr (q.1, z)) (zfs_congr (ad := ad) (ad' := fun i => ad (zpi i)) (f := f) (g := g) (ks := q.2.map zmK) (ks' := q.2) (by simp) (fun i kd kd' h1 h2 => by
      simp only [List.getElem?_map, h2, Option.map_some, Option.some.injEq] at h1
      subst h1
      match kd' with
      | .inl 0 => rfl
      | .inl 1 => rfl
      | .inl (_ + 2) => rfl
      | .inr j => rfl))
theorem zLX_len : zLX.length = 67 := rfl
theorem zLX_sym : ∀ k, k < 67 → zLXs[zpi k]? = (zLX[k]?).map zmC := by
  intro k hk
  match k, hk with
  | 0, _ => rfl
  | 1, _ => rfl
  | 2, _ => rfl
  | 3, _ => rfl
  | 4, _ => rfl
  | 5, _ => rfl
  | 6, _ => rfl
  | 7, _ => rfl
  | 8, _ => rfl
  | 9, _ => rfl
  | 10, _ => rfl
  | 11, _ => rfl
  | 12, _ => rfl
  | 13, _ => rfl
  | 14, _ => rfl
  | 15, _ => rfl
  | 16, _ => rfl
  | 17, _ => rfl
  | 18, _ => rfl
  | 19, _ => rfl
  | 20, _ => rfl
  | 21, _ => rfl
  | 22, _ => rfl
  | 23, _ => rfl
  | 24, _ => rfl
  | 25, _ => rfl
  | 26, _ => rfl
  | 27, _ => rfl
  | 28, _ => rfl
  | 29, _ => rfl
  | 30, _ => rfl
  | 31, _ => rfl
  | 32, _ => rfl
  | 33, _ => rfl
  | 34, _ => rfl
  | 35, _ => rfl
  | 36, _ => rfl
  | 37, _ => rfl
  | 38, _ => rfl
  | 39, _ => rfl
  | 40, _ => rfl
  | 41, _ => rfl
  | 42, _ => rfl
  | 43, _ => rfl
  | 44, _ => rfl
  | 45, _ => rfl
  | 46, _ => rfl
  | 47, _ => rfl
  | 48, _ => rfl
  | 49, _ => rfl
  | 50, _ => rfl
  | 51, _ => rfl
  | 52, _ => rfl
  | 53, _ => rfl
  | 54, _ => rfl
  | 55, _ => rfl
  | 56, _ => rfl
  | 57, _ => rfl
  | 58, _ => rfl
  | 59, _ => rfl
  | 60, _ => rfl
  | 61, _ => rfl
  | 62, _ => rfl
  | 63, _ => rfl
  | 64, _ => rfl
  | 65, _ => rfl
  | 66, _ => rfl
  | k + 67, hk => exact absurd hk (by omega)
theorem zw_sym {cA : Nat → ClassId} {ad : Nat → Nat} {S : zS} {k : Nat} {q : Nat × va_E} (h : (zw zLX cA (fun i => ad (zpi i)) (zswap S))[k]? = some q) : (zw zLXs cA ad S)[zpi k]? = some q := by
  obtain ⟨c, hc, rfl⟩ := zw_get h
  have hk : k < 67 := (List.getElem?_eq_some_iff.mp hc).1
  have h1 := zLX_sym k hk
  rw [hc, Option.map_some] at h1
  rw [zw_at h1, zmC_ok]
  rfl
def zMQS (r : Option Value) (S1 : zS) : List Frame → Array Value → State → va_G → (Nat → ClassId) → (Nat → Nat) → (Nat → Prop) → State → Prop := fun below args s D cA ad0 A => MQ below (zQ zLX D cA (fun i => ad0 (zpi i)) r S1 A) args s 0 0 A
def zMetS (l : Launch) (y : MethodName) (cc : ByteArray) (nL : Nat) (ret : Option FieldType) (kd : Nat) (as : List Value) (S : zS) (r : Option Value) (S1 : zS) : Prop :=
  ∀ (D : va_G) (cA : Nat → ClassId) (ad : Nat → Nat) (sz : Nat), Met l y (Cond.code y cc nL ret :: ztbl) (zrm kd)
    (va_Pc (as.map (zv ad)) (fun U => U.heap.size = sz ∧ zWd zLX D cA ad S U ∧ zX ad (va_A (zw zLX cA ad S) sz) U U.heap))
    (zQ zLX D cA (fun i => ad (zpi i)) r S1 (va_A (zw zLX cA ad S) sz)) 0 0 (va_A (zw zLX cA ad S) sz)
section ZH
variable {l : Launch} {own : String} {cc : ByteArray} {nL : Nat} {ret : Option FieldType} {kd : Nat} {r : Option Value} {S1 S : zS} {pc : Nat} {lo : List (Nat × Value)} {st : List Value}
theorem g_one {Ly : List zC} {R : Room} {n0 nc ns : Nat} {ini : Bool} {EX : State → (Nat → Prop) → (Nat → Nat) → Prop} {Qf : List Frame → Array Value → State → va_G → (Nat → ClassId) → (Nat → Nat) → (Nat → Prop) → State → Prop} {v : Value} (k : WG Ly l own cc nL ret R n0 ini EX Qf nc ns pc lo (v :: st) S) : WG Ly l own cc nL ret R n0 ini EX Qf nc ns pc lo ((some v).toList ++ st) S := k
theorem g_swap (f1 : lo.all (fun q => match q.2 with | .ref j => j == 0 | _ => true) = true) (k : WA zLX l own cc nL ret kd r S1 pc lo [] (zswap S)) : WG zLXs l own cc nL ret (zrm kd) 900 false (fun _ _ _ => True) (zMQS r S1) 0 0 pc lo [] S := by
  intro p e s m args below meth c D cA ad0 ad A H locs ls hE hag hini hex hP hD hS hl
  have e0 : ad = ad0 := funext fun i => hag i (by omega)
  subst e0
  have hlo : zlo (fun i => ad (zpi i)) lo = zlo ad lo := List.map_congr_left fun q hq => by
    have h1 := List.all_eq_true.mp f1 q hq
    obtain ⟨i, v⟩ := q
    cases v <;> try rfl
    rename_i j
    have h2 : j = 0 := by simpa using h1
    subst h2
    rfl
  refine k p e s m args below meth c D cA (fun i => ad (zpi i)) A H locs ls (hE.ad (fun i hi => by show ad (zpi i) = ad i; rw [zpi_ge i (by omega)])) ?_ ?_ hS (by rw [hlo]; exact hl)
  · intro k q hk
    exact hP (zpi k) q (zw_sym hk)
  · refine ⟨fun i j x y hi hj hxy => ?_, fun k q hk => hD.2 _ q (zw_sym hk)⟩
    have := hD.1 _ _ x y (zw_sym hi) (zw_sym hj) hxy
    rw [← zpi_zpi i, this, zpi_zpi]
theorem zMetS.of {y : MethodName} {as : List Value} (hy : plainName y.cls = true) (hn : (lg_sl as).length ≤ nL) (h : WG zLX l y.cls cc nL ret (zrm kd) 900 false (fun _ _ _ => True) (zMQS r S1) 0 0 0 (lv_args 0 as) [] S) : zMetS l y cc nL ret kd as S r S1 := by
  intro D cA ad sz
  refine Met.ofW (cc := cc) (maxL := nL) (ret := ret) hy rfl ?_
  intro p e s m args below meth c s₁ B hml hv
  obtain ⟨rfl, hsz, ⟨hP, hK, hD0⟩, hX⟩ := hv
  subst hsz
  have hl := lv_entry (as.map (zv ad)) (n := nL) (by rw [zlo_sl]; exact hn)
  rw [zlo_args] at hl
  rw [lg_entry_eq]
  have hts := atoms_spec (ws := Cond.code y cc nL ret :: ztbl) B.pre
  exact h p e s m _ below meth c D cA ad ad (va_A (zw zLX cA ad S) s.heap.size) s.heap [] _ ⟨B.exec, B.bytes, B.returns, hml, findClass_of_methodNamed B.named, fun w hw => hts w (List.mem_cons_of_mem _ hw), B.notSynchronized, hK, fun q h => Or.inr h, hX⟩ (fun _ _ => rfl) (fun h => nomatch h) trivial hP hD0.self va_S.rf hl
end ZH
set_option maxRecDepth 100000 in
/-- hedge(), where the text was read: the two hedges change places -/
theorem ws_X11_hedge (l : Launch) {S T S1 : zS} {r0 x : Int32} (h1 : f_X7_readAll_2_21 (S.1 0 1) S = some (r0, T)) (h2 : ¬ r0 = 0) (h3 : f_X11_hedge_B45 (zswap (zput T 0 1 0)) = some (x, S1)) : zMetS l yX11_hedge cX11_hedge 3 (some .int) 175 [.ref 0] S (some (.int x)) S1 := by
  refine zMetS.of (by decide +kernel) (Nat.le_of_ble_eq_true rfl) ?_
  show WG zLX l RX11 cX11_hedge 3 (some .int) (zrm 175) 900 false (fun _ _ _ => True) (zMQS (some (.int x)) S1) 0 0 0 [(0, .ref 0)] [] S
  refine g_aload_n (pc := 0) (q := 0) dX11_hedge_0 rfl rfl ?_
  refine g_getR (pc := 1) dX11_hedge_1 zf_X11_18 gX_0_2 ?_
  refine g_aload_n (pc := 4) (q := 0) dX11_hedge_4 rfl rfl ?_
  refine g_getI (pc := 5) dX11_hedge_5 zf_X11_99 gX_0_1 ?_
  refine g_aload_n (pc := 8) (q := 0) dX11_hedge_8 rfl rfl ?_
  refine g_getR (pc := 9) dX11_hedge_9 zf_X11_29 gX_0_4 ?_
  refine g_callV (pc := 12) (st := []) [.int (S.1 0 1), .ref 21] dX11_hedge_12 zm_X11_107 zM_X7_readAll ⟨by decide, by decide⟩ ⟨by decide, by decide⟩ oX_2 rfl (w_X7_readAll_2_21 l h1) rfl rfl (Nat.le_of_ble_eq_true rfl) ?_
  refine g_one (st := []) ?_
  refine g_istore_n (pc := 15) (lo' := [(1, .int r0), (0, .ref 0)]) dX11_hedge_15 rfl (by decide) rfl ?_
  refine g_aload_n (pc := 16) (q := 1) dX11_hedge_16 rfl rfl ?_
  refine g_iconst (pc := 17) (v := 0) dX11_hedge_17 zci_0 ?_
  refine g_putI (pc := 18) (S2 := zput T 0 1 0) dX11_hedge_18 zp_X11_99 gX_0_1 rfl rfl rfl ?_
  refine g_iload_n (pc := 21) (q := 0) dX11_hedge_21 rfl rfl ?_
  refine g_if_ne (pc := 22) (tgt := 27) dX11_hedge_22 (by decide) (fun _ => ?_) (fun c => absurd c h2)
  refine g_aload_n (pc := 27) (q := 1) dX11_hedge_27 rfl rfl ?_
  refine g_getR (pc := 28) dX11_hedge_28 zf_X11_25 gX_0_3 ?_
  refine g_astore_n (pc := 31) (lo' := [(2, .ref 5), (1, .int r0), (0, .ref 0)]) dX11_hedge_31 rfl (by decide) rfl ?_
  refine g_aload_n (pc := 32) (q := 2) dX11_hedge_32 rfl rfl ?_
  refine g_aload_n (pc := 33) (q := 2) dX11_hedge_33 rfl rfl ?_
  refine g_getR (pc := 34) dX11_hedge_34 zf_X11_29 gX_0_4 ?_
  refine g_putR (pc := 37) (k := 0) (i := 3) (j := 21) dX11_hedge_37 zq_X11_25 (fun h => nomatch h) oX_0 (by decide) (fun _ => rfl) (fun _ => rfl) ?_
  refine g_ly (Ly2 := zLX.set 0 (.inr (11, [.inr 1, .inl 0, .inr 2, .inr 21, .inr 21, .inr 37, .inr 40, .inr 43, .inr 45, .inr 47, .inr 52, .inr 56, .inr 63, .inr 65, .inr 66, .inl 0]))) rfl ?_
  refine g_aload_n (pc := 40) (q := 2) dX11_hedge_40 rfl rfl ?_
  refine g_aload_n (pc := 41) (q := 0) dX11_hedge_41 rfl rfl ?_
  refine g_putR (pc := 42) (k := 0) (i := 4) (j := 5) (ks := [.inr 1, .inl 0, .inr 2, .inr 21, .inr 21, .inr 37, .inr 40, .inr 43, .inr 45, .inr 47, .inr 52, .inr 56, .inr 63, .inr 65, .inr 66, .inl 0]) dX11_hedge_42 zq_X11_29 (fun h => nomatch h) rfl (by decide) (fun _ => rfl) (fun _ => rfl) ?_
  refine g_ly (Ly2 := zLXs) rfl ?_
  refine g_sub (lo' := [(0, .ref 0)]) [2] rfl ?_
  exact g_swap rfl (w_X11_hedge_B45 l (zswap (zput T 0 1 0)) h3)
