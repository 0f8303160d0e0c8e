section ZG4
variable {Ly : List zC} {l : Launch} {own : String} {cc : ByteArray} {nL : Nat} {ret : Option FieldType} {R : Room} {n0 nc ns : Nat} {ini : Bool} {EX : State → (Nat → Prop) → (Nat → Nat) → Prop} {Qf : List Frame → Array Value → State → va_G → (Nat → ClassId) → (Nat → Nat) → (Nat → Prop) → State → Prop} {S : zS} {pc : Nat} {lo : List (Nat × Value)} {st : List Value}
theorem g_nil (k : WG Ly l own cc nL ret R n0 ini EX Qf nc ns pc lo st S) : WG Ly l own cc nL ret R n0 ini EX Qf nc ns pc lo ((none : Option Value).toList ++ st) S := k
end ZG4
theorem zput_same {S : zS} {k i : Nat} {x : Int32} (h : S.1 k i = x) : zput S k i x = S := by
  refine Prod.ext (funext fun j => ?_) rfl
  show (if j = k then upd (S.1 k) i x else S.1 j) = _
  by_cases hj : j = k
  · rw [if_pos hj, hj]
    funext q
    show (if q = i then x else S.1 k q) = _
    by_cases hq : q = i
    · rw [if_pos hq, hq, h]
    · rw [if_neg hq]
  · rw [if_neg hj]
theorem zlet_def {α β : Type} (a : α) (f : α → Option β) : zlet a f = f a := rfl
theorem zb_def {α : Type} (x : Int32) (S : zS) (f : Int32 → zS → Option α) : zb (some (x, S)) f = f x S := rfl
theorem zu_def {α : Type} (S : zS) (f : zS → Option α) : zu (some S) f = f S := rfl
def zY_X0_init_0 : List zC := [.inr (0, [.inl 0, .inl 0, .inl 0, .inl 2]), .inl (0, 1107)]
def zY_X0_init_1 : List zC := [.inr (0, [.inl 0, .inl 0, .inl 0, .inr 1]), .inl (0, 1107)]
set_option maxRecDepth 100000 in
set_option maxHeartbeats 40000000 in
theorem c_X0_init (l : Launch) : zCt l yX0_init cX0_init 1 1 1 1107 (.inr (0, [.inl 0, .inl 0, .inl 0, .inl 2])) [.ref 0] [.inr (0, [.inl 0, .inl 0, .inl 0, .inr 1]), .inl (0, 1107)] zS0 := by
  refine zCt.of (by decide +kernel) rfl (Nat.le_of_ble_eq_true rfl) ?_
  show WG [.inr (0, [.inl 0, .inl 0, .inl 0, .inl 2])] l RX0 cX0_init 1 none (zrc 1 1 1107) 1 true (fun _ _ _ => True) (zMQC 1 1107 1 [.inr (0, [.inl 0, .inl 0, .inl 0, .inr 1]), .inl (0, 1107)] zS0) 0 0 0 [(0, .ref 0)] [] zS0
  refine g_aload_n (pc := 0) (q := 0) dX0_init_0 rfl rfl ?_
  refine g_obj (pc := 1) dX0_init_1 zmo_X0_3 zM_obj.1 zM_obj.2 (by decide) (by decide) (Nat.le_of_ble_eq_true rfl) ?_
  refine g_aload_n (pc := 4) (q := 0) dX0_init_4 rfl rfl ?_
  refine g_sipush (pc := 5) (v := 1107) dX0_init_5 zcs_1107 ?_
  refine g_newa (pc := 8) (t := 0) (N := 1107) (v := 1107) (k := 1) (st := [.ref 0]) dX0_init_8 rfl (fun _ => rfl) (fun _ _ h => h) (fun _ _ => ⟨(1107, .inl fun _ => 0), rfl, fun _ => rfl⟩) zarr_int (by decide) (by decide) (by decide) (Nat.le_of_ble_eq_true rfl) (Nat.le_of_ble_eq_true rfl) rfl rfl rfl rfl (by decide) (by decide) (zclr_id rfl rfl).symm ?_
  refine g_ly (Ly2 := zY_X0_init_0) rfl ?_
  refine g_putR (pc := 10) (k := 0) (i := 3) (j := 1) (ks := [.inl 0, .inl 0, .inl 0, .inl 2]) dX0_init_10 zq_X0_13 (fun _ => rfl) rfl (by decide) (fun _ => rfl) (fun _ => rfl) ?_
  refine g_ly (Ly2 := zY_X0_init_1) rfl ?_
  exact g_end dX0_init_13 (Nat.le_of_ble_eq_true rfl) (Nat.le_of_ble_eq_true rfl)
def zY_X1_init_0 : List zC := [.inr (1, [.inl 2, .inl 2, .inl 2, .inl 2, .inl 2, .inl 2, .inl 2]), .inl (0, 12)]
def zY_X1_init_1 : List zC := [.inr (1, [.inr 1, .inl 2, .inl 2, .inl 2, .inl 2, .inl 2, .inl 2]), .inl (0, 12)]
def zY_X1_init_2 : List zC := [.inr (1, [.inr 1, .inl 2, .inl 2, .inl 2, .inl 2, .inl 2, .inl 2]), .inl (0, 12), .inl (0, 12)]
def zY_X1_init_3 : List zC := [.inr (1, [.inr 1, .inr 2, .inl 2, .inl 2, .inl 2, .inl 2, .inl 2]), .inl (0, 12), .inl (0, 12)]
def zY_X1_init_4 : List zC := [.inr (1, [.inr 1, .inr 2, .inl 2, .inl 2, .inl 2, .inl 2, .inl 2]), .inl (0, 12), .inl (0, 12), .inl (0, 12)]
def zY_X1_init_5 : List zC := [.inr (1, [.inr 1, .inr 2, .inr 3, .inl 2, .inl 2, .inl 2, .inl 2]), .inl (0, 12), .inl (0, 12), .inl (0, 12)]
def zY_X1_init_6 : List zC := [.inr (1, [.inr 1, .inr 2, .inr 3, .inl 2, .inl 2, .inl 2, .inl 2]), .inl (0, 12), .inl (0, 12), .inl (0, 12), .inl (0, 12)]
def zY_X1_init_7 : List zC := [.inr (1, [.inr 1, .inr 2, .inr 3, .inr 4, .inl 2, .inl 2, .inl 2]), .inl (0, 12), .inl (0, 12), .inl (0, 12), .inl (0, 12)]
def zY_X1_init_8 : List zC := [.inr (1, [.inr 1, .inr 2, .inr 3, .inr 4, .inl 2, .inl 2, .inl 2]), .inl (0, 12), .inl (0, 12), .inl (0, 12), .inl (0, 12), .inl (0, 12)]
def zY_X1_init_9 : List zC := [.inr (1, [.inr 1, .inr 2, .inr 3, .inr 4, .inr 5, .inl 2, .inl 2]), .inl (0, 12), .inl (0, 12), .inl (0, 12), .inl (0, 12), .inl (0, 12)]
def zY_X1_init_10 : List zC := [.inr (1, [.inr 1, .inr 2, .inr 3, .inr 4, .inr 5, .inl 2, .inl 2]), .inl (0, 12), .inl (0, 12), .inl (0, 12), .inl (0, 12), .inl (0, 12), .inl (0, 12)]
def zY_X1_init_11 : List zC := [.inr (1, [.inr 1, .inr 2, .inr 3, .inr 4, .inr 5, .inr 6, .inl 2]), .inl (0, 12), .inl (0, 12), .inl (0, 12), .inl (0, 12), .inl (0, 12), .inl (0, 12)]
def zY_X1_init_12 : List zC := [.inr (1, [.inr 1, .inr 2, .inr 3, .inr 4, .inr 5, .inr 6, .inl 2]), .inl (0, 12), .inl (0, 12), .inl (0, 12), .inl (0, 12), .inl (0, 12), .inl (0, 12), .inl (0, 12)]
def zY_X1_init_13 : List zC := [.inr (1, [.inr 1, .inr 2, .inr 3, .inr 4, .inr 5, .inr 6, .inr 7]), .inl (0, 12), .inl (0, 12), .inl (0, 12), .inl (0, 12), .inl (0, 12), .inl (0, 12), .inl (0, 12)]
set_option maxRecDepth 100000 in
set_option maxHeartbeats 40000000 in
theorem c_X1_init (l : Launch) : zCt l yX1_init cX1_init 1 1 7 84 (.inr (1, [.inl 2, .inl 2, .inl 2, .inl 2, .inl 2, .inl 2, .inl 2])) [.ref 0] [.inr (1, [.inr 1, .inr 2, .inr 3, .inr 4, .inr 5, .inr 6, .inr 7]), .inl (0, 12), .inl (0, 12), .inl (0, 12), .inl (0, 12), .inl (0, 12), .inl (0, 12), .inl (0, 12)] zS0 := by
  refine zCt.of (by decide +kernel) rfl (Nat.le_of_ble_eq_true rfl) ?_
  show WG [.inr (1, [.inl 2, .inl 2, .inl 2, .inl 2, .inl 2, .inl 2, .inl 2])] l RX1 cX1_init 1 none (zrc 1 7 84) 1 true (fun _ _ _ => True) (zMQC 7 84 1 [.inr (1, [.inr 1, .inr 2, .inr 3, .inr 4, .inr 5, .inr 6, .inr 7]), .inl (0, 12), .inl (0, 12), .inl (0, 12), .inl (0, 12), .inl (0, 12), .inl (0, 12), .inl (0, 12)] zS0) 0 0 0 [(0, .ref 0)] [] zS0
  refine g_aload_n (pc := 0) (q := 0) dX1_init_0 rfl rfl ?_
  refine g_obj (pc := 1) dX1_init_1 zmo_X1_3 zM_obj.1 zM_obj.2 (by decide) (by decide) (Nat.le_of_ble_eq_true rfl) ?_
  refine g_aload_n (pc := 4) (q := 0) dX1_init_4 rfl rfl ?_
  refine g_bipush (pc := 5) (v := 12) dX1_init_5 zcb_12 ?_
  refine g_newa (pc := 7) (t := 0) (N := 12) (v := 12) (k := 1) (st := [.ref 0]) dX1_init_7 rfl (fun _ => rfl) (fun _ _ h => h) (fun _ _ => ⟨(12, .inl fun _ => 0), rfl, fun _ => rfl⟩) zarr_int (by decide) (by decide) (by decide) (Nat.le_of_ble_eq_true rfl) (Nat.le_of_ble_eq_true rfl) rfl rfl rfl rfl (by decide) (by decide) (zclr_id rfl rfl).symm ?_
  refine g_ly (Ly2 := zY_X1_init_0) rfl ?_
  refine g_putR (pc := 9) (k := 0) (i := 0) (j := 1) (ks := [.inl 2, .inl 2, .inl 2, .inl 2, .inl 2, .inl 2, .inl 2]) dX1_init_9 zq_X1_9 (fun _ => rfl) rfl (by decide) (fun _ => rfl) (fun _ => rfl) ?_
  refine g_ly (Ly2 := zY_X1_init_1) rfl ?_
  refine g_aload_n (pc := 12) (q := 0) dX1_init_12 rfl rfl ?_
  refine g_bipush (pc := 13) (v := 12) dX1_init_13 zcb_12 ?_
  refine g_newa (pc := 15) (t := 0) (N := 12) (v := 12) (k := 2) (st := [.ref 0]) dX1_init_15 rfl (fun _ => rfl) (fun _ _ h => h) (fun _ _ => ⟨(12, .inl fun _ => 0), rfl, fun _ => rfl⟩) zarr_int (by decide) (by decide) (by decide) (Nat.le_of_ble_eq_true rfl) (Nat.le_of_ble_eq_true rfl) rfl rfl rfl rfl (by decide) (by decide) (zclr_id rfl rfl).symm ?_
  refine g_ly (Ly2 := zY_X1_init_2) rfl ?_
  refine g_putR (pc := 17) (k := 0) (i := 1) (j := 2) (ks := [.inr 1, .inl 2, .inl 2, .inl 2, .inl 2, .inl 2, .inl 2]) dX1_init_17 zq_X1_15 (fun _ => rfl) rfl (by decide) (fun _ => rfl) (fun _ => rfl) ?_
  refine g_ly (Ly2 := zY_X1_init_3) rfl ?_
  refine g_aload_n (pc := 20) (q := 0) dX1_init_20 rfl rfl ?_
  refine g_bipush (pc := 21) (v := 12) dX1_init_21 zcb_12 ?_
  refine g_newa (pc := 23) (t := 0) (N := 12) (v := 12) (k := 3) (st := [.ref 0]) dX1_init_23 rfl (fun _ => rfl) (fun _ _ h => h) (fun _ _ => ⟨(12, .inl fun _ => 0), rfl, fun _ => rfl⟩) zarr_int (by decide) (by decide) (by decide) (Nat.le_of_ble_eq_true rfl) (Nat.le_of_ble_eq_true rfl) rfl rfl rfl rfl (by decide) (by decide) (zclr_id rfl rfl).symm ?_
  refine g_ly (Ly2 := zY_X1_init_4) rfl ?_
  refine g_putR (pc := 25) (k := 0) (i := 2) (j := 3) (ks := [.inr 1, .inr 2, .inl 2, .inl 2, .inl 2, .inl 2, .inl 2]) dX1_init_25 zq_X1_18 (fun _ => rfl) rfl (by decide) (fun _ => rfl) (fun _ => rfl) ?_
  refine g_ly (Ly2 := zY_X1_init_5) rfl ?_
  refine g_aload_n (pc := 28) (q := 0) dX1_init_28 rfl rfl ?_
  refine g_bipush (pc := 29) (v := 12) dX1_init_29 zcb_12 ?_
  refine g_newa (pc := 31) (t := 0) (N := 12) (v := 12) (k := 4) (st := [.ref 0]) dX1_init_31 rfl (fun _ => rfl) (fun _ _ h => h) (fun _ _ => ⟨(12, .inl fun _ => 0), rfl, fun _ => rfl⟩) zarr_int (by decide) (by decide) (by decide) (Nat.le_of_ble_eq_true rfl) (Nat.le_of_ble_eq_true rfl) rfl rfl rfl rfl (by decide) (by decide) (zclr_id rfl rfl).symm ?_
  refine g_ly (Ly2 := zY_X1_init_6) rfl ?_
  refine g_putR (pc := 33) (k := 0) (i := 3) (j := 4) (ks := [.inr 1, .inr 2, .inr 3, .inl 2, .inl 2, .inl 2, .inl 2]) dX1_init_33 zq_X1_21 (fun _ => rfl) rfl (by decide) (fun _ => rfl) (fun _ => rfl) ?_
  refine g_ly (Ly2 := zY_X1_init_7) rfl ?_
  refine g_aload_n (pc := 36) (q := 0) dX1_init_36 rfl rfl ?_
  refine g_bipush (pc := 37) (v := 12) dX1_init_37 zcb_12 ?_
  refine g_newa (pc := 39) (t := 0) (N := 12) (v := 12) (k := 5) (st := [.ref 0]) dX1_init_39 rfl (fun _ => rfl) (fun _ _ h => h) (fun _ _ => ⟨(12, .inl fun _ => 0), rfl, fun _ => rfl⟩) zarr_int (by decide) (by decide) (by decide) (Nat.le_of_ble_eq_true rfl) (Nat.le_of_ble_eq_true rfl) rfl rfl rfl rfl (by decide) (by decide) (zclr_id rfl rfl).symm ?_
  refine g_ly (Ly2 := zY_X1_init_8) rfl ?_
  refine g_putR (pc := 41) (k := 0) (i := 4) (j := 5) (ks := [.inr 1, .inr 2, .inr 3, .inr 4, .inl 2, .inl 2, .inl 2]) dX1_init_41 zq_X1_24 (fun _ => rfl) rfl (by decide) (fun _ => rfl) (fun _ => rfl) ?_
  refine g_ly (Ly2 := zY_X1_init_9) rfl ?_
  refine g_aload_n (pc := 44) (q := 0) dX1_init_44 rfl rfl ?_
  refine g_bipush (pc := 45) (v := 12) dX1_init_45 zcb_12 ?_
  refine g_newa (pc := 47) (t := 0) (N := 12) (v := 12) (k := 6) (st := [.ref 0]) dX1_init_47 rfl (fun _ => rfl) (fun _ _ h => h) (fun _ _ => ⟨(12, .inl fun _ => 0), rfl, fun _ => rfl⟩) zarr_int (by decide) (by decide) (by decide) (Nat.le_of_ble_eq_true rfl) (Nat.le_of_ble_eq_true rfl) rfl rfl rfl rfl (by decide) (by decide) (zclr_id rfl rfl).symm ?_
  refine g_ly (Ly2 := zY_X1_init_10) rfl ?_
  refine g_putR (pc := 49) (k := 0) (i := 5) (j := 6) (ks := [.inr 1, .inr 2, .inr 3, .inr 4, .inr 5, .inl 2, .inl 2]) dX1_init_49 zq_X1_27 (fun _ => rfl) rfl (by decide) (fun _ => rfl) (fun _ => rfl) ?_
  refine g_ly (Ly2 := zY_X1_init_11) rfl ?_
  refine g_aload_n (pc := 52) (q := 0) dX1_init_52 rfl rfl ?_
  refine g_bipush (pc := 53) (v := 12) dX1_init_53 zcb_12 ?_
  refine g_newa (pc := 55) (t := 0) (N := 12) (v := 12) (k := 7) (st := [.ref 0]) dX1_init_55 rfl (fun _ => rfl) (fun _ _ h => h) (fun _ _ => ⟨(12, .inl fun _ => 0), rfl, fun _ => rfl⟩) zarr_int (by decide) (by decide) (by decide) (Nat.le_of_ble_eq_true rfl) (Nat.le_of_ble_eq_true rfl) rfl rfl rfl rfl (by decide) (by decide) (zclr_id rfl rfl).symm ?_
  refine g_ly (Ly2 := zY_X1_init_12) rfl ?_
  refine g_putR (pc := 57) (k := 0) (i := 6) (j := 7) (ks := [.inr 1, .inr 2, .inr 3, .inr 4, .inr 5, .inr 6, .inl 2]) dX1_init_57 zq_X1_30 (fun _ => rfl) rfl (by decide) (fun _ => rfl) (fun _ => rfl) ?_
  refine g_ly (Ly2 := zY_X1_init_13) rfl ?_
  exact g_end dX1_init_60 (Nat.le_of_ble_eq_true rfl) (Nat.le_of_ble_eq_true rfl)
def zY_X2_init_0 : List zC := [.inr (2, [.inl 0, .inl 0, .inl 2, .inl 2, .inl 2]), .inl (0, 272)]
def zY_X2_init_1 : List zC := [.inr (2, [.inl 0, .inl 0, .inr 1, .inl 2, .inl 2]), .inl (0, 272)]
def zY_X2_init_2 : List zC := [.inr (2, [.inl 0, .inl 0, .inr 1, .inl 2, .inl 2]), .inl (0, 272), .inl (0, 5)]
def zY_X2_init_3 : List zC := [.inr (2, [.inl 0, .inl 0, .inr 1, .inr 2, .inl 2]), .inl (0, 272), .inl (0, 5)]
def zY_X2_init_4 : List zC := [.inr (2, [.inl 0, .inl 0, .inr 1, .inr 2, .inl 2]), .inl (0, 272), .inl (0, 5), .inl (0, 32)]
def zY_X2_init_5 : List zC := [.inr (2, [.inl 0, .inl 0, .inr 1, .inr 2, .inr 3]), .inl (0, 272), .inl (0, 5), .inl (0, 32)]
set_option maxRecDepth 100000 in
set_option maxHeartbeats 40000000 in
theorem c_X2_init (l : Launch) : zCt l yX2_init cX2_init 1 1 3 309 (.inr (2, [.inl 0, .inl 0, .inl 2, .inl 2, .inl 2])) [.ref 0] [.inr (2, [.inl 0, .inl 0, .inr 1, .inr 2, .inr 3]), .inl (0, 272), .inl (0, 5), .inl (0, 32)] zS0 := by
  refine zCt.of (by decide +kernel) rfl (Nat.le_of_ble_eq_true rfl) ?_
  show WG [.inr (2, [.inl 0, .inl 0, .inl 2, .inl 2, .inl 2])] l RX2 cX2_init 1 none (zrc 1 3 309) 1 true (fun _ _ _ => True) (zMQC 3 309 1 [.inr (2, [.inl 0, .inl 0, .inr 1, .inr 2, .inr 3]), .inl (0, 272), .inl (0, 5), .inl (0, 32)] zS0) 0 0 0 [(0, .ref 0)] [] zS0
  refine g_aload_n (pc := 0) (q := 0) dX2_init_0 rfl rfl ?_
  refine g_obj (pc := 1) dX2_init_1 zmo_X2_1 zM_obj.1 zM_obj.2 (by decide) (by decide) (Nat.le_of_ble_eq_true rfl) ?_
  refine g_aload_n (pc := 4) (q := 0) dX2_init_4 rfl rfl ?_
  refine g_sipush (pc := 5) (v := 272) dX2_init_5 zcs_272 ?_
  refine g_newa (pc := 8) (t := 0) (N := 272) (v := 272) (k := 1) (st := [.ref 0]) dX2_init_8 rfl (fun _ => rfl) (fun _ _ h => h) (fun _ _ => ⟨(272, .inl fun _ => 0), rfl, fun _ => rfl⟩) zarr_int (by decide) (by decide) (by decide) (Nat.le_of_ble_eq_true rfl) (Nat.le_of_ble_eq_true rfl) rfl rfl rfl rfl (by decide) (by decide) (zclr_id rfl rfl).symm ?_
  refine g_ly (Ly2 := zY_X2_init_0) rfl ?_
  refine g_putR (pc := 10) (k := 0) (i := 2) (j := 1) (ks := [.inl 0, .inl 0, .inl 2, .inl 2, .inl 2]) dX2_init_10 zq_X2_9 (fun _ => rfl) rfl (by decide) (fun _ => rfl) (fun _ => rfl) ?_
  refine g_ly (Ly2 := zY_X2_init_1) rfl ?_
  refine g_aload_n (pc := 13) (q := 0) dX2_init_13 rfl rfl ?_
  refine g_iconst (pc := 14) (v := 5) dX2_init_14 zci_5 ?_
  refine g_newa (pc := 15) (t := 0) (N := 5) (v := 5) (k := 2) (st := [.ref 0]) dX2_init_15 rfl (fun _ => rfl) (fun _ _ h => h) (fun _ _ => ⟨(5, .inl fun _ => 0), rfl, fun _ => rfl⟩) zarr_int (by decide) (by decide) (by decide) (Nat.le_of_ble_eq_true rfl) (Nat.le_of_ble_eq_true rfl) rfl rfl rfl rfl (by decide) (by decide) (zclr_id rfl rfl).symm ?_
  refine g_ly (Ly2 := zY_X2_init_2) rfl ?_
  refine g_putR (pc := 17) (k := 0) (i := 3) (j := 2) (ks := [.inl 0, .inl 0, .inr 1, .inl 2, .inl 2]) dX2_init_17 zq_X2_13 (fun _ => rfl) rfl (by decide) (fun _ => rfl) (fun _ => rfl) ?_
  refine g_ly (Ly2 := zY_X2_init_3) rfl ?_
  refine g_aload_n (pc := 20) (q := 0) dX2_init_20 rfl rfl ?_
  refine g_bipush (pc := 21) (v := 32) dX2_init_21 zcb_32 ?_
  refine g_newa (pc := 23) (t := 0) (N := 32) (v := 32) (k := 3) (st := [.ref 0]) dX2_init_23 rfl (fun _ => rfl) (fun _ _ h => h) (fun _ _ => ⟨(32, .inl fun _ => 0), rfl, fun _ => rfl⟩) zarr_int (by decide) (by decide) (by decide) (Nat.le_of_ble_eq_true rfl) (Nat.le_of_ble_eq_true rfl) rfl rfl rfl rfl (by decide) (by decide) (zclr_id rfl rfl).symm ?_
  refine g_ly (Ly2 := zY_X2_init_4) rfl ?_
  refine g_putR (pc := 25) (k := 0) (i := 4) (j := 3) (ks := [.inl 0, .inl 0, .inr 1, .inr 2, .inl 2]) dX2_init_25 zq_X2_16 (fun _ => rfl) rfl (by decide) (fun _ => rfl) (fun _ => rfl) ?_
  refine g_ly (Ly2 := zY_X2_init_5) rfl ?_
  exact g_end dX2_init_28 (Nat.le_of_ble_eq_true rfl) (Nat.le_of_ble_eq_true rfl)
def zY_X3_init_0 : List zC := [.inr (3, [.inl 0, .inl 0, .inl 0, .inl 2, .inl 2]), .inl (0, 12)]
def zY_X3_init_1 : List zC := [.inr (3, [.inl 0, .inl 0, .inl 0, .inr 1, .inl 2]), .inl (0, 12)]
def zY_X3_init_2 : List zC := [.inr (3, [.inl 0, .inl 0, .inl 0, .inr 1, .inl 2]), .inl (0, 12), .inl (0, 12)]
def zY_X3_init_3 : List zC := [.inr (3, [.inl 0, .inl 0, .inl 0, .inr 1, .inr 2]), .inl (0, 12), .inl (0, 12)]
set_option maxRecDepth 100000 in
set_option maxHeartbeats 40000000 in
theorem c_X3_init (l : Launch) : zCt l yX3_init cX3_init 1 1 2 24 (.inr (3, [.inl 0, .inl 0, .inl 0, .inl 2, .inl 2])) [.ref 0] [.inr (3, [.inl 0, .inl 0, .inl 0, .inr 1, .inr 2]), .inl (0, 12), .inl (0, 12)] zS0 := by
  refine zCt.of (by decide +kernel) rfl (Nat.le_of_ble_eq_true rfl) ?_
  show WG [.inr (3, [.inl 0, .inl 0, .inl 0, .inl 2, .inl 2])] l RX3 cX3_init 1 none (zrc 1 2 24) 1 true (fun _ _ _ => True) (zMQC 2 24 1 [.inr (3, [.inl 0, .inl 0, .inl 0, .inr 1, .inr 2]), .inl (0, 12), .inl (0, 12)] zS0) 0 0 0 [(0, .ref 0)] [] zS0
  refine g_aload_n (pc := 0) (q := 0) dX3_init_0 rfl rfl ?_
  refine g_obj (pc := 1) dX3_init_1 zmo_X3_3 zM_obj.1 zM_obj.2 (by decide) (by decide) (Nat.le_of_ble_eq_true rfl) ?_
  refine g_aload_n (pc := 4) (q := 0) dX3_init_4 rfl rfl ?_
  refine g_bipush (pc := 5) (v := 12) dX3_init_5 zcb_12 ?_
  refine g_newa (pc := 7) (t := 0) (N := 12) (v := 12) (k := 1) (st := [.ref 0]) dX3_init_7 rfl (fun _ => rfl) (fun _ _ h => h) (fun _ _ => ⟨(12, .inl fun _ => 0), rfl, fun _ => rfl⟩) zarr_int (by decide) (by decide) (by decide) (Nat.le_of_ble_eq_true rfl) (Nat.le_of_ble_eq_true rfl) rfl rfl rfl rfl (by decide) (by decide) (zclr_id rfl rfl).symm ?_
  refine g_ly (Ly2 := zY_X3_init_0) rfl ?_
  refine g_putR (pc := 9) (k := 0) (i := 3) (j := 1) (ks := [.inl 0, .inl 0, .inl 0, .inl 2, .inl 2]) dX3_init_9 zq_X3_9 (fun _ => rfl) rfl (by decide) (fun _ => rfl) (fun _ => rfl) ?_
  refine g_ly (Ly2 := zY_X3_init_1) rfl ?_
  refine g_aload_n (pc := 12) (q := 0) dX3_init_12 rfl rfl ?_
  refine g_bipush (pc := 13) (v := 12) dX3_init_13 zcb_12 ?_
  refine g_newa (pc := 15) (t := 0) (N := 12) (v := 12) (k := 2) (st := [.ref 0]) dX3_init_15 rfl (fun _ => rfl) (fun _ _ h => h) (fun _ _ => ⟨(12, .inl fun _ => 0), rfl, fun _ => rfl⟩) zarr_int (by decide) (by decide) (by decide) (Nat.le_of_ble_eq_true rfl) (Nat.le_of_ble_eq_true rfl) rfl rfl rfl rfl (by decide) (by decide) (zclr_id rfl rfl).symm ?_
  refine g_ly (Ly2 := zY_X3_init_2) rfl ?_
  refine g_putR (pc := 17) (k := 0) (i := 4) (j := 2) (ks := [.inl 0, .inl 0, .inl 0, .inr 1, .inl 2]) dX3_init_17 zq_X3_15 (fun _ => rfl) rfl (by decide) (fun _ => rfl) (fun _ => rfl) ?_
  refine g_ly (Ly2 := zY_X3_init_3) rfl ?_
  exact g_end dX3_init_20 (Nat.le_of_ble_eq_true rfl) (Nat.le_of_ble_eq_true rfl)
def zY_X5_init_0 : List zC := [.inr (5, [.inl 0, .inl 2]), .inl (0, 297)]
def zY_X5_init_1 : List zC := [.inr (5, [.inl 0, .inr 1]), .inl (0, 297)]
set_option maxRecDepth 100000 in
set_option maxHeartbeats 40000000 in
theorem c_X5_init (l : Launch) : zCt l yX5_init cX5_init 1 1 1 297 (.inr (5, [.inl 0, .inl 2])) [.ref 0] [.inr (5, [.inl 0, .inr 1]), .inl (0, 297)] zS0 := by
  refine zCt.of (by decide +kernel) rfl (Nat.le_of_ble_eq_true rfl) ?_
  show WG [.inr (5, [.inl 0, .inl 2])] l RX5 cX5_init 1 none (zrc 1 1 297) 1 true (fun _ _ _ => True) (zMQC 1 297 1 [.inr (5, [.inl 0, .inr 1]), .inl (0, 297)] zS0) 0 0 0 [(0, .ref 0)] [] zS0
  refine g_aload_n (pc := 0) (q := 0) dX5_init_0 rfl rfl ?_
  refine g_obj (pc := 1) dX5_init_1 zmo_X5_7 zM_obj.1 zM_obj.2 (by decide) (by decide) (Nat.le_of_ble_eq_true rfl) ?_
  refine g_aload_n (pc := 4) (q := 0) dX5_init_4 rfl rfl ?_
  refine g_sipush (pc := 5) (v := 297) dX5_init_5 zcs_297 ?_
  refine g_newa (pc := 8) (t := 0) (N := 297) (v := 297) (k := 1) (st := [.ref 0]) dX5_init_8 rfl (fun _ => rfl) (fun _ _ h => h) (fun _ _ => ⟨(297, .inl fun _ => 0), rfl, fun _ => rfl⟩) zarr_int (by decide) (by decide) (by decide) (Nat.le_of_ble_eq_true rfl) (Nat.le_of_ble_eq_true rfl) rfl rfl rfl rfl (by decide) (by decide) (zclr_id rfl rfl).symm ?_
  refine g_ly (Ly2 := zY_X5_init_0) rfl ?_
  refine g_putR (pc := 10) (k := 0) (i := 1) (j := 1) (ks := [.inl 0, .inl 2]) dX5_init_10 zq_X5_15 (fun _ => rfl) rfl (by decide) (fun _ => rfl) (fun _ => rfl) ?_
  refine g_ly (Ly2 := zY_X5_init_1) rfl ?_
  exact g_end dX5_init_13 (Nat.le_of_ble_eq_true rfl) (Nat.le_of_ble_eq_true rfl)
def zY_X6_init_0 : List zC := [.inr (6, [.inl 0, .inl 0, .inl 2, .inl 2, .inl 2]), .inl (0, 5)]
def zY_X6_init_1 : List zC := [.inr (6, [.inl 0, .inl 0, .inr 1, .inl 2, .inl 2]), .inl (0, 5)]
def zY_X6_init_2 : List zC := [.inr (6, [.inl 0, .inl 0, .inr 1, .inl 2, .inl 2]), .inl (0, 5), .inl (0, 5)]
def zY_X6_init_3 : List zC := [.inr (6, [.inl 0, .inl 0, .inr 1, .inr 2, .inl 2]), .inl (0, 5), .inl (0, 5)]
def zY_X6_init_4 : List zC := [.inr (6, [.inl 0, .inl 0, .inr 1, .inr 2, .inl 2]), .inl (0, 5), .inl (0, 5), .inl (0, 25)]
def zY_X6_init_5 : List zC := [.inr (6, [.inl 0, .inl 0, .inr 1, .inr 2, .inr 3]), .inl (0, 5), .inl (0, 5), .inl (0, 25)]
set_option maxRecDepth 100000 in
set_option maxHeartbeats 40000000 in
theorem c_X6_init (l : Launch) : zCt l yX6_init cX6_init 1 1 3 35 (.inr (6, [.inl 0, .inl 0, .inl 2, .inl 2, .inl 2])) [.ref 0] [.inr (6, [.inl 0, .inl 0, .inr 1, .inr 2, .inr 3]), .inl (0, 5), .inl (0, 5), .inl (0, 25)] zS0 := by
  refine zCt.of (by decide +kernel) rfl (Nat.le_of_ble_eq_true rfl) ?_
  show WG [.inr (6, [.inl 0, .inl 0, .inl 2, .inl 2, .inl 2])] l RX6 cX6_init 1 none (zrc 1 3 35) 1 true (fun _ _ _ => True) (zMQC 3 35 1 [.inr (6, [.inl 0, .inl 0, .inr 1, .inr 2, .inr 3]), .inl (0, 5), .inl (0, 5), .inl (0, 25)] zS0) 0 0 0 [(0, .ref 0)] [] zS0
  refine g_aload_n (pc := 0) (q := 0) dX6_init_0 rfl rfl ?_
  refine g_obj (pc := 1) dX6_init_1 zmo_X6_3 zM_obj.1 zM_obj.2 (by decide) (by decide) (Nat.le_of_ble_eq_true rfl) ?_
  refine g_aload_n (pc := 4) (q := 0) dX6_init_4 rfl rfl ?_
  refine g_iconst (pc := 5) (v := 5) dX6_init_5 zci_5 ?_
  refine g_newa (pc := 6) (t := 0) (N := 5) (v := 5) (k := 1) (st := [.ref 0]) dX6_init_6 rfl (fun _ => rfl) (fun _ _ h => h) (fun _ _ => ⟨(5, .inl fun _ => 0), rfl, fun _ => rfl⟩) zarr_int (by decide) (by decide) (by decide) (Nat.le_of_ble_eq_true rfl) (Nat.le_of_ble_eq_true rfl) rfl rfl rfl rfl (by decide) (by decide) (zclr_id rfl rfl).symm ?_
  refine g_ly (Ly2 := zY_X6_init_0) rfl ?_
  refine g_putR (pc := 8) (k := 0) (i := 2) (j := 1) (ks := [.inl 0, .inl 0, .inl 2, .inl 2, .inl 2]) dX6_init_8 zq_X6_9 (fun _ => rfl) rfl (by decide) (fun _ => rfl) (fun _ => rfl) ?_
  refine g_ly (Ly2 := zY_X6_init_1) rfl ?_
  refine g_aload_n (pc := 11) (q := 0) dX6_init_11 rfl rfl ?_
  refine g_iconst (pc := 12) (v := 5) dX6_init_12 zci_5 ?_
  refine g_newa (pc := 13) (t := 0) (N := 5) (v := 5) (k := 2) (st := [.ref 0]) dX6_init_13 rfl (fun _ => rfl) (fun _ _ h => h) (fun _ _ => ⟨(5, .inl fun _ => 0), rfl, fun _ => rfl⟩) zarr_int (by decide) (by decide) (by decide) (Nat.le_of_ble_eq_true rfl) (Nat.le_of_ble_eq_true rfl) rfl rfl rfl rfl (by decide) (by decide) (zclr_id rfl rfl).symm ?_
  refine g_ly (Ly2 := zY_X6_init_2) rfl ?_
  refine g_putR (pc := 15) (k := 0) (i := 3) (j := 2) (ks := [.inl 0, .inl 0, .inr 1, .inl 2, .inl 2]) dX6_init_15 zq_X6_15 (fun _ => rfl) rfl (by decide) (fun _ => rfl) (fun _ => rfl) ?_
  refine g_ly (Ly2 := zY_X6_init_3) rfl ?_
  refine g_aload_n (pc := 18) (q := 0) dX6_init_18 rfl rfl ?_
  refine g_bipush (pc := 19) (v := 25) dX6_init_19 zcb_25 ?_
  refine g_newa (pc := 21) (t := 0) (N := 25) (v := 25) (k := 3) (st := [.ref 0]) dX6_init_21 rfl (fun _ => rfl) (fun _ _ h => h) (fun _ _ => ⟨(25, .inl fun _ => 0), rfl, fun _ => rfl⟩) zarr_int (by decide) (by decide) (by decide) (Nat.le_of_ble_eq_true rfl) (Nat.le_of_ble_eq_true rfl) rfl rfl rfl rfl (by decide) (by decide) (zclr_id rfl rfl).symm ?_
  refine g_ly (Ly2 := zY_X6_init_4) rfl ?_
  refine g_putR (pc := 23) (k := 0) (i := 4) (j := 3) (ks := [.inl 0, .inl 0, .inr 1, .inr 2, .inl 2]) dX6_init_23 zq_X6_18 (fun _ => rfl) rfl (by decide) (fun _ => rfl) (fun _ => rfl) ?_
  refine g_ly (Ly2 := zY_X6_init_5) rfl ?_
  exact g_end dX6_init_26 (Nat.le_of_ble_eq_true rfl) (Nat.le_of_ble_eq_true rfl)
def zY_X8_init_0 : List zC := [.inr (8, [.inl 0, .inl 0, .inl 2, .inl 2, .inl 2, .inl 2]), .inl (0, 30)]
def zY_X8_init_1 : List zC := [.inr (8, [.inl 0, .inl 0, .inr 1, .inl 2, .inl 2, .inl 2]), .inl (0, 30)]
def zY_X8_init_2 : List zC := [.inr (8, [.inl 0, .inl 0, .inr 1, .inl 2, .inl 2, .inl 2]), .inl (0, 30), .inl (0, 30)]
def zY_X8_init_3 : List zC := [.inr (8, [.inl 0, .inl 0, .inr 1, .inr 2, .inl 2, .inl 2]), .inl (0, 30), .inl (0, 30)]
def zY_X8_init_4 : List zC := [.inr (8, [.inl 0, .inl 0, .inr 1, .inr 2, .inl 2, .inl 2]), .inl (0, 30), .inl (0, 30), .inl (0, 30)]
def zY_X8_init_5 : List zC := [.inr (8, [.inl 0, .inl 0, .inr 1, .inr 2, .inr 3, .inl 2]), .inl (0, 30), .inl (0, 30), .inl (0, 30)]
def zY_X8_init_6 : List zC := [.inr (8, [.inl 0, .inl 0, .inr 1, .inr 2, .inr 3, .inl 2]), .inl (0, 30), .inl (0, 30), .inl (0, 30), .inl (0, 30)]
def zY_X8_init_7 : List zC := [.inr (8, [.inl 0, .inl 0, .inr 1, .inr 2, .inr 3, .inr 4]), .inl (0, 30), .inl (0, 30), .inl (0, 30), .inl (0, 30)]
set_option maxRecDepth 100000 in
set_option maxHeartbeats 40000000 in
theorem c_X8_init (l : Launch) : zCt l yX8_init cX8_init 1 1 4 120 (.inr (8, [.inl 0, .inl 0, .inl 2, .inl 2, .inl 2, .inl 2])) [.ref 0] [.inr (8, [.inl 0, .inl 0, .inr 1, .inr 2, .inr 3, .inr 4]), .inl (0, 30), .inl (0, 30), .inl (0, 30), .inl (0, 30)] zS0 := by
  refine zCt.of (by decide +kernel) rfl (Nat.le_of_ble_eq_true rfl) ?_
  show WG [.inr (8, [.inl 0, .inl 0, .inl 2, .inl 2, .inl 2, .inl 2])] l RX8 cX8_init 1 none (zrc 1 4 120) 1 true (fun _ _ _ => True) (zMQC 4 120 1 [.inr (8, [.inl 0, .inl 0, .inr 1, .inr 2, .inr 3, .inr 4]), .inl (0, 30), .inl (0, 30), .inl (0, 30), .inl (0, 30)] zS0) 0 0 0 [(0, .ref 0)] [] zS0
  refine g_aload_n (pc := 0) (q := 0) dX8_init_0 rfl rfl ?_
  refine g_obj (pc := 1) dX8_init_1 zmo_X8_3 zM_obj.1 zM_obj.2 (by decide) (by decide) (Nat.le_of_ble_eq_true rfl) ?_
  refine g_aload_n (pc := 4) (q := 0) dX8_init_4 rfl rfl ?_
  refine g_bipush (pc := 5) (v := 30) dX8_init_5 zcb_30 ?_
  refine g_newa (pc := 7) (t := 0) (N := 30) (v := 30) (k := 1) (st := [.ref 0]) dX8_init_7 rfl (fun _ => rfl) (fun _ _ h => h) (fun _ _ => ⟨(30, .inl fun _ => 0), rfl, fun _ => rfl⟩) zarr_int (by decide) (by decide) (by decide) (Nat.le_of_ble_eq_true rfl) (Nat.le_of_ble_eq_true rfl) rfl rfl rfl rfl (by decide) (by decide) (zclr_id rfl rfl).symm ?_
  refine g_ly (Ly2 := zY_X8_init_0) rfl ?_
  refine g_putR (pc := 9) (k := 0) (i := 2) (j := 1) (ks := [.inl 0, .inl 0, .inl 2, .inl 2, .inl 2, .inl 2]) dX8_init_9 zq_X8_9 (fun _ => rfl) rfl (by decide) (fun _ => rfl) (fun _ => rfl) ?_
  refine g_ly (Ly2 := zY_X8_init_1) rfl ?_
  refine g_aload_n (pc := 12) (q := 0) dX8_init_12 rfl rfl ?_
  refine g_bipush (pc := 13) (v := 30) dX8_init_13 zcb_30 ?_
  refine g_newa (pc := 15) (t := 0) (N := 30) (v := 30) (k := 2) (st := [.ref 0]) dX8_init_15 rfl (fun _ => rfl) (fun _ _ h => h) (fun _ _ => ⟨(30, .inl fun _ => 0), rfl, fun _ => rfl⟩) zarr_int (by decide) (by decide) (by decide) (Nat.le_of_ble_eq_true rfl) (Nat.le_of_ble_eq_true rfl) rfl rfl rfl rfl (by decide) (by decide) (zclr_id rfl rfl).symm ?_
  refine g_ly (Ly2 := zY_X8_init_2) rfl ?_
  refine g_putR (pc := 17) (k := 0) (i := 3) (j := 2) (ks := [.inl 0, .inl 0, .inr 1, .inl 2, .inl 2, .inl 2]) dX8_init_17 zq_X8_15 (fun _ => rfl) rfl (by decide) (fun _ => rfl) (fun _ => rfl) ?_
  refine g_ly (Ly2 := zY_X8_init_3) rfl ?_
  refine g_aload_n (pc := 20) (q := 0) dX8_init_20 rfl rfl ?_
  refine g_bipush (pc := 21) (v := 30) dX8_init_21 zcb_30 ?_
  refine g_newa (pc := 23) (t := 0) (N := 30) (v := 30) (k := 3) (st := [.ref 0]) dX8_init_23 rfl (fun _ => rfl) (fun _ _ h => h) (fun _ _ => ⟨(30, .inl fun _ => 0), rfl, fun _ => rfl⟩) zarr_int (by decide) (by decide) (by decide) (Nat.le_of_ble_eq_true rfl) (Nat.le_of_ble_eq_true rfl) rfl rfl rfl rfl (by decide) (by decide) (zclr_id rfl rfl).symm ?_
  refine g_ly (Ly2 := zY_X8_init_4) rfl ?_
  refine g_putR (pc := 25) (k := 0) (i := 4) (j := 3) (ks := [.inl 0, .inl 0, .inr 1, .inr 2, .inl 2, .inl 2]) dX8_init_25 zq_X8_18 (fun _ => rfl) rfl (by decide) (fun _ => rfl) (fun _ => rfl) ?_
  refine g_ly (Ly2 := zY_X8_init_5) rfl ?_
  refine g_aload_n (pc := 28) (q := 0) dX8_init_28 rfl rfl ?_
  refine g_bipush (pc := 29) (v := 30) dX8_init_29 zcb_30 ?_
  refine g_newa (pc := 31) (t := 0) (N := 30) (v := 30) (k := 4) (st := [.ref 0]) dX8_init_31 rfl (fun _ => rfl) (fun _ _ h => h) (fun _ _ => ⟨(30, .inl fun _ => 0), rfl, fun _ => rfl⟩) zarr_int (by decide) (by decide) (by decide) (Nat.le_of_ble_eq_true rfl) (Nat.le_of_ble_eq_true rfl) rfl rfl rfl rfl (by decide) (by decide) (zclr_id rfl rfl).symm ?_
  refine g_ly (Ly2 := zY_X8_init_6) rfl ?_
  refine g_putR (pc := 33) (k := 0) (i := 5) (j := 4) (ks := [.inl 0, .inl 0, .inr 1, .inr 2, .inr 3, .inl 2]) dX8_init_33 zq_X8_21 (fun _ => rfl) rfl (by decide) (fun _ => rfl) (fun _ => rfl) ?_
  refine g_ly (Ly2 := zY_X8_init_7) rfl ?_
  exact g_end dX8_init_36 (Nat.le_of_ble_eq_true rfl) (Nat.le_of_ble_eq_true rfl)
def zY_X10_init_0 : List zC := [.inr (10, [.inl 2]), .inl (0, 4)]
def zY_X10_init_1 : List zC := [.inr (10, [.inr 1]), .inl (0, 4)]
set_option maxRecDepth 100000 in
set_option maxHeartbeats 40000000 in
theorem c_X10_init (l : Launch) : zCt l yX10_init cX10_init 1 1 1 4 (.inr (10, [.inl 2])) [.ref 0] [.inr (10, [.inr 1]), .inl (0, 4)] zS0 := by
  refine zCt.of (by decide +kernel) rfl (Nat.le_of_ble_eq_true rfl) ?_
  show WG [.inr (10, [.inl 2])] l RX10 cX10_init 1 none (zrc 1 1 4) 1 true (fun _ _ _ => True) (zMQC 1 4 1 [.inr (10, [.inr 1]), .inl (0, 4)] zS0) 0 0 0 [(0, .ref 0)] [] zS0
  refine g_aload_n (pc := 0) (q := 0) dX10_init_0 rfl rfl ?_
  refine g_obj (pc := 1) dX10_init_1 zmo_X10_3 zM_obj.1 zM_obj.2 (by decide) (by decide) (Nat.le_of_ble_eq_true rfl) ?_
  refine g_aload_n (pc := 4) (q := 0) dX10_init_4 rfl rfl ?_
  refine g_iconst (pc := 5) (v := 4) dX10_init_5 zci_4 ?_
  refine g_newa (pc := 6) (t := 0) (N := 4) (v := 4) (k := 1) (st := [.ref 0]) dX10_init_6 rfl (fun _ => rfl) (fun _ _ h => h) (fun _ _ => ⟨(4, .inl fun _ => 0), rfl, fun _ => rfl⟩) zarr_int (by decide) (by decide) (by decide) (Nat.le_of_ble_eq_true rfl) (Nat.le_of_ble_eq_true rfl) rfl rfl rfl rfl (by decide) (by decide) (zclr_id rfl rfl).symm ?_
  refine g_ly (Ly2 := zY_X10_init_0) rfl ?_
  refine g_putR (pc := 8) (k := 0) (i := 0) (j := 1) (ks := [.inl 2]) dX10_init_8 zq_X10_9 (fun _ => rfl) rfl (by decide) (fun _ => rfl) (fun _ => rfl) ?_
  refine g_ly (Ly2 := zY_X10_init_1) rfl ?_
  exact g_end dX10_init_11 (Nat.le_of_ble_eq_true rfl) (Nat.le_of_ble_eq_true rfl)
def zY_X9_init_0 : List zC := [.inr (9, [.inl 0, .inl 0, .inl 0, .inl 0, .inl 2, .inl 2, .inl 2, .inl 2]), .inl (0, 3)]
def zY_X9_init_1 : List zC := [.inr (9, [.inl 0, .inl 0, .inl 0, .inl 0, .inr 1, .inl 2, .inl 2, .inl 2]), .inl (0, 3)]
def zY_X9_init_2 : List zC := [.inr (9, [.inl 0, .inl 0, .inl 0, .inl 0, .inr 1, .inl 2, .inl 2, .inl 2]), .inl (0, 3), .inl (0, 3)]
def zY_X9_init_3 : List zC := [.inr (9, [.inl 0, .inl 0, .inl 0, .inl 0, .inr 1, .inr 2, .inl 2, .inl 2]), .inl (0, 3), .inl (0, 3)]
def zY_X9_init_4 : List zC := [.inr (9, [.inl 0, .inl 0, .inl 0, .inl 0, .inr 1, .inr 2, .inl 2, .inl 2]), .inl (0, 3), .inl (0, 3), .inl (0, 108)]
def zY_X9_init_5 : List zC := [.inr (9, [.inl 0, .inl 0, .inl 0, .inl 0, .inr 1, .inr 2, .inr 3, .inl 2]), .inl (0, 3), .inl (0, 3), .inl (0, 108)]
def zY_X9_init_6 : List zC := [.inr (9, [.inl 0, .inl 0, .inl 0, .inl 0, .inr 1, .inr 2, .inr 3, .inl 2]), .inl (0, 3), .inl (0, 3), .inl (0, 108), .inr (3, [.inl 0, .inl 0, .inl 0, .inl 2, .inl 2])]
def zY_X9_init_7 : List zC := [.inr (9, [.inl 0, .inl 0, .inl 0, .inl 0, .inr 1, .inr 2, .inr 3, .inl 2]), .inl (0, 3), .inl (0, 3), .inl (0, 108), .inr (3, [.inl 0, .inl 0, .inl 0, .inr 5, .inr 6]), .inl (0, 12), .inl (0, 12)]
def zY_X9_init_8 : List zC := [.inr (9, [.inl 0, .inl 0, .inl 0, .inl 0, .inr 1, .inr 2, .inr 3, .inr 4]), .inl (0, 3), .inl (0, 3), .inl (0, 108), .inr (3, [.inl 0, .inl 0, .inl 0, .inr 5, .inr 6]), .inl (0, 12), .inl (0, 12)]
set_option maxRecDepth 100000 in
set_option maxHeartbeats 40000000 in
theorem c_X9_init (l : Launch) : zCt l yX9_init cX9_init 1 2 6 143 (.inr (9, [.inl 0, .inl 0, .inl 0, .inl 0, .inl 2, .inl 2, .inl 2, .inl 2])) [.ref 0] [.inr (9, [.inl 0, .inl 0, .inl 0, .inl 0, .inr 1, .inr 2, .inr 3, .inr 4]), .inl (0, 3), .inl (0, 3), .inl (0, 108), .inr (3, [.inl 0, .inl 0, .inl 0, .inr 5, .inr 6]), .inl (0, 12), .inl (0, 12)] zS0 := by
  refine zCt.of (by decide +kernel) rfl (Nat.le_of_ble_eq_true rfl) ?_
  show WG [.inr (9, [.inl 0, .inl 0, .inl 0, .inl 0, .inl 2, .inl 2, .inl 2, .inl 2])] l RX9 cX9_init 1 none (zrc 2 6 143) 1 true (fun _ _ _ => True) (zMQC 6 143 1 [.inr (9, [.inl 0, .inl 0, .inl 0, .inl 0, .inr 1, .inr 2, .inr 3, .inr 4]), .inl (0, 3), .inl (0, 3), .inl (0, 108), .inr (3, [.inl 0, .inl 0, .inl 0, .inr 5, .inr 6]), .inl (0, 12), .inl (0, 12)] zS0) 0 0 0 [(0, .ref 0)] [] zS0
  refine g_aload_n (pc := 0) (q := 0) dX9_init_0 rfl rfl ?_
  refine g_obj (pc := 1) dX9_init_1 zmo_X9_3 zM_obj.1 zM_obj.2 (by decide) (by decide) (Nat.le_of_ble_eq_true rfl) ?_
  refine g_aload_n (pc := 4) (q := 0) dX9_init_4 rfl rfl ?_
  refine g_iconst (pc := 5) (v := 3) dX9_init_5 zci_3 ?_
  refine g_newa (pc := 6) (t := 0) (N := 3) (v := 3) (k := 1) (st := [.ref 0]) dX9_init_6 rfl (fun _ => rfl) (fun _ _ h => h) (fun _ _ => ⟨(3, .inl fun _ => 0), rfl, fun _ => rfl⟩) zarr_int (by decide) (by decide) (by decide) (Nat.le_of_ble_eq_true rfl) (Nat.le_of_ble_eq_true rfl) rfl rfl rfl rfl (by decide) (by decide) (zclr_id rfl rfl).symm ?_
  refine g_ly (Ly2 := zY_X9_init_0) rfl ?_
  refine g_putR (pc := 8) (k := 0) (i := 4) (j := 1) (ks := [.inl 0, .inl 0, .inl 0, .inl 0, .inl 2, .inl 2, .inl 2, .inl 2]) dX9_init_8 zq_X9_9 (fun _ => rfl) rfl (by decide) (fun _ => rfl) (fun _ => rfl) ?_
  refine g_ly (Ly2 := zY_X9_init_1) rfl ?_
  refine g_aload_n (pc := 11) (q := 0) dX9_init_11 rfl rfl ?_
  refine g_iconst (pc := 12) (v := 3) dX9_init_12 zci_3 ?_
  refine g_newa (pc := 13) (t := 0) (N := 3) (v := 3) (k := 2) (st := [.ref 0]) dX9_init_13 rfl (fun _ => rfl) (fun _ _ h => h) (fun _ _ => ⟨(3, .inl fun _ => 0), rfl, fun _ => rfl⟩) zarr_int (by decide) (by decide) (by decide) (Nat.le_of_ble_eq_true rfl) (Nat.le_of_ble_eq_true rfl) rfl rfl rfl rfl (by decide) (by decide) (zclr_id rfl rfl).symm ?_
  refine g_ly (Ly2 := zY_X9_init_2) rfl ?_
  refine g_putR (pc := 15) (k := 0) (i := 5) (j := 2) (ks := [.inl 0, .inl 0, .inl 0, .inl 0, .inr 1, .inl 2, .inl 2, .inl 2]) dX9_init_15 zq_X9_15 (fun _ => rfl) rfl (by decide) (fun _ => rfl) (fun _ => rfl) ?_
  refine g_ly (Ly2 := zY_X9_init_3) rfl ?_
  refine g_aload_n (pc := 18) (q := 0) dX9_init_18 rfl rfl ?_
  refine g_bipush (pc := 19) (v := 108) dX9_init_19 zcb_108 ?_
  refine g_newa (pc := 21) (t := 0) (N := 108) (v := 108) (k := 3) (st := [.ref 0]) dX9_init_21 rfl (fun _ => rfl) (fun _ _ h => h) (fun _ _ => ⟨(108, .inl fun _ => 0), rfl, fun _ => rfl⟩) zarr_int (by decide) (by decide) (by decide) (Nat.le_of_ble_eq_true rfl) (Nat.le_of_ble_eq_true rfl) rfl rfl rfl rfl (by decide) (by decide) (zclr_id rfl rfl).symm ?_
  refine g_ly (Ly2 := zY_X9_init_4) rfl ?_
  refine g_putR (pc := 23) (k := 0) (i := 6) (j := 3) (ks := [.inl 0, .inl 0, .inl 0, .inl 0, .inr 1, .inr 2, .inl 2, .inl 2]) dX9_init_23 zq_X9_20 (fun _ => rfl) rfl (by decide) (fun _ => rfl) (fun _ => rfl) ?_
  refine g_ly (Ly2 := zY_X9_init_5) rfl ?_
  refine g_aload_n (pc := 26) (q := 0) dX9_init_26 rfl rfl ?_
  refine g_new (pc := 27) (ci := 3) (ks := [.inl 0, .inl 0, .inl 0, .inl 2, .inl 2]) (k := 4) (st := [.ref 0]) tyX3 dX9_init_27 rfl zcw_X3 tyX3_ok zcl_X9_18 zin_X3 zini_X3 (by decide +kernel) rfl (Nat.le_of_ble_eq_true rfl) (Nat.le_of_ble_eq_true rfl) rfl rfl rfl rfl (by decide) (by decide) (zclr_id rfl rfl).symm ?_
  refine g_ly (Ly2 := zY_X9_init_6) rfl ?_
  refine g_dup (pc := 30) dX9_init_30 rfl ?_
  refine g_ctor (pc := 31) (ext := 0) (k := 4) (Lp := zY_X9_init_5) (Ly2 := zY_X9_init_7) (st := [.ref 4, .ref 0]) (S2 := zS0) [] dX9_init_31 zm_X9_23 zMc_X3_init ⟨by decide, by decide⟩ ⟨(Nat.le_of_ble_eq_true rfl), (Nat.le_of_ble_eq_true rfl)⟩ (c_X3_init l) rfl rfl rfl ⟨rfl, rfl⟩ rfl rfl rfl rfl rfl (by decide) (Or.inl (by decide)) (by decide) rfl rfl (Nat.le_of_ble_eq_true rfl) rfl (zcat0 4).symm ?_
  refine g_putR (pc := 34) (k := 0) (i := 7) (j := 4) (ks := [.inl 0, .inl 0, .inl 0, .inl 0, .inr 1, .inr 2, .inr 3, .inl 2]) dX9_init_34 zq_X9_24 (fun _ => rfl) rfl (by decide) (fun _ => rfl) (fun _ => rfl) ?_
  refine g_ly (Ly2 := zY_X9_init_8) rfl ?_
  exact g_end dX9_init_37 (Nat.le_of_ble_eq_true rfl) (Nat.le_of_ble_eq_true rfl)
def f_X7_init_R_L34 : Nat → Int32 → Int32 → zS → Option zS
  | 0, _, _, _ => none
  | n + 1, x2, x3, S =>
    zb (f_J0_length_8abf5_R_1001 S) fun r3 T2 =>
    if x3 < r3 then
      if x2 < 24 then
        zb (f_J0_charAt_5068e_R_1001 x3 T2) fun r8 T7 =>
        if r8 = 32 then
          zlet (x2 + 1) fun v10 =>
          zlet (x3 + 1) fun v11 =>
          (f_X7_init_R_L34 n) v10 v11 T7
        else
          if zin x2 24 then
          zb (f_J0_charAt_5068e_R_1001 x3 T7) fun r13 T12 =>
          if zin x2 24 then
          zlet (zputL T12 2 x2.toNatClampNeg (((T7.2 2 x2.toNatClampNeg) <<< (Int32.toInt64 5 &&& 63)) ||| (Int32.toInt64 ((r13 - 97) + 1)))) fun T15 =>
          zlet (x3 + 1) fun v16 =>
          (f_X7_init_R_L34 n) x2 v16 T15 else none else none
      else
        some T2
    else
      some T2
set_option maxRecDepth 100000 in
theorem w_X7_init_R_L34 (l : Launch) {S1 : zS} : ∀ (n : Nat) (x2 : Int32) (x3 : Int32) (S : zS), f_X7_init_R_L34 n x2 x3 S = some S1 → WG zLR l RX7 cX7_init 4 none (zrc 5 2 43) 1 true (fun _ _ _ => True) (zMQC 2 43 1 zLR S1) 2 43 34 [(0, .ref 0), (2, .int x2), (3, .int x3)] [] S := by
  intro n
  induction n with
  | zero =>
    intro x2 x3 S h
    exact nomatch h
  | succ n ih =>
    intro x2 x3 S h
    rw [f_X7_init_R_L34] at h
    refine g_iload_n (pc := 34) (q := 2) dX7_init_34 rfl rfl ?_
    refine g_ldcS1001 (pc := 35) dX7_init_35 ?_
    obtain ⟨r3, T2, q1, h⟩ := zb_some h
    refine g_callVS (pc := 37) (st := [.int x3]) 1 [] dX7_init_37 zm_X7_30 zM_J0_length_8abf5 ⟨by decide, by decide⟩ ⟨by decide, by decide⟩ (by decide) rfl (w_J0_length_8abf5_R_1001 l q1) rfl rfl (Nat.le_of_ble_eq_true rfl) ?_
    refine g_icmp_ge (pc := 40) (tgt := 99) dX7_init_40 (by decide) (fun c4 => ?_) (fun c4 => ?_)
    · have h := ze_some c4 h
      cases h
      exact g_end dX7_init_99 (by decide) (by decide)
    · have h := zt_some c4 h
      refine g_iload_n (pc := 43) (q := 1) dX7_init_43 rfl rfl ?_
      refine g_bipush (pc := 44) (v := 24) dX7_init_44 zcb_24 ?_
      refine g_icmp_ge (pc := 46) (tgt := 99) dX7_init_46 (by decide) (fun c5 => ?_) (fun c5 => ?_)
      · have h := ze_some c5 h
        cases h
        exact g_end dX7_init_99 (by decide) (by decide)
      · have h := zt_some c5 h
        refine g_ldcS1001 (pc := 49) dX7_init_49 ?_
        refine g_iload_n (pc := 51) (q := 2) dX7_init_51 rfl rfl ?_
        obtain ⟨r8, T7, q6, h⟩ := zb_some h
        refine g_callVS (pc := 52) (st := []) 1 [.int x3] dX7_init_52 zm_X7_36 zM_J0_charAt_5068e ⟨by decide, by decide⟩ ⟨by decide, by decide⟩ (by decide) rfl (w_J0_charAt_5068e_R_1001 l q6) rfl rfl (Nat.le_of_ble_eq_true rfl) ?_
        refine g_bipush (pc := 55) (v := 32) dX7_init_55 zcb_32 ?_
        refine g_icmp_ne (pc := 57) (tgt := 66) dX7_init_57 (by decide) (fun c9 => ?_) (fun c9 => ?_)
        · have h := ze_some c9 h
          refine g_aload_n (pc := 66) (q := 0) dX7_init_66 rfl rfl ?_
          refine g_getR (pc := 67) dX7_init_67 zf_X7_25 gR_0_13 ?_
          refine g_iload_n (pc := 70) (q := 1) dX7_init_70 rfl rfl ?_
          refine g_aload_n (pc := 71) (q := 0) dX7_init_71 rfl rfl ?_
          refine g_getR (pc := 72) dX7_init_72 zf_X7_25 gR_0_13 ?_
          refine g_iload_n (pc := 75) (q := 1) dX7_init_75 rfl rfl ?_
          obtain ⟨c10, h⟩ := zg_some h
          refine g_lald (pc := 76) dX7_init_76 aR_2 c10 ?_
          refine g_iconst (pc := 77) (v := 5) dX7_init_77 zci_5 ?_
          refine g_lshl (pc := 78) dX7_init_78 ?_
          refine g_ldcS1001 (pc := 79) dX7_init_79 ?_
          refine g_iload_n (pc := 81) (q := 2) dX7_init_81 rfl rfl ?_
          obtain ⟨r13, T12, q11, h⟩ := zb_some h
          refine g_callVS (pc := 82) (st := [.long ((T7.2 2 x2.toNatClampNeg) <<< (Int32.toInt64 5 &&& 63)), .int x2, .ref 2]) 1 [.int x3] dX7_init_82 zm_X7_36 zM_J0_charAt_5068e ⟨by decide, by decide⟩ ⟨by decide, by decide⟩ (by decide) rfl (w_J0_charAt_5068e_R_1001 l q11) rfl rfl (Nat.le_of_ble_eq_true rfl) ?_
          refine g_bipush (pc := 85) (v := 97) dX7_init_85 zcb_97 ?_
          refine g_isub (pc := 87) dX7_init_87 ?_
          refine g_iconst (pc := 88) (v := 1) dX7_init_88 zci_1 ?_
          refine g_iadd (pc := 89) dX7_init_89 ?_
          refine g_i2l (pc := 90) dX7_init_90 ?_
          refine g_lor (pc := 91) dX7_init_91 ?_
          obtain ⟨c14, h⟩ := zg_some h
          obtain ⟨T15, eT15, h⟩ := zl_some h
          refine g_last (pc := 92) dX7_init_92 aR_2 c14 eT15 ?_
          obtain ⟨v16, ev16, h⟩ := zl_some h
          refine g_iinc (pc := 93) (q := 2) (v := v16) (lo' := [(3, .int v16), (0, .ref 0), (2, .int x2)]) dX7_init_93 rfl (by rw [ev16, zci_1]) (by decide) rfl ?_
          refine g_goto (pc := 96) (tgt := 34) dX7_init_96 (by decide) ?_
          exact g_sub [1, 2, 0] rfl (ih x2 v16 T15 h)
        · have h := zt_some c9 h
          obtain ⟨v10, ev10, h⟩ := zl_some h
          refine g_iinc (pc := 60) (q := 1) (v := v10) (lo' := [(2, .int v10), (0, .ref 0), (3, .int x3)]) dX7_init_60 rfl (by rw [ev10, zci_1]) (by decide) rfl ?_
          refine g_goto (pc := 63) (tgt := 93) dX7_init_63 (by decide) ?_
          obtain ⟨v11, ev11, h⟩ := zl_some h
          refine g_iinc (pc := 93) (q := 2) (v := v11) (lo' := [(3, .int v11), (2, .int v10), (0, .ref 0)]) dX7_init_93 rfl (by rw [ev11, zci_1]) (by decide) rfl ?_
          refine g_goto (pc := 96) (tgt := 34) dX7_init_96 (by decide) ?_
          exact g_sub [2, 1, 0] rfl (ih v10 v11 T7 h)
/-! the hedge's clearing, on blank cells -/
def zSHf : zS := zput (zput zS0 0 0 8) 0 10 1
theorem zSH_loop (e : Nat) : ∀ m i : Nat, i + m = 12 → f_X4_clear_H_0_L33 (m + 1 + e) (nI i) (zput zS0 0 0 8) = some zSHf := by
  intro m
  induction m with
  | zero =>
    intro i hi
    have hi : i = 12 := by omega
    subst hi
    rw [show 0 + 1 + e = e + 1 by omega, f_X4_clear_H_0_L33, if_neg (by decide), zlet_def, zlet_def, zlet_def, zput_same (S := zput zS0 0 0 8) (k := 0) (i := 9) (x := 0) rfl, f_X2_clear_H_4, zlet_def, zlet_def, zput_same (S := zput (zput zS0 0 0 8) 0 10 1) (k := 0) (i := 11) (x := 0) rfl, zput_same (S := zput (zput zS0 0 0 8) 0 10 1) (k := 4) (i := 0) (x := 0) rfl, zput_same (S := zput (zput zS0 0 0 8) 0 10 1) (k := 4) (i := 1) (x := 0) rfl]
    rfl
  | succ m ih =>
    intro i hi
    rw [show m + 1 + 1 + e = (m + 1 + e) + 1 by omega, f_X4_clear_H_0_L33, if_pos (show nI i < 12 from nI_lt (b := 12) (by omega) (by omega)), if_pos (show zin (nI i) 12 from vp_in_nI (by omega) (by omega)), zlet_def, zlet_def, zput_same (S := zput zS0 0 0 8) (k := 3) (x := 0) rfl, nI_1]
    exact ih (i + 1) (by omega)
theorem zSHf_ok : f_X4_clear_H_0 zS0 = some zSHf := by
  rw [f_X4_clear_H_0, zlet_def, zlet_def, zlet_def, zlet_def, zlet_def, zlet_def, zput_same (S := zput zS0 0 0 8) (k := 0) (i := 1) (x := 0) rfl, zput_same (S := zput zS0 0 0 8) (k := 0) (i := 2) (x := 0) rfl, zput_same (S := zput zS0 0 0 8) (k := 0) (i := 3) (x := 0) rfl, zput_same (S := zput zS0 0 0 8) (k := 0) (i := 4) (x := 0) rfl, zput_same (S := zput zS0 0 0 8) (k := 0) (i := 6) (x := 0) rfl]
  exact zSH_loop 9987 12 0 rfl
/-! the reader's words -/
def zres : List Int64 := [658549939, 17171924, 21479715, 75148, 16829081, 24165011, 248311, 6897268, 149559, 402629, 8439961, 486, 52, 624435, 47364243, 19512067475, 89, 498, 1476, 14836, 1253, 20579685, 463922, 824370]
def zI_X7_init_1' : zS := zput zS0 0 1 (-1)
theorem zcodR (S : zS) : f_J0_coder_7d493_R_1001 S = some (0, S) := by
  unfold f_J0_coder_7d493_R_1001
  rw [if_neg (by decide)]
theorem zlenR (S : zS) : f_J0_length_8abf5_R_1001 S = some (123, S) := by
  unfold f_J0_length_8abf5_R_1001
  rw [zcodR, zb_def, show (123 : Int32) >>> (0 &&& 31) = 123 by decide]
theorem zlatR (S : zS) : f_J0_isLatin1_aae02_R_1001 S = some (1, S) := by
  unfold f_J0_isLatin1_aae02_R_1001
  rw [if_neg (by decide), if_pos (by decide)]
theorem zchkR {x y : Int32} {S : zS} {r : Int32} {T : zS} (h : f_J3_checkIndex_8e157_R_n x y S = some (r, T)) : T = S := by
  unfold f_J3_checkIndex_8e157_R_n at h
  by_cases h1 : x < 0
  · cases zt_some h1 h
  · have h2 := ze_some h1 h
    by_cases h3 : x < y
    · have h4 := zt_some h3 h2
      cases h4
      rfl
    · cases ze_some h3 h2
theorem zchrR {x : Int32} {S : zS} {r : Int32} {T : zS} (h : f_J0_charAt_5068e_R_1001 x S = some (r, T)) : T = S := by
  unfold f_J0_charAt_5068e_R_1001 at h
  rw [zlatR, zb_def, if_neg (by decide)] at h
  obtain ⟨r2, T2, q2, h2⟩ := zb_some h
  obtain ⟨c2, h3⟩ := zg_some h2
  cases h3
  unfold f_J1_charAt_3b067_R_1011 at q2
  obtain ⟨T3, q3, h4⟩ := zu_some q2
  obtain ⟨c4, h5⟩ := zg_some h4
  obtain ⟨c5, h6⟩ := zg_some h5
  cases h6
  unfold f_J0_checkIndex_df160_R at q3
  obtain ⟨r4, T4, q4, h7⟩ := zb_some q3
  cases h7
  exact zchkR q4
theorem zR_frame : ∀ (n : Nat) (x2 x3 : Int32) (S S1 : zS), f_X7_init_R_L34 n x2 x3 S = some S1 → S1.1 = S.1 ∧ (∀ k, k ≠ 2 → S1.2 k = S.2 k) ∧ ∀ i, 24 ≤ i → S1.2 2 i = S.2 2 i := by
  intro n
  induction n with
  | zero => intro x2 x3 S S1 h; exact nomatch h
  | succ n ih =>
    intro x2 x3 S S1 h
    rw [f_X7_init_R_L34, zlenR, zb_def] at h
    by_cases h1 : x3 < 123
    · have k1 := zt_some h1 h
      by_cases h2 : x2 < 24
      · have k2 := zt_some h2 k1
        obtain ⟨r8, T7, q6, k3⟩ := zb_some k2
        have e7 := zchrR q6
        rw [e7] at k3
        by_cases h3 : r8 = 32
        · exact ih _ _ _ _ (zt_some h3 k3)
        · obtain ⟨c1, k5⟩ := zg_some (ze_some h3 k3)
          obtain ⟨r13, T12, q12, k6⟩ := zb_some k5
          have e12 := zchrR q12
          rw [e12] at k6
          obtain ⟨c2, k7⟩ := zg_some k6
          obtain ⟨g1, g2, g3⟩ := ih _ _ _ _ k7
          refine ⟨g1, fun k hk => ?_, fun i hi => ?_⟩
          · rw [g2 k hk]
            simp [zputL, hk]
          · rw [g3 i hi]
            have hne : i ≠ x2.toNatClampNeg := by
              have hlt := Nat.not_le.mp (fun z => c2 (Or.inr z))
              omega
            simp [zputL, vp_updL, hne]
      · cases ze_some h2 k1
        exact ⟨rfl, fun _ _ => rfl, fun _ _ => rfl⟩
    · cases ze_some h1 h
      exact ⟨rfl, fun _ _ => rfl, fun _ _ => rfl⟩
def zSRf : zS := ((zput zS0 0 1 (-1)).1, fun k => if k = 2 then fun i => zres.getD i 0 else fun _ => 0)
def zRcheck : Bool := match f_X7_init_R_L34 zN 0 0 (zput zS0 0 1 (-1)) with
  | some S => (List.range 24).all (fun i => S.2 2 i == zres.getD i 0)
  | none => false
set_option maxRecDepth 1000000 in
theorem zRcheck_ok : zRcheck = true := by decide +kernel
theorem zSRf_ok : f_X7_init_R_L34 zN 0 0 (zput zS0 0 1 (-1)) = some zSRf := by
  have h := zRcheck_ok
  unfold zRcheck at h
  cases hf : f_X7_init_R_L34 zN 0 0 (zput zS0 0 1 (-1)) with
  | none => rw [hf] at h; cases h
  | some S =>
    rw [hf] at h
    obtain ⟨g1, g2, g3⟩ := zR_frame _ _ _ _ _ hf
    refine congrArg some ?_
    refine Prod.ext g1 (funext fun k => ?_)
    by_cases hk : k = 2
    · subst hk
      funext i
      show S.2 2 i = zres.getD i 0
      by_cases hi : i < 24
      · have := List.all_eq_true.mp h i (List.mem_range.mpr hi)
        exact eq_of_beq this
      · rw [g3 i (by omega)]
        rw [List.getD_eq_getElem?_getD, List.getElem?_eq_none (by simp [zres]; omega)]
        rfl
    · rw [g2 k hk]
      simp [zSRf, hk]
      rfl
def zk_X4_init_0 : List (Nat ⊕ Nat) := [.inl 0, .inl 0, .inl 0, .inl 0, .inl 0, .inl 2, .inl 0, .inl 2, .inl 2, .inl 0, .inl 0, .inl 0, .inl 2, .inl 2]
def zY_X4_init_0 : List zC := [.inr (4, zk_X4_init_0), .inl (0, 4)]
def zk_X4_init_1 : List (Nat ⊕ Nat) := [.inl 0, .inl 0, .inl 0, .inl 0, .inl 0, .inr 1, .inl 0, .inl 2, .inl 2, .inl 0, .inl 0, .inl 0, .inl 2, .inl 2]
def zY_X4_init_1 : List zC := [.inr (4, zk_X4_init_1), .inl (0, 4)]
def zY_X4_init_2 : List zC := [.inr (4, zk_X4_init_1), .inl (0, 4), .inl (0, 12)]
def zk_X4_init_2 : List (Nat ⊕ Nat) := [.inl 0, .inl 0, .inl 0, .inl 0, .inl 0, .inr 1, .inl 0, .inr 2, .inl 2, .inl 0, .inl 0, .inl 0, .inl 2, .inl 2]
def zY_X4_init_3 : List zC := [.inr (4, zk_X4_init_2), .inl (0, 4), .inl (0, 12)]
def zY_X4_init_4 : List zC := [.inr (4, zk_X4_init_2), .inl (0, 4), .inl (0, 12), .inl (0, 12)]
def zk_X4_init_3 : List (Nat ⊕ Nat) := [.inl 0, .inl 0, .inl 0, .inl 0, .inl 0, .inr 1, .inl 0, .inr 2, .inr 3, .inl 0, .inl 0, .inl 0, .inl 2, .inl 2]
def zY_X4_init_5 : List zC := [.inr (4, zk_X4_init_3), .inl (0, 4), .inl (0, 12), .inl (0, 12)]
def zY_X4_init_6 : List zC := [.inr (4, zk_X4_init_3), .inl (0, 4), .inl (0, 12), .inl (0, 12), .inr (2, [.inl 0, .inl 0, .inl 2, .inl 2, .inl 2])]
def zY_X4_init_7 : List zC := [.inr (4, zk_X4_init_3), .inl (0, 4), .inl (0, 12), .inl (0, 12), .inr (2, [.inl 0, .inl 0, .inr 5, .inr 6, .inr 7]), .inl (0, 272), .inl (0, 5), .inl (0, 32)]
def zk_X4_init_4 : List (Nat ⊕ Nat) := [.inl 0, .inl 0, .inl 0, .inl 0, .inl 0, .inr 1, .inl 0, .inr 2, .inr 3, .inl 0, .inl 0, .inl 0, .inr 4, .inl 2]
def zY_X4_init_8 : List zC := [.inr (4, zk_X4_init_4), .inl (0, 4), .inl (0, 12), .inl (0, 12), .inr (2, [.inl 0, .inl 0, .inr 5, .inr 6, .inr 7]), .inl (0, 272), .inl (0, 5), .inl (0, 32)]
def zY_X4_init_9 : List zC := [.inr (4, zk_X4_init_4), .inl (0, 4), .inl (0, 12), .inl (0, 12), .inr (2, [.inl 0, .inl 0, .inr 5, .inr 6, .inr 7]), .inl (0, 272), .inl (0, 5), .inl (0, 32), .inr (1, [.inl 2, .inl 2, .inl 2, .inl 2, .inl 2, .inl 2, .inl 2])]
def zY_X4_init_10 : List zC := [.inr (4, zk_X4_init_4), .inl (0, 4), .inl (0, 12), .inl (0, 12), .inr (2, [.inl 0, .inl 0, .inr 5, .inr 6, .inr 7]), .inl (0, 272), .inl (0, 5), .inl (0, 32), .inr (1, [.inr 9, .inr 10, .inr 11, .inr 12, .inr 13, .inr 14, .inr 15]), .inl (0, 12), .inl (0, 12), .inl (0, 12), .inl (0, 12), .inl (0, 12), .inl (0, 12), .inl (0, 12)]
def zk_X4_init_5 : List (Nat ⊕ Nat) := [.inl 0, .inl 0, .inl 0, .inl 0, .inl 0, .inr 1, .inl 0, .inr 2, .inr 3, .inl 0, .inl 0, .inl 0, .inr 4, .inr 8]
def zY_X4_init_11 : List zC := [.inr (4, zk_X4_init_5), .inl (0, 4), .inl (0, 12), .inl (0, 12), .inr (2, [.inl 0, .inl 0, .inr 5, .inr 6, .inr 7]), .inl (0, 272), .inl (0, 5), .inl (0, 32), .inr (1, [.inr 9, .inr 10, .inr 11, .inr 12, .inr 13, .inr 14, .inr 15]), .inl (0, 12), .inl (0, 12), .inl (0, 12), .inl (0, 12), .inl (0, 12), .inl (0, 12), .inl (0, 12)]
set_option maxRecDepth 100000 in
set_option maxHeartbeats 40000000 in
theorem c_X4_init (l : Launch) : zCt l yX4_init cX4_init 1 3 15 433 (.inr (4, zk_X4_init_0)) [.ref 0] zLH zSHf := by
  refine zCt.of (by decide +kernel) rfl (Nat.le_of_ble_eq_true rfl) ?_
  show WG [.inr (4, zk_X4_init_0)] l RX4 cX4_init 1 none (zrc 3 15 433) 1 true (fun _ _ _ => True) (zMQC 15 433 1 zLH zSHf) 0 0 0 [(0, .ref 0)] [] zS0
  refine g_aload_n (pc := 0) (q := 0) dX4_init_0 rfl rfl ?_
  refine g_obj (pc := 1) dX4_init_1 zmo_X4_3 zM_obj.1 zM_obj.2 (by decide) (by decide) (Nat.le_of_ble_eq_true rfl) ?_
  refine g_aload_n (pc := 4) (q := 0) dX4_init_4 rfl rfl ?_
  refine g_iconst (pc := 5) (v := 4) dX4_init_5 zci_4 ?_
  refine g_newa (pc := 6) (t := 0) (N := 4) (v := 4) (k := 1) (st := [.ref 0]) dX4_init_6 rfl (fun _ => rfl) (fun _ _ h => h) (fun _ _ => ⟨(4, .inl fun _ => 0), rfl, fun _ => rfl⟩) zarr_int (by decide) (by decide) (by decide) (Nat.le_of_ble_eq_true rfl) (Nat.le_of_ble_eq_true rfl) rfl rfl rfl rfl (by decide) (by decide) (zclr_id rfl rfl).symm ?_
  refine g_ly (Ly2 := zY_X4_init_0) rfl ?_
  refine g_putR (pc := 8) (k := 0) (i := 5) (j := 1) (ks := zk_X4_init_0) dX4_init_8 zq_X4_9 (fun _ => rfl) rfl (by decide) (fun _ => rfl) (fun _ => rfl) ?_
  refine g_ly (Ly2 := zY_X4_init_1) rfl ?_
  refine g_aload_n (pc := 11) (q := 0) dX4_init_11 rfl rfl ?_
  refine g_bipush (pc := 12) (v := 12) dX4_init_12 zcb_12 ?_
  refine g_newa (pc := 14) (t := 0) (N := 12) (v := 12) (k := 2) (st := [.ref 0]) dX4_init_14 rfl (fun _ => rfl) (fun _ _ h => h) (fun _ _ => ⟨(12, .inl fun _ => 0), rfl, fun _ => rfl⟩) zarr_int (by decide) (by decide) (by decide) (Nat.le_of_ble_eq_true rfl) (Nat.le_of_ble_eq_true rfl) rfl rfl rfl rfl (by decide) (by decide) (zclr_id rfl rfl).symm ?_
  refine g_ly (Ly2 := zY_X4_init_2) rfl ?_
  refine g_putR (pc := 16) (k := 0) (i := 7) (j := 2) (ks := zk_X4_init_1) dX4_init_16 zq_X4_15 (fun _ => rfl) rfl (by decide) (fun _ => rfl) (fun _ => rfl) ?_
  refine g_ly (Ly2 := zY_X4_init_3) rfl ?_
  refine g_aload_n (pc := 19) (q := 0) dX4_init_19 rfl rfl ?_
  refine g_bipush (pc := 20) (v := 12) dX4_init_20 zcb_12 ?_
  refine g_newa (pc := 22) (t := 0) (N := 12) (v := 12) (k := 3) (st := [.ref 0]) dX4_init_22 rfl (fun _ => rfl) (fun _ _ h => h) (fun _ _ => ⟨(12, .inl fun _ => 0), rfl, fun _ => rfl⟩) zarr_int (by decide) (by decide) (by decide) (Nat.le_of_ble_eq_true rfl) (Nat.le_of_ble_eq_true rfl) rfl rfl rfl rfl (by decide) (by decide) (zclr_id rfl rfl).symm ?_
  refine g_ly (Ly2 := zY_X4_init_4) rfl ?_
  refine g_putR (pc := 24) (k := 0) (i := 8) (j := 3) (ks := zk_X4_init_2) dX4_init_24 zq_X4_18 (fun _ => rfl) rfl (by decide) (fun _ => rfl) (fun _ => rfl) ?_
  refine g_ly (Ly2 := zY_X4_init_5) rfl ?_
  refine g_aload_n (pc := 27) (q := 0) dX4_init_27 rfl rfl ?_
  refine g_new (pc := 28) (ci := 2) (ks := [.inl 0, .inl 0, .inl 2, .inl 2, .inl 2]) (k := 4) (st := [.ref 0]) tyX2 dX4_init_28 rfl zcw_X2 tyX2_ok zcl_X4_21 zin_X2 zini_X2 (by decide +kernel) rfl (Nat.le_of_ble_eq_true rfl) (Nat.le_of_ble_eq_true rfl) rfl rfl rfl rfl (by decide) (by decide) (zclr_id rfl rfl).symm ?_
  refine g_ly (Ly2 := zY_X4_init_6) rfl ?_
  refine g_dup (pc := 31) dX4_init_31 rfl ?_
  refine g_ctor (pc := 32) (ext := 0) (k := 4) (Lp := zY_X4_init_5) (Ly2 := zY_X4_init_7) (st := [.ref 4, .ref 0]) (S2 := zS0) [] dX4_init_32 zm_X4_23 zMc_X2_init ⟨by decide, by decide⟩ ⟨(Nat.le_of_ble_eq_true rfl), (Nat.le_of_ble_eq_true rfl)⟩ (c_X2_init l) rfl rfl rfl ⟨rfl, rfl⟩ rfl rfl rfl rfl rfl (by decide) (Or.inl (by decide)) (by decide) rfl rfl (Nat.le_of_ble_eq_true rfl) rfl (zcat0 4).symm ?_
  refine g_putR (pc := 35) (k := 0) (i := 12) (j := 4) (ks := zk_X4_init_3) dX4_init_35 zq_X4_24 (fun _ => rfl) rfl (by decide) (fun _ => rfl) (fun _ => rfl) ?_
  refine g_ly (Ly2 := zY_X4_init_8) rfl ?_
  refine g_aload_n (pc := 38) (q := 0) dX4_init_38 rfl rfl ?_
  refine g_new (pc := 39) (ci := 1) (ks := [.inl 2, .inl 2, .inl 2, .inl 2, .inl 2, .inl 2, .inl 2]) (k := 8) (st := [.ref 0]) tyX1 dX4_init_39 rfl zcw_X1 tyX1_ok zcl_X4_28 zin_X1 zini_X1 (by decide +kernel) rfl (Nat.le_of_ble_eq_true rfl) (Nat.le_of_ble_eq_true rfl) rfl rfl rfl rfl (by decide) (by decide) (zclr_id rfl rfl).symm ?_
  refine g_ly (Ly2 := zY_X4_init_9) rfl ?_
  refine g_dup (pc := 42) dX4_init_42 rfl ?_
  refine g_ctor (pc := 43) (ext := 0) (k := 8) (Lp := zY_X4_init_8) (Ly2 := zY_X4_init_10) (st := [.ref 8, .ref 0]) (S2 := zS0) [] dX4_init_43 zm_X4_30 zMc_X1_init ⟨by decide, by decide⟩ ⟨(Nat.le_of_ble_eq_true rfl), (Nat.le_of_ble_eq_true rfl)⟩ (c_X1_init l) rfl rfl rfl ⟨rfl, rfl⟩ rfl rfl rfl rfl rfl (by decide) (Or.inl (by decide)) (by decide) rfl rfl (Nat.le_of_ble_eq_true rfl) rfl (zcat0 8).symm ?_
  refine g_putR (pc := 46) (k := 0) (i := 13) (j := 8) (ks := zk_X4_init_4) dX4_init_46 zq_X4_31 (fun _ => rfl) rfl (by decide) (fun _ => rfl) (fun _ => rfl) ?_
  refine g_ly (Ly2 := zY_X4_init_11) rfl ?_
  refine g_aload_n (pc := 49) (q := 0) dX4_init_49 rfl rfl ?_
  refine g_ly (Ly2 := zLH) rfl ?_
  refine g_callV (pc := 50) (st := []) [] dX4_init_50 zm_X4_35 zM_X4_clear ⟨by decide, by decide⟩ ⟨(Nat.le_of_ble_eq_true rfl), (Nat.le_of_ble_eq_true rfl)⟩ oH_0 rfl (w_X4_clear_H_0 l zSHf_ok) rfl rfl (Nat.le_of_ble_eq_true rfl) ?_
  refine g_nil (st := []) ?_
  exact g_end dX4_init_53 (Nat.le_of_ble_eq_true rfl) (Nat.le_of_ble_eq_true rfl)
def zI_X7_init_1 : zS := zput zS0 0 1 (-1)
def zk_X7_init_0 : List (Nat ⊕ Nat) := [.inl 0, .inl 0, .inl 2, .inl 0, .inl 0, .inl 0, .inl 0, .inl 0, .inl 1, .inl 0, .inl 0, .inl 0, .inl 2, .inl 2]
def zk_X7_init_1 : List (Nat ⊕ Nat) := [.inl 0, .inl 0, .inr 900, .inl 0, .inl 0, .inl 0, .inl 0, .inl 0, .inl 1, .inl 0, .inl 0, .inl 0, .inl 2, .inl 2]
def zY_X7_init_0 : List zC := [.inr (7, zk_X7_init_1), .inl (1, 19)]
def zk_X7_init_2 : List (Nat ⊕ Nat) := [.inl 0, .inl 0, .inr 900, .inl 0, .inl 0, .inl 0, .inl 0, .inl 0, .inl 1, .inl 0, .inl 0, .inl 0, .inr 1, .inl 2]
def zY_X7_init_1 : List zC := [.inr (7, zk_X7_init_2), .inl (1, 19)]
def zY_X7_init_2 : List zC := [.inr (7, zk_X7_init_2), .inl (1, 19), .inl (1, 24)]
def zk_X7_init_3 : List (Nat ⊕ Nat) := [.inl 0, .inl 0, .inr 900, .inl 0, .inl 0, .inl 0, .inl 0, .inl 0, .inl 1, .inl 0, .inl 0, .inl 0, .inr 1, .inr 2]
def zY_X7_init_3 : List zC := [.inr (7, zk_X7_init_3), .inl (1, 19), .inl (1, 24)]
set_option maxRecDepth 100000 in
set_option maxHeartbeats 40000000 in
theorem c_X7_init (l : Launch) : zCt l yX7_init cX7_init 4 5 2 43 (.inr (7, zk_X7_init_0)) [.ref 0, .ref 900] zLR zSRf := by
  refine zCt.of (by decide +kernel) rfl (Nat.le_of_ble_eq_true rfl) ?_
  show WG [.inr (7, zk_X7_init_0)] l RX7 cX7_init 4 none (zrc 5 2 43) 1 true (fun _ _ _ => True) (zMQC 2 43 1 zLR zSRf) 0 0 0 [(0, .ref 0), (1, .ref 900)] [] zS0
  refine g_aload_n (pc := 0) (q := 0) dX7_init_0 rfl rfl ?_
  refine g_obj (pc := 1) dX7_init_1 zmo_X7_7 zM_obj.1 zM_obj.2 (by decide) (by decide) (Nat.le_of_ble_eq_true rfl) ?_
  refine g_aload_n (pc := 4) (q := 0) dX7_init_4 rfl rfl ?_
  refine g_iconst (pc := 5) (v := (-1)) dX7_init_5 zci_m1 ?_
  refine g_putI (pc := 6) (S2 := zI_X7_init_1) dX7_init_6 zp_X7_13 (show zget [.inr (7, zk_X7_init_0)] 0 1 = some (7, .inl 0) from rfl) rfl rfl rfl ?_
  refine g_aload_n (pc := 9) (q := 0) dX7_init_9 rfl rfl ?_
  refine g_aload_n (pc := 10) (q := 1) dX7_init_10 rfl rfl ?_
  refine g_putR (pc := 11) (k := 0) (i := 2) (j := 900) (ks := zk_X7_init_0) dX7_init_11 zq_X7_17 (fun _ => rfl) rfl (by decide) (fun _ => rfl) (fun _ => rfl) ?_
  refine g_ly (Ly2 := [.inr (7, zk_X7_init_1)]) rfl ?_
  refine g_aload_n (pc := 14) (q := 0) dX7_init_14 rfl rfl ?_
  refine g_bipush (pc := 15) (v := 19) dX7_init_15 zcb_19 ?_
  refine g_newa (pc := 17) (t := 1) (N := 19) (v := 19) (k := 1) (st := [.ref 0]) dX7_init_17 rfl (fun _ => rfl) (fun _ _ h => h) (fun _ _ => ⟨(19, .inr (.inl fun _ => 0)), rfl, fun _ => rfl⟩) zarr_long (by decide) (by decide) (by decide) (Nat.le_of_ble_eq_true rfl) (Nat.le_of_ble_eq_true rfl) rfl rfl rfl rfl (by decide) (by decide) (zclr_id rfl rfl).symm ?_
  refine g_ly (Ly2 := zY_X7_init_0) rfl ?_
  refine g_putR (pc := 19) (k := 0) (i := 12) (j := 1) (ks := zk_X7_init_1) dX7_init_19 zq_X7_21 (fun _ => rfl) rfl (by decide) (fun _ => rfl) (fun _ => rfl) ?_
  refine g_ly (Ly2 := zY_X7_init_1) rfl ?_
  refine g_aload_n (pc := 22) (q := 0) dX7_init_22 rfl rfl ?_
  refine g_bipush (pc := 23) (v := 24) dX7_init_23 zcb_24 ?_
  refine g_newa (pc := 25) (t := 1) (N := 24) (v := 24) (k := 2) (st := [.ref 0]) dX7_init_25 rfl (fun _ => rfl) (fun _ _ h => h) (fun _ _ => ⟨(24, .inr (.inl fun _ => 0)), rfl, fun _ => rfl⟩) zarr_long (by decide) (by decide) (by decide) (Nat.le_of_ble_eq_true rfl) (Nat.le_of_ble_eq_true rfl) rfl rfl rfl rfl (by decide) (by decide) (zclr_id rfl rfl).symm ?_
  refine g_ly (Ly2 := zY_X7_init_2) rfl ?_
  refine g_putR (pc := 27) (k := 0) (i := 13) (j := 2) (ks := zk_X7_init_2) dX7_init_27 zq_X7_25 (fun _ => rfl) rfl (by decide) (fun _ => rfl) (fun _ => rfl) ?_
  refine g_ly (Ly2 := zY_X7_init_3) rfl ?_
  refine g_ly (Ly2 := zLR) rfl ?_
  have h := zSRf_ok
  refine g_iconst (pc := 30) (v := 0) dX7_init_30 zci_0 ?_
  refine g_istore_n (pc := 31) (lo' := [(2, .int 0), (0, .ref 0), (1, .ref 900)]) dX7_init_31 rfl (by decide) rfl ?_
  refine g_iconst (pc := 32) (v := 0) dX7_init_32 zci_0 ?_
  refine g_istore_n (pc := 33) (lo' := [(3, .int 0), (2, .int 0), (0, .ref 0), (1, .ref 900)]) dX7_init_33 rfl (by decide) rfl ?_
  exact g_sub [2, 1, 0] rfl (w_X7_init_R_L34 l zN 0 0 zI_X7_init_1 h)
