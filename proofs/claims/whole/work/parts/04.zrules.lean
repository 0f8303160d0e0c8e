section ZR
variable {Ly : List zC} {l : Launch} {own : String} {cc : ByteArray} {nL : Nat} {ret : Option FieldType} {kd : Nat} {r : Option Value} {S1 S S2 : zS} {pc : Nat} {lo lo' : List (Nat × Value)} {st st0 : List Value}
theorem z_iconst {n : Int} {v : Int32} (hd : decode cc pc = .ok ((.iconst n), 1)) (hv : Int32.ofInt n = v) (k : WA Ly l own cc nL ret kd r S1 (pc + 1) lo (.int v :: st) S) : WA Ly l own cc nL ret kd r S1 pc lo st S := by
  intro p e s m args below meth c D cA ad A H locs ls hE hP hD hS hl
  exact lv_iconst hE.1 hE.2.1 hd hv (k p e s m args below meth c D cA ad A H locs ls hE hP hD hS hl)
theorem z_bipush {n : Int} {v : Int32} (hd : decode cc pc = .ok ((.bipush n), 2)) (hv : (Int8.ofInt n).toInt32 = v) (k : WA Ly l own cc nL ret kd r S1 (pc + 2) lo (.int v :: st) S) : WA Ly l own cc nL ret kd r S1 pc lo st S := by
  intro p e s m args below meth c D cA ad A H locs ls hE hP hD hS hl
  exact lv_bipush hE.1 hE.2.1 hd hv (k p e s m args below meth c D cA ad A H locs ls hE hP hD hS hl)
theorem z_sipush {n : Int} {v : Int32} (hd : decode cc pc = .ok ((.sipush n), 3)) (hv : (Int16.ofInt n).toInt32 = v) (k : WA Ly l own cc nL ret kd r S1 (pc + 3) lo (.int v :: st) S) : WA Ly l own cc nL ret kd r S1 pc lo st S := by
  intro p e s m args below meth c D cA ad A H locs ls hE hP hD hS hl
  exact lv_sipush hE.1 hE.2.1 hd hv (k p e s m args below meth c D cA ad A H locs ls hE hP hD hS hl)
theorem z_lconst {n : Fin 2} {v : Int64} (hd : decode cc pc = .ok ((.lconst n), 1)) (hv : Int64.ofNat (n : Nat) = v) (k : WA Ly l own cc nL ret kd r S1 (pc + 1) lo (.long v :: st) S) : WA Ly l own cc nL ret kd r S1 pc lo st S := by
  intro p e s m args below meth c D cA ad A H locs ls hE hP hD hS hl
  exact lv_lconst hE.1 hE.2.1 hd hv (k p e s m args below meth c D cA ad A H locs ls hE hP hD hS hl)
theorem z_iload_n {j : Fin 4} {q i : Nat} {x : Int32} (hd : decode cc pc = .ok (.iload_n j, 1)) (hi : (j : Nat) = i) (hq : lo[q]? = some (i, .int x)) (k : WA Ly l own cc nL ret kd r S1 (pc + 1) lo (.int x :: st) S) : WA Ly l own cc nL ret kd r S1 pc lo st S := by
  intro p e s m args below meth c D cA ad A H locs ls hE hP hD hS hl
  exact lv_iload_n hE.1 hE.2.1 hd hi (zlo_at hl hq) (k p e s m args below meth c D cA ad A H locs ls hE hP hD hS hl)
theorem z_iload {q i : Nat} {x : Int32} (hd : decode cc pc = .ok (.iload i, 2)) (hq : lo[q]? = some (i, .int x)) (k : WA Ly l own cc nL ret kd r S1 (pc + 2) lo (.int x :: st) S) : WA Ly l own cc nL ret kd r S1 pc lo st S := by
  intro p e s m args below meth c D cA ad A H locs ls hE hP hD hS hl
  exact lv_iload hE.1 hE.2.1 hd (zlo_at hl hq) (k p e s m args below meth c D cA ad A H locs ls hE hP hD hS hl)
theorem z_lload_n {j : Fin 4} {q i : Nat} {x : Int64} (hd : decode cc pc = .ok (.lload_n j, 1)) (hi : (j : Nat) = i) (hq : lo[q]? = some (i, .long x)) (k : WA Ly l own cc nL ret kd r S1 (pc + 1) lo (.long x :: st) S) : WA Ly l own cc nL ret kd r S1 pc lo st S := by
  intro p e s m args below meth c D cA ad A H locs ls hE hP hD hS hl
  exact lv_lload_n hE.1 hE.2.1 hd hi (zlo_at hl hq) (k p e s m args below meth c D cA ad A H locs ls hE hP hD hS hl)
theorem z_aload_n {j : Fin 4} {q i : Nat} {x : Nat} (hd : decode cc pc = .ok (.aload_n j, 1)) (hi : (j : Nat) = i) (hq : lo[q]? = some (i, .ref x)) (k : WA Ly l own cc nL ret kd r S1 (pc + 1) lo (.ref x :: st) S) : WA Ly l own cc nL ret kd r S1 pc lo st S := by
  intro p e s m args below meth c D cA ad A H locs ls hE hP hD hS hl
  exact lv_aload_n hE.1 hE.2.1 hd hi (zlo_at hl hq) (k p e s m args below meth c D cA ad A H locs ls hE hP hD hS hl)
theorem z_aload {q i : Nat} {x : Nat} (hd : decode cc pc = .ok (.aload i, 2)) (hq : lo[q]? = some (i, .ref x)) (k : WA Ly l own cc nL ret kd r S1 (pc + 2) lo (.ref x :: st) S) : WA Ly l own cc nL ret kd r S1 pc lo st S := by
  intro p e s m args below meth c D cA ad A H locs ls hE hP hD hS hl
  exact lv_aload hE.1 hE.2.1 hd (zlo_at hl hq) (k p e s m args below meth c D cA ad A H locs ls hE hP hD hS hl)
theorem z_istore_n {j : Fin 4} {i : Nat} {x : Int32} (hd : decode cc pc = .ok (.istore_n j, 1)) (hi : (j : Nat) = i) (hn : i < nL) (hlo : (i, Value.int x) :: lo.filter (fun q => !(q.1 == i) && !(q.1 + 1 == i && q.2.category == 2)) = lo') (k : WA Ly l own cc nL ret kd r S1 (pc + 1) lo' st S) : WA Ly l own cc nL ret kd r S1 pc lo (.int x :: st) S := by
  intro p e s m args below meth c D cA ad A H locs ls hE hP hD hS hl
  exact lv_istore_n hE.1 hE.2.1 hd hi hl hn (zlo_set hlo) (fun ls hl => k p e s m args below meth c D cA ad A H locs ls hE hP hD hS hl)
theorem z_istore {i : Nat} {x : Int32} (hd : decode cc pc = .ok (.istore i, 2)) (hn : i < nL) (hlo : (i, Value.int x) :: lo.filter (fun q => !(q.1 == i) && !(q.1 + 1 == i && q.2.category == 2)) = lo') (k : WA Ly l own cc nL ret kd r S1 (pc + 2) lo' st S) : WA Ly l own cc nL ret kd r S1 pc lo (.int x :: st) S := by
  intro p e s m args below meth c D cA ad A H locs ls hE hP hD hS hl
  exact lv_istore hE.1 hE.2.1 hd hl hn (zlo_set hlo) (fun ls hl => k p e s m args below meth c D cA ad A H locs ls hE hP hD hS hl)
theorem z_astore_n {j : Fin 4} {i : Nat} {x : Nat} (hd : decode cc pc = .ok (.astore_n j, 1)) (hi : (j : Nat) = i) (hn : i < nL) (hlo : (i, Value.ref x) :: lo.filter (fun q => !(q.1 == i) && !(q.1 + 1 == i && q.2.category == 2)) = lo') (k : WA Ly l own cc nL ret kd r S1 (pc + 1) lo' st S) : WA Ly l own cc nL ret kd r S1 pc lo (.ref x :: st) S := by
  intro p e s m args below meth c D cA ad A H locs ls hE hP hD hS hl
  exact lv_astore_n hE.1 hE.2.1 hd hi hl hn (zlo_set hlo) (fun ls hl => k p e s m args below meth c D cA ad A H locs ls hE hP hD hS hl)
theorem z_astore {i : Nat} {x : Nat} (hd : decode cc pc = .ok (.astore i, 2)) (hn : i < nL) (hlo : (i, Value.ref x) :: lo.filter (fun q => !(q.1 == i) && !(q.1 + 1 == i && q.2.category == 2)) = lo') (k : WA Ly l own cc nL ret kd r S1 (pc + 2) lo' st S) : WA Ly l own cc nL ret kd r S1 pc lo (.ref x :: st) S := by
  intro p e s m args below meth c D cA ad A H locs ls hE hP hD hS hl
  exact lv_astore hE.1 hE.2.1 hd hl hn (zlo_set hlo) (fun ls hl => k p e s m args below meth c D cA ad A H locs ls hE hP hD hS hl)
theorem z_iinc {q i : Nat} {n : Int} {x v : Int32} (hd : decode cc pc = .ok (.iinc i n, 3)) (hq : lo[q]? = some (i, .int x)) (hv : x + Int32.ofInt n = v) (hn : i < nL) (hlo : (i, Value.int v) :: lo.filter (fun q => !(q.1 == i) && !(q.1 + 1 == i && q.2.category == 2)) = lo') (k : WA Ly l own cc nL ret kd r S1 (pc + 3) lo' st S) : WA Ly l own cc nL ret kd r S1 pc lo st S := by
  intro p e s m args below meth c D cA ad A H locs ls hE hP hD hS hl
  exact lv_iinc (k := q) hE.1 hE.2.1 hd hl (show (zlo ad lo)[q]? = some (i, .int x) by simp [zlo, hq, zv]) hv hn (zlo_set (v := .int v) hlo) (fun ls hl => k p e s m args below meth c D cA ad A H locs ls hE hP hD hS hl)
theorem z_sub (is : List Nat) (h : lv_pick lo is = lo') (k : WA Ly l own cc nL ret kd r S1 pc lo' st S) : WA Ly l own cc nL ret kd r S1 pc lo st S := by
  intro p e s m args below meth c D cA ad A H locs ls hE hP hD hS hl
  exact k p e s m args below meth c D cA ad A H locs ls hE hP hD hS (lv_sub hl is (by subst h; simp [lv_pick, zlo, List.map_filterMap, List.filterMap_map]))
theorem z_iadd {x y : Int32} (hd : decode cc pc = .ok (.iadd, 1))  (k : WA Ly l own cc nL ret kd r S1 (pc + 1) lo (.int (x + y) :: st) S) : WA Ly l own cc nL ret kd r S1 pc lo (.int y :: .int x :: st) S := by
  intro p e s m args below meth c D cA ad A H locs ls hE hP hD hS hl
  exact lv_iadd hE.1 hE.2.1 hd  (k p e s m args below meth c D cA ad A H locs ls hE hP hD hS hl)
theorem z_isub {x y : Int32} (hd : decode cc pc = .ok (.isub, 1))  (k : WA Ly l own cc nL ret kd r S1 (pc + 1) lo (.int (x - y) :: st) S) : WA Ly l own cc nL ret kd r S1 pc lo (.int y :: .int x :: st) S := by
  intro p e s m args below meth c D cA ad A H locs ls hE hP hD hS hl
  exact lv_isub hE.1 hE.2.1 hd  (k p e s m args below meth c D cA ad A H locs ls hE hP hD hS hl)
theorem z_imul {x y : Int32} (hd : decode cc pc = .ok (.imul, 1))  (k : WA Ly l own cc nL ret kd r S1 (pc + 1) lo (.int (x * y) :: st) S) : WA Ly l own cc nL ret kd r S1 pc lo (.int y :: .int x :: st) S := by
  intro p e s m args below meth c D cA ad A H locs ls hE hP hD hS hl
  exact lv_imul hE.1 hE.2.1 hd  (k p e s m args below meth c D cA ad A H locs ls hE hP hD hS hl)
theorem z_iand {x y : Int32} (hd : decode cc pc = .ok (.iand, 1))  (k : WA Ly l own cc nL ret kd r S1 (pc + 1) lo (.int (x &&& y) :: st) S) : WA Ly l own cc nL ret kd r S1 pc lo (.int y :: .int x :: st) S := by
  intro p e s m args below meth c D cA ad A H locs ls hE hP hD hS hl
  exact lv_iand hE.1 hE.2.1 hd  (k p e s m args below meth c D cA ad A H locs ls hE hP hD hS hl)
theorem z_ior {x y : Int32} (hd : decode cc pc = .ok (.ior, 1))  (k : WA Ly l own cc nL ret kd r S1 (pc + 1) lo (.int (x ||| y) :: st) S) : WA Ly l own cc nL ret kd r S1 pc lo (.int y :: .int x :: st) S := by
  intro p e s m args below meth c D cA ad A H locs ls hE hP hD hS hl
  exact lv_ior hE.1 hE.2.1 hd  (k p e s m args below meth c D cA ad A H locs ls hE hP hD hS hl)
theorem z_ixor {x y : Int32} (hd : decode cc pc = .ok (.ixor, 1))  (k : WA Ly l own cc nL ret kd r S1 (pc + 1) lo (.int (x ^^^ y) :: st) S) : WA Ly l own cc nL ret kd r S1 pc lo (.int y :: .int x :: st) S := by
  intro p e s m args below meth c D cA ad A H locs ls hE hP hD hS hl
  exact lv_ixor hE.1 hE.2.1 hd  (k p e s m args below meth c D cA ad A H locs ls hE hP hD hS hl)
theorem z_ishl {x y : Int32} (hd : decode cc pc = .ok (.ishl, 1))  (k : WA Ly l own cc nL ret kd r S1 (pc + 1) lo (.int (x <<< (y &&& 31)) :: st) S) : WA Ly l own cc nL ret kd r S1 pc lo (.int y :: .int x :: st) S := by
  intro p e s m args below meth c D cA ad A H locs ls hE hP hD hS hl
  exact lv_ishl hE.1 hE.2.1 hd  (k p e s m args below meth c D cA ad A H locs ls hE hP hD hS hl)
theorem z_ishr {x y : Int32} (hd : decode cc pc = .ok (.ishr, 1))  (k : WA Ly l own cc nL ret kd r S1 (pc + 1) lo (.int (x >>> (y &&& 31)) :: st) S) : WA Ly l own cc nL ret kd r S1 pc lo (.int y :: .int x :: st) S := by
  intro p e s m args below meth c D cA ad A H locs ls hE hP hD hS hl
  exact lv_ishr hE.1 hE.2.1 hd  (k p e s m args below meth c D cA ad A H locs ls hE hP hD hS hl)
theorem z_iushr {x y v : Int32} (hd : decode cc pc = .ok (.iushr, 1)) (hv : (x.toUInt32 >>> (y.toUInt32 &&& 31)).toInt32 = v) (k : WA Ly l own cc nL ret kd r S1 (pc + 1) lo (.int v :: st) S) : WA Ly l own cc nL ret kd r S1 pc lo (.int y :: .int x :: st) S := by
  intro p e s m args below meth c D cA ad A H locs ls hE hP hD hS hl
  exact lv_iushr hE.1 hE.2.1 hd hv (k p e s m args below meth c D cA ad A H locs ls hE hP hD hS hl)
theorem z_idiv {x y : Int32} (hd : decode cc pc = .ok (.idiv, 1)) (hne : ¬ y = 0) (k : WA Ly l own cc nL ret kd r S1 (pc + 1) lo (.int (x / y) :: st) S) : WA Ly l own cc nL ret kd r S1 pc lo (.int y :: .int x :: st) S := by
  intro p e s m args below meth c D cA ad A H locs ls hE hP hD hS hl
  exact lv_idiv hE.1 hE.2.1 hd hne (k p e s m args below meth c D cA ad A H locs ls hE hP hD hS hl)
theorem z_irem {x y : Int32} (hd : decode cc pc = .ok (.irem, 1)) (hne : ¬ y = 0) (k : WA Ly l own cc nL ret kd r S1 (pc + 1) lo (.int (x - x / y * y) :: st) S) : WA Ly l own cc nL ret kd r S1 pc lo (.int y :: .int x :: st) S := by
  intro p e s m args below meth c D cA ad A H locs ls hE hP hD hS hl
  exact lv_irem hE.1 hE.2.1 hd hne (k p e s m args below meth c D cA ad A H locs ls hE hP hD hS hl)
theorem z_ineg {x : Int32} (hd : decode cc pc = .ok (.ineg, 1))  (k : WA Ly l own cc nL ret kd r S1 (pc + 1) lo (.int (-x) :: st) S) : WA Ly l own cc nL ret kd r S1 pc lo (.int x :: st) S := by
  intro p e s m args below meth c D cA ad A H locs ls hE hP hD hS hl
  exact lv_ineg hE.1 hE.2.1 hd  (k p e s m args below meth c D cA ad A H locs ls hE hP hD hS hl)
theorem z_lor {x y : Int64} (hd : decode cc pc = .ok (.lor, 1))  (k : WA Ly l own cc nL ret kd r S1 (pc + 1) lo (.long (x ||| y) :: st) S) : WA Ly l own cc nL ret kd r S1 pc lo (.long y :: .long x :: st) S := by
  intro p e s m args below meth c D cA ad A H locs ls hE hP hD hS hl
  exact lv_lor hE.1 hE.2.1 hd  (k p e s m args below meth c D cA ad A H locs ls hE hP hD hS hl)
theorem z_lshl {x : Int64} {y : Int32} (hd : decode cc pc = .ok (.lshl, 1))  (k : WA Ly l own cc nL ret kd r S1 (pc + 1) lo (.long (x <<< (y.toInt64 &&& 63)) :: st) S) : WA Ly l own cc nL ret kd r S1 pc lo (.int y :: .long x :: st) S := by
  intro p e s m args below meth c D cA ad A H locs ls hE hP hD hS hl
  exact lv_lshl hE.1 hE.2.1 hd rfl (k p e s m args below meth c D cA ad A H locs ls hE hP hD hS hl)
theorem z_i2l {x : Int32} (hd : decode cc pc = .ok (.i2l, 1))  (k : WA Ly l own cc nL ret kd r S1 (pc + 1) lo (.long x.toInt64 :: st) S) : WA Ly l own cc nL ret kd r S1 pc lo (.int x :: st) S := by
  intro p e s m args below meth c D cA ad A H locs ls hE hP hD hS hl
  exact lv_i2l hE.1 hE.2.1 hd rfl (k p e s m args below meth c D cA ad A H locs ls hE hP hD hS hl)
theorem z_i2b {x : Int32} (hd : decode cc pc = .ok (.i2b, 1))  (k : WA Ly l own cc nL ret kd r S1 (pc + 1) lo (.int x.toInt8.toInt32 :: st) S) : WA Ly l own cc nL ret kd r S1 pc lo (.int x :: st) S := by
  intro p e s m args below meth c D cA ad A H locs ls hE hP hD hS hl
  exact lv_i2b hE.1 hE.2.1 hd rfl (k p e s m args below meth c D cA ad A H locs ls hE hP hD hS hl)
theorem z_i2c {x : Int32} (hd : decode cc pc = .ok (.i2c, 1))  (k : WA Ly l own cc nL ret kd r S1 (pc + 1) lo (.int (x.toUInt32 % 65536).toInt32 :: st) S) : WA Ly l own cc nL ret kd r S1 pc lo (.int x :: st) S := by
  intro p e s m args below meth c D cA ad A H locs ls hE hP hD hS hl
  exact lv_i2c hE.1 hE.2.1 hd rfl (k p e s m args below meth c D cA ad A H locs ls hE hP hD hS hl)
theorem z_lcmp {x y : Int64} (hd : decode cc pc = .ok (.lcmp, 1))  (k : WA Ly l own cc nL ret kd r S1 (pc + 1) lo (.int (lg_cmp x y) :: st) S) : WA Ly l own cc nL ret kd r S1 pc lo (.long y :: .long x :: st) S := by
  intro p e s m args below meth c D cA ad A H locs ls hE hP hD hS hl
  exact W.lcmp hE.1 hE.2.1 hd  (k p e s m args below meth c D cA ad A H locs ls hE hP hD hS hl)
theorem z_dup {v : Value} (hd : decode cc pc = .ok (.dup, 1)) (hc : v.category = 1) (k : WA Ly l own cc nL ret kd r S1 (pc + 1) lo (v :: v :: st) S) : WA Ly l own cc nL ret kd r S1 pc lo (v :: st) S := by
  intro p e s m args below meth c D cA ad A H locs ls hE hP hD hS hl
  exact lv_dup hE.1 hE.2.1 hd (by rw [zv_cat]; exact hc) (k p e s m args below meth c D cA ad A H locs ls hE hP hD hS hl)
theorem z_pop {v : Value} (hd : decode cc pc = .ok (.pop, 1)) (hc : v.category = 1) (k : WA Ly l own cc nL ret kd r S1 (pc + 1) lo st S) : WA Ly l own cc nL ret kd r S1 pc lo (v :: st) S := by
  intro p e s m args below meth c D cA ad A H locs ls hE hP hD hS hl
  exact lv_pop hE.1 hE.2.1 hd (by rw [zv_cat]; exact hc) (k p e s m args below meth c D cA ad A H locs ls hE hP hD hS hl)
theorem z_dup2 {v u : Value} (hd : decode cc pc = .ok (.dup2, 1)) (hc : v.category = 1) (hc' : u.category = 1) (k : WA Ly l own cc nL ret kd r S1 (pc + 1) lo (v :: u :: v :: u :: st) S) : WA Ly l own cc nL ret kd r S1 pc lo (v :: u :: st) S := by
  intro p e s m args below meth c D cA ad A H locs ls hE hP hD hS hl
  exact lv_dup2_11 hE.1 hE.2.1 hd (by rw [zv_cat]; exact hc) (by rw [zv_cat]; exact hc') (k p e s m args below meth c D cA ad A H locs ls hE hP hD hS hl)
theorem z_goto {off : Int} {tgt : Nat} (hd : decode cc pc = .ok (.goto off, 3)) (ht : (pc : Int) + off = (tgt : Int)) (k : WA Ly l own cc nL ret kd r S1 tgt lo st S) : WA Ly l own cc nL ret kd r S1 pc lo st S := by
  intro p e s m args below meth c D cA ad A H locs ls hE hP hD hS hl
  exact lv_goto hE.1 hE.2.1 hd ht (k p e s m args below meth c D cA ad A H locs ls hE hP hD hS hl)
theorem z_icmp_eq {x y : Int32} {off : Int} {tgt : Nat} (hd : decode cc pc = .ok (.if_icmp .eq off, 3)) (ht : (pc : Int) + off = (tgt : Int)) (kt : x = y → WA Ly l own cc nL ret kd r S1 tgt lo st S) (kf : ¬ x = y → WA Ly l own cc nL ret kd r S1 (pc + 3) lo st S) : WA Ly l own cc nL ret kd r S1 pc lo (.int y :: .int x :: st) S := by
  intro p e s m args below meth c D cA ad A H locs ls hE hP hD hS hl
  exact lv_icmp_eq hE.1 hE.2.1 hd ht (fun q => kt (q) p e s m args below meth c D cA ad A H locs ls hE hP hD hS hl) (fun q => kf (q) p e s m args below meth c D cA ad A H locs ls hE hP hD hS hl)
theorem z_icmp_ne {x y : Int32} {off : Int} {tgt : Nat} (hd : decode cc pc = .ok (.if_icmp .ne off, 3)) (ht : (pc : Int) + off = (tgt : Int)) (kt : ¬ x = y → WA Ly l own cc nL ret kd r S1 tgt lo st S) (kf : x = y → WA Ly l own cc nL ret kd r S1 (pc + 3) lo st S) : WA Ly l own cc nL ret kd r S1 pc lo (.int y :: .int x :: st) S := by
  intro p e s m args below meth c D cA ad A H locs ls hE hP hD hS hl
  exact lv_icmp_ne hE.1 hE.2.1 hd ht (fun q => kt (q) p e s m args below meth c D cA ad A H locs ls hE hP hD hS hl) (fun q => kf (q) p e s m args below meth c D cA ad A H locs ls hE hP hD hS hl)
theorem z_icmp_lt {x y : Int32} {off : Int} {tgt : Nat} (hd : decode cc pc = .ok (.if_icmp .lt off, 3)) (ht : (pc : Int) + off = (tgt : Int)) (kt : x < y → WA Ly l own cc nL ret kd r S1 tgt lo st S) (kf : ¬ x < y → WA Ly l own cc nL ret kd r S1 (pc + 3) lo st S) : WA Ly l own cc nL ret kd r S1 pc lo (.int y :: .int x :: st) S := by
  intro p e s m args below meth c D cA ad A H locs ls hE hP hD hS hl
  exact lv_icmp_lt hE.1 hE.2.1 hd ht (fun q => kt (q) p e s m args below meth c D cA ad A H locs ls hE hP hD hS hl) (fun q => kf (q) p e s m args below meth c D cA ad A H locs ls hE hP hD hS hl)
theorem z_icmp_ge {x y : Int32} {off : Int} {tgt : Nat} (hd : decode cc pc = .ok (.if_icmp .ge off, 3)) (ht : (pc : Int) + off = (tgt : Int)) (kt : ¬ x < y → WA Ly l own cc nL ret kd r S1 tgt lo st S) (kf : x < y → WA Ly l own cc nL ret kd r S1 (pc + 3) lo st S) : WA Ly l own cc nL ret kd r S1 pc lo (.int y :: .int x :: st) S := by
  intro p e s m args below meth c D cA ad A H locs ls hE hP hD hS hl
  exact lv_icmp_ge hE.1 hE.2.1 hd ht (fun q => kt (Int32.not_lt.mpr q) p e s m args below meth c D cA ad A H locs ls hE hP hD hS hl) (fun q => kf (Int32.not_le.mp q) p e s m args below meth c D cA ad A H locs ls hE hP hD hS hl)
theorem z_icmp_gt {x y : Int32} {off : Int} {tgt : Nat} (hd : decode cc pc = .ok (.if_icmp .gt off, 3)) (ht : (pc : Int) + off = (tgt : Int)) (kt : y < x → WA Ly l own cc nL ret kd r S1 tgt lo st S) (kf : ¬ y < x → WA Ly l own cc nL ret kd r S1 (pc + 3) lo st S) : WA Ly l own cc nL ret kd r S1 pc lo (.int y :: .int x :: st) S := by
  intro p e s m args below meth c D cA ad A H locs ls hE hP hD hS hl
  exact lv_icmp_gt hE.1 hE.2.1 hd ht (fun q => kt (q) p e s m args below meth c D cA ad A H locs ls hE hP hD hS hl) (fun q => kf (q) p e s m args below meth c D cA ad A H locs ls hE hP hD hS hl)
theorem z_icmp_le {x y : Int32} {off : Int} {tgt : Nat} (hd : decode cc pc = .ok (.if_icmp .le off, 3)) (ht : (pc : Int) + off = (tgt : Int)) (kt : ¬ y < x → WA Ly l own cc nL ret kd r S1 tgt lo st S) (kf : y < x → WA Ly l own cc nL ret kd r S1 (pc + 3) lo st S) : WA Ly l own cc nL ret kd r S1 pc lo (.int y :: .int x :: st) S := by
  intro p e s m args below meth c D cA ad A H locs ls hE hP hD hS hl
  exact lv_icmp_le hE.1 hE.2.1 hd ht (fun q => kt (Int32.not_lt.mpr q) p e s m args below meth c D cA ad A H locs ls hE hP hD hS hl) (fun q => kf (Int32.not_le.mp q) p e s m args below meth c D cA ad A H locs ls hE hP hD hS hl)
theorem z_if_eq {x : Int32} {off : Int} {tgt : Nat} (hd : decode cc pc = .ok (.ifCond .eq off, 3)) (ht : (pc : Int) + off = (tgt : Int)) (kt : x = 0 → WA Ly l own cc nL ret kd r S1 tgt lo st S) (kf : ¬ x = 0 → WA Ly l own cc nL ret kd r S1 (pc + 3) lo st S) : WA Ly l own cc nL ret kd r S1 pc lo (.int x :: st) S := by
  intro p e s m args below meth c D cA ad A H locs ls hE hP hD hS hl
  exact lv_if_eq hE.1 hE.2.1 hd ht (fun q => kt (q) p e s m args below meth c D cA ad A H locs ls hE hP hD hS hl) (fun q => kf (q) p e s m args below meth c D cA ad A H locs ls hE hP hD hS hl)
theorem z_if_ne {x : Int32} {off : Int} {tgt : Nat} (hd : decode cc pc = .ok (.ifCond .ne off, 3)) (ht : (pc : Int) + off = (tgt : Int)) (kt : ¬ x = 0 → WA Ly l own cc nL ret kd r S1 tgt lo st S) (kf : x = 0 → WA Ly l own cc nL ret kd r S1 (pc + 3) lo st S) : WA Ly l own cc nL ret kd r S1 pc lo (.int x :: st) S := by
  intro p e s m args below meth c D cA ad A H locs ls hE hP hD hS hl
  exact lv_if_ne hE.1 hE.2.1 hd ht (fun q => kt (q) p e s m args below meth c D cA ad A H locs ls hE hP hD hS hl) (fun q => kf (q) p e s m args below meth c D cA ad A H locs ls hE hP hD hS hl)
theorem z_if_lt {x : Int32} {off : Int} {tgt : Nat} (hd : decode cc pc = .ok (.ifCond .lt off, 3)) (ht : (pc : Int) + off = (tgt : Int)) (kt : x < 0 → WA Ly l own cc nL ret kd r S1 tgt lo st S) (kf : ¬ x < 0 → WA Ly l own cc nL ret kd r S1 (pc + 3) lo st S) : WA Ly l own cc nL ret kd r S1 pc lo (.int x :: st) S := by
  intro p e s m args below meth c D cA ad A H locs ls hE hP hD hS hl
  exact lv_if_lt hE.1 hE.2.1 hd ht (fun q => kt (q) p e s m args below meth c D cA ad A H locs ls hE hP hD hS hl) (fun q => kf (q) p e s m args below meth c D cA ad A H locs ls hE hP hD hS hl)
theorem z_if_ge {x : Int32} {off : Int} {tgt : Nat} (hd : decode cc pc = .ok (.ifCond .ge off, 3)) (ht : (pc : Int) + off = (tgt : Int)) (kt : ¬ x < 0 → WA Ly l own cc nL ret kd r S1 tgt lo st S) (kf : x < 0 → WA Ly l own cc nL ret kd r S1 (pc + 3) lo st S) : WA Ly l own cc nL ret kd r S1 pc lo (.int x :: st) S := by
  intro p e s m args below meth c D cA ad A H locs ls hE hP hD hS hl
  exact lv_if_ge hE.1 hE.2.1 hd ht (fun q => kt (Int32.not_lt.mpr q) p e s m args below meth c D cA ad A H locs ls hE hP hD hS hl) (fun q => kf (Int32.not_le.mp q) p e s m args below meth c D cA ad A H locs ls hE hP hD hS hl)
theorem z_if_gt {x : Int32} {off : Int} {tgt : Nat} (hd : decode cc pc = .ok (.ifCond .gt off, 3)) (ht : (pc : Int) + off = (tgt : Int)) (kt : 0 < x → WA Ly l own cc nL ret kd r S1 tgt lo st S) (kf : ¬ 0 < x → WA Ly l own cc nL ret kd r S1 (pc + 3) lo st S) : WA Ly l own cc nL ret kd r S1 pc lo (.int x :: st) S := by
  intro p e s m args below meth c D cA ad A H locs ls hE hP hD hS hl
  exact lv_if_gt hE.1 hE.2.1 hd ht (fun q => kt (q) p e s m args below meth c D cA ad A H locs ls hE hP hD hS hl) (fun q => kf (q) p e s m args below meth c D cA ad A H locs ls hE hP hD hS hl)
theorem z_if_le {x : Int32} {off : Int} {tgt : Nat} (hd : decode cc pc = .ok (.ifCond .le off, 3)) (ht : (pc : Int) + off = (tgt : Int)) (kt : ¬ 0 < x → WA Ly l own cc nL ret kd r S1 tgt lo st S) (kf : 0 < x → WA Ly l own cc nL ret kd r S1 (pc + 3) lo st S) : WA Ly l own cc nL ret kd r S1 pc lo (.int x :: st) S := by
  intro p e s m args below meth c D cA ad A H locs ls hE hP hD hS hl
  exact lv_if_le hE.1 hE.2.1 hd ht (fun q => kt (Int32.not_lt.mpr q) p e s m args below meth c D cA ad A H locs ls hE hP hD hS hl) (fun q => kf (Int32.not_le.mp q) p e s m args below meth c D cA ad A H locs ls hE hP hD hS hl)
theorem z_ldc {idx : Nat} {x : Int32} (hd : decode cc pc = .ok (.ldc idx, 2)) (hc : Cond.constant own idx x ∈ ztbl) (k : WA Ly l own cc nL ret kd r S1 (pc + 2) lo (.int x :: st) S) : WA Ly l own cc nL ret kd r S1 pc lo st S := by
  intro p e s m args below meth c D cA ad A H locs ls hE hP hD hS hl
  exact lv_ldc hE.1 hE.2.1 hE.2.2.2.2.1 (hE.2.2.2.2.2.1 _ hc) hd (k p e s m args below meth c D cA ad A H locs ls hE hP hD hS hl)
theorem z_ldcw {idx : Nat} {x : Int32} (hd : decode cc pc = .ok (.ldc_w idx, 3)) (hc : Cond.constant own idx x ∈ ztbl) (k : WA Ly l own cc nL ret kd r S1 (pc + 3) lo (.int x :: st) S) : WA Ly l own cc nL ret kd r S1 pc lo st S := by
  intro p e s m args below meth c D cA ad A H locs ls hE hP hD hS hl
  exact lv_ldcw hE.1 hE.2.1 hE.2.2.2.2.1 (hE.2.2.2.2.2.1 _ hc) hd (k p e s m args below meth c D cA ad A H locs ls hE hP hD hS hl)
theorem z_ldc2 {idx : Nat} {x : Int64} (hd : decode cc pc = .ok (.ldc2_w idx, 3)) (hc : Cond.constantLong own idx x ∈ ztbl) (k : WA Ly l own cc nL ret kd r S1 (pc + 3) lo (.long x :: st) S) : WA Ly l own cc nL ret kd r S1 pc lo st S := by
  intro p e s m args below meth c D cA ad A H locs ls hE hP hD hS hl
  exact lv_ldc2 hE.1 hE.2.1 hE.2.2.2.2.1 (hE.2.2.2.2.2.1 _ hc) hd (k p e s m args below meth c D cA ad A H locs ls hE hP hD hS hl)
/-- field number i of class ci, as the pool entry idx of 'own' names it -/
def zFl (own : String) (idx ci i : Nat) : Prop := ∃ (C : String) (T : u_T) (N : Nat), vwCl[ci]? = some (C, T, N) ∧ i < N ∧ (∀ w ∈ u_ws C T N, w ∈ ztbl) ∧ Cond.fieldLink own idx (T i).1 (T i).2.1 (T i).2.2.1 ∈ ztbl
/-- and it may be written: a plain int or long of the type ty -/
def zFp (own : String) (idx ci i : Nat) (ty : FieldType) : Prop := ∃ (C : String) (T : u_T) (N : Nat) (ty0 : Nat → FieldType), vwCl[ci]? = some (C, T, N) ∧ i < N ∧ (∀ w ∈ u_ws C T N, w ∈ ztbl) ∧ Cond.fieldLink own idx (T i).1 (T i).2.1 (T i).2.2.1 ∈ ztbl ∧ (∀ k, k < N → parseFieldDescriptor (T k).2.2.1 = some (ty0 k)) ∧ (∀ a, a < N → ∀ b, b < N → a ≠ b → (T a).2.1 ≠ (T b).2.1) ∧ (T i).2.2.2 = false ∧ parseFieldDescriptor (T i).2.2.1 = some ty
def zget (Ly : List zC) (k i : Nat) : Option (Nat × (Nat ⊕ Nat)) := match Ly[k]? with
  | some (.inr q) => (q.2[i]?).map (fun kd => (q.1, kd))
  | _ => none
theorem zget_spec {k i ci : Nat} {kd : Nat ⊕ Nat} (h : zget Ly k i = some (ci, kd)) : ∃ ks, Ly[k]? = some (.inr (ci, ks)) ∧ ks[i]? = some kd := by
  unfold zget at h
  split at h
  · rename_i q hq
    obtain ⟨c0, ks⟩ := q
    cases hk : ks[i]? with
    | none => simp [hk] at h
    | some kd' =>
      simp [hk] at h
      obtain ⟨rfl, rfl⟩ := h
      exact ⟨ks, hq, hk⟩
  · cases h
theorem z_getI {idx ci i k : Nat}  (hd : decode cc pc = .ok (.getfield idx, 3)) (hf : zFl own idx ci i) (hg : zget Ly k i = some (ci, .inl 0)) (kk : WA Ly l own cc nL ret kd r S1 (pc + 3) lo (.int (S.1 k i) :: st) S) : WA Ly l own cc nL ret kd r S1 pc lo (.ref k :: st) S := by
  intro p e s m args below meth c D cA ad A H locs ls hE hP hD hS hl
  obtain ⟨C, T, N, h1, h2, h3, h4⟩ := hf
  obtain ⟨ks, g1, g2⟩ := zget_spec hg
  exact va_get hE.1 hE.2.1 hE.2.2.2.2.2.1 h3 hE.2.2.2.2.1 hE.2.2.2.2.2.2.2.1 hP k (zw_at g1) h1 i h2 (hE.2.2.2.2.2.1 _ h4) (fun _ h => h) (zfs_at g2) hd (kk p e s m args below meth c D cA ad A H locs ls hE hP hD hS hl)
theorem z_getJ {idx ci i k : Nat}  (hd : decode cc pc = .ok (.getfield idx, 3)) (hf : zFl own idx ci i) (hg : zget Ly k i = some (ci, .inl 1)) (kk : WA Ly l own cc nL ret kd r S1 (pc + 3) lo (.long (S.2 k i) :: st) S) : WA Ly l own cc nL ret kd r S1 pc lo (.ref k :: st) S := by
  intro p e s m args below meth c D cA ad A H locs ls hE hP hD hS hl
  obtain ⟨C, T, N, h1, h2, h3, h4⟩ := hf
  obtain ⟨ks, g1, g2⟩ := zget_spec hg
  exact va_get hE.1 hE.2.1 hE.2.2.2.2.2.1 h3 hE.2.2.2.2.1 hE.2.2.2.2.2.2.2.1 hP k (zw_at g1) h1 i h2 (hE.2.2.2.2.2.1 _ h4) (fun _ h => h) (zfs_at g2) hd (kk p e s m args below meth c D cA ad A H locs ls hE hP hD hS hl)
theorem z_getR {idx ci i k : Nat} {j : Nat} (hd : decode cc pc = .ok (.getfield idx, 3)) (hf : zFl own idx ci i) (hg : zget Ly k i = some (ci, .inr j)) (kk : WA Ly l own cc nL ret kd r S1 (pc + 3) lo (.ref j :: st) S) : WA Ly l own cc nL ret kd r S1 pc lo (.ref k :: st) S := by
  intro p e s m args below meth c D cA ad A H locs ls hE hP hD hS hl
  obtain ⟨C, T, N, h1, h2, h3, h4⟩ := hf
  obtain ⟨ks, g1, g2⟩ := zget_spec hg
  exact va_get hE.1 hE.2.1 hE.2.2.2.2.2.1 h3 hE.2.2.2.2.1 hE.2.2.2.2.2.2.2.1 hP k (zw_at g1) h1 i h2 (hE.2.2.2.2.2.1 _ h4) (fun _ h => h) (zfs_at g2) hd (kk p e s m args below meth c D cA ad A H locs ls hE hP hD hS hl)
theorem z_putI {idx ci i k : Nat} {ty : FieldType} {x : Int32} (hd : decode cc pc = .ok (.putfield idx, 3)) (hf : zFp own idx ci i ty) (hg : zget Ly k i = some (ci, .inl 0)) (hn : narrow ty (.int x) = .int x) (hfit : fits ty (.int x) = true) (hS2 : S2 = zput S k i x) (kk : WA Ly l own cc nL ret kd r S1 (pc + 3) lo st S2) : WA Ly l own cc nL ret kd r S1 pc lo (.int x :: .ref k :: st) S := by
  intro p e s m args below meth c D cA ad A H locs ls hE hP hD hS hl
  obtain ⟨C, T, N, ty0, h1, h2, h3, h4, h5, h6, h7, h8⟩ := hf
  obtain ⟨ks, g1, g2⟩ := zget_spec hg
  have hk : i < (ks.mapIdx (fun i kd => zfv ad (S.1 k) (S.2 k) i kd)).length := by simpa using (List.getElem?_eq_some_iff.mp g2).1
  subst hS2
  have e1 : (ks.mapIdx (fun i kd => zfv ad (S.1 k) (S.2 k) i kd)).set i (.int x) = ks.mapIdx (fun i' kd => zfv ad ((zput S k i x).1 k) ((zput S k i x).2 k) i' kd) := zfs_set g2 (by simp [zfv, zput, upd]) (fun j hj => ⟨by simp [zput, upd, hj], by simp [zput]⟩)
  have e2 : (zw Ly cA ad S).set k (ad k, .inr (ci, (ks.mapIdx (fun i kd => zfv ad (S.1 k) (S.2 k) i kd)).set i (.int x))) = zw Ly cA ad (zput S k i x) := zw_set g1 (by rw [e1]; rfl) (zput_o S k i x)
  refine va_put (v := .int x) hE.1 hE.2.1 hE.2.2.2.2.2.1 h3 ty0 h5 h6 hE.2.2.2.2.1 hE.2.2.2.2.2.2.2.1 hP hD hS k (zw_at g1) h1 i h2 (hE.2.2.2.2.2.1 _ h4) (fun _ h => h) h7 h8 hn hfit hk hd (fun H1 locs1 hP1 hD1 hS1 => ?_)
  rw [e2] at hP1 hD1
  exact kk p e s m args below meth c D cA ad A H1 locs1 ls hE hP1 hD1 hS1 hl
theorem z_putJ {idx ci i k : Nat}  {x : Int64} (hd : decode cc pc = .ok (.putfield idx, 3)) (hf : zFp own idx ci i .long) (hg : zget Ly k i = some (ci, .inl 1))  (hS2 : S2 = zputL S k i x) (kk : WA Ly l own cc nL ret kd r S1 (pc + 3) lo st S2) : WA Ly l own cc nL ret kd r S1 pc lo (.long x :: .ref k :: st) S := by
  intro p e s m args below meth c D cA ad A H locs ls hE hP hD hS hl
  obtain ⟨C, T, N, ty0, h1, h2, h3, h4, h5, h6, h7, h8⟩ := hf
  obtain ⟨ks, g1, g2⟩ := zget_spec hg
  have hk : i < (ks.mapIdx (fun i kd => zfv ad (S.1 k) (S.2 k) i kd)).length := by simpa using (List.getElem?_eq_some_iff.mp g2).1
  subst hS2
  have e1 : (ks.mapIdx (fun i kd => zfv ad (S.1 k) (S.2 k) i kd)).set i (.long x) = ks.mapIdx (fun i' kd => zfv ad ((zputL S k i x).1 k) ((zputL S k i x).2 k) i' kd) := zfs_set g2 (by simp [zfv, zputL, vp_updL]) (fun j hj => ⟨by simp [zputL], by simp [zputL, vp_updL, hj]⟩)
  have e2 : (zw Ly cA ad S).set k (ad k, .inr (ci, (ks.mapIdx (fun i kd => zfv ad (S.1 k) (S.2 k) i kd)).set i (.long x))) = zw Ly cA ad (zputL S k i x) := zw_set g1 (by rw [e1]; rfl) (zputL_o S k i x)
  refine va_put (v := .long x) hE.1 hE.2.1 hE.2.2.2.2.2.1 h3 ty0 h5 h6 hE.2.2.2.2.1 hE.2.2.2.2.2.2.2.1 hP hD hS k (zw_at g1) h1 i h2 (hE.2.2.2.2.2.1 _ h4) (fun _ h => h) h7 h8 rfl rfl hk hd (fun H1 locs1 hP1 hD1 hS1 => ?_)
  rw [e2] at hP1 hD1
  exact kk p e s m args below meth c D cA ad A H1 locs1 ls hE hP1 hD1 hS1 hl
theorem z_iald {k n : Nat} {i : Int32} (hd : decode cc pc = .ok (.iaload, 1)) (hg : Ly[k]? = some (.inl (0, n))) (hin : ¬ (i < 0 ∨ n ≤ i.toNatClampNeg)) (kk : WA Ly l own cc nL ret kd r S1 (pc + 1) lo (.int (S.1 k i.toNatClampNeg) :: st) S) : WA Ly l own cc nL ret kd r S1 pc lo (.int i :: .ref k :: st) S := by
  intro p e s m args below meth c D cA ad A H locs ls hE hP hD hS hl
  exact va_iald hE.1 hE.2.1 hE.2.2.2.2.2.2.2.1 hP k 0 (zw_at hg) rfl hin hd (kk p e s m args below meth c D cA ad A H locs ls hE hP hD hS hl)
theorem z_lald {k n : Nat} {i : Int32} (hd : decode cc pc = .ok (.laload, 1)) (hg : Ly[k]? = some (.inl (1, n))) (hin : ¬ (i < 0 ∨ n ≤ i.toNatClampNeg)) (kk : WA Ly l own cc nL ret kd r S1 (pc + 1) lo (.long (S.2 k i.toNatClampNeg) :: st) S) : WA Ly l own cc nL ret kd r S1 pc lo (.int i :: .ref k :: st) S := by
  intro p e s m args below meth c D cA ad A H locs ls hE hP hD hS hl
  exact va_lald hE.1 hE.2.1 hE.2.2.2.2.2.2.2.1 hP k 1 (zw_at hg) rfl hin hd (kk p e s m args below meth c D cA ad A H locs ls hE hP hD hS hl)
theorem z_bald {k n : Nat} {i : Int32} (hd : decode cc pc = .ok (.baload, 1)) (hg : Ly[k]? = some (.inl (2, n))) (hin : ¬ (i < 0 ∨ n ≤ i.toNatClampNeg)) (kk : WA Ly l own cc nL ret kd r S1 (pc + 1) lo (.int (S.1 k i.toNatClampNeg) :: st) S) : WA Ly l own cc nL ret kd r S1 pc lo (.int i :: .ref k :: st) S := by
  intro p e s m args below meth c D cA ad A H locs ls hE hP hD hS hl
  exact va_bald hE.1 hE.2.1 hE.2.2.2.2.2.2.2.1 hP k 2 (zw_at hg) rfl hin hd (kk p e s m args below meth c D cA ad A H locs ls hE hP hD hS hl)
theorem z_zald {k n : Nat} {i : Int32} (hd : decode cc pc = .ok (.baload, 1)) (hg : Ly[k]? = some (.inl (3, n))) (hin : ¬ (i < 0 ∨ n ≤ i.toNatClampNeg)) (kk : WA Ly l own cc nL ret kd r S1 (pc + 1) lo (.int (S.1 k i.toNatClampNeg) :: st) S) : WA Ly l own cc nL ret kd r S1 pc lo (.int i :: .ref k :: st) S := by
  intro p e s m args below meth c D cA ad A H locs ls hE hP hD hS hl
  exact va_zald hE.1 hE.2.1 hE.2.2.2.2.2.2.2.1 hP k 3 (zw_at hg) rfl hin hd (kk p e s m args below meth c D cA ad A H locs ls hE hP hD hS hl)
theorem z_iast {k n : Nat} {i : Int32} {x : Int32} (hd : decode cc pc = .ok (.iastore, 1)) (hg : Ly[k]? = some (.inl (0, n))) (hin : ¬ (i < 0 ∨ n ≤ i.toNatClampNeg)) (hS2 : S2 = zput S k i.toNatClampNeg x) (kk : WA Ly l own cc nL ret kd r S1 (pc + 1) lo st S2) : WA Ly l own cc nL ret kd r S1 pc lo (.int x :: .int i :: .ref k :: st) S := by
  intro p e s m args below meth c D cA ad A H locs ls hE hP hD hS hl
  subst hS2
  refine va_iast hE.1 hE.2.1 hE.2.2.2.2.2.2.2.1 hP hD hS k 0 (zw_at hg) rfl hin hd (fun H1 locs1 hP1 hD1 hS1 => ?_)
  have e2 : (zw Ly cA ad S).set k (ad k, .inl (cA 0, n, .inl (upd (S.1 k) i.toNatClampNeg x))) = zw Ly cA ad (zput S k i.toNatClampNeg x) := zw_set hg (by rw [zput_s]; rfl) (zput_o S k _ _)
  rw [e2] at hP1 hD1
  exact kk p e s m args below meth c D cA ad A H1 locs1 ls hE hP1 hD1 hS1 hl
theorem z_last {k n : Nat} {i : Int32} {x : Int64} (hd : decode cc pc = .ok (.lastore, 1)) (hg : Ly[k]? = some (.inl (1, n))) (hin : ¬ (i < 0 ∨ n ≤ i.toNatClampNeg)) (hS2 : S2 = zputL S k i.toNatClampNeg x) (kk : WA Ly l own cc nL ret kd r S1 (pc + 1) lo st S2) : WA Ly l own cc nL ret kd r S1 pc lo (.long x :: .int i :: .ref k :: st) S := by
  intro p e s m args below meth c D cA ad A H locs ls hE hP hD hS hl
  subst hS2
  refine va_last hE.1 hE.2.1 hE.2.2.2.2.2.2.2.1 hP hD hS k 1 (zw_at hg) rfl hin hd (fun H1 locs1 hP1 hD1 hS1 => ?_)
  have e2 : (zw Ly cA ad S).set k (ad k, .inl (cA 1, n, .inr (.inl (vp_updL (S.2 k) i.toNatClampNeg x)))) = zw Ly cA ad (zputL S k i.toNatClampNeg x) := zw_set hg (by rw [zputL_s]; rfl) (zputL_o S k _ _)
  rw [e2] at hP1 hD1
  exact kk p e s m args below meth c D cA ad A H1 locs1 ls hE hP1 hD1 hS1 hl
theorem z_bast {k n : Nat} {i : Int32} {x : Int32} (hd : decode cc pc = .ok (.bastore, 1)) (hg : Ly[k]? = some (.inl (2, n))) (hin : ¬ (i < 0 ∨ n ≤ i.toNatClampNeg)) (hS2 : S2 = zput S k i.toNatClampNeg (vp_nar .byte x)) (kk : WA Ly l own cc nL ret kd r S1 (pc + 1) lo st S2) : WA Ly l own cc nL ret kd r S1 pc lo (.int x :: .int i :: .ref k :: st) S := by
  intro p e s m args below meth c D cA ad A H locs ls hE hP hD hS hl
  subst hS2
  refine va_bast hE.1 hE.2.1 hE.2.2.2.2.2.2.2.1 hP hD hS k 2 (zw_at hg) rfl hin hd (fun H1 locs1 hP1 hD1 hS1 => ?_)
  have e2 : (zw Ly cA ad S).set k (ad k, .inl (cA 2, n, .inl (upd (S.1 k) i.toNatClampNeg (vp_nar .byte x)))) = zw Ly cA ad (zput S k i.toNatClampNeg (vp_nar .byte x)) := zw_set hg (by rw [zput_s]; rfl) (zput_o S k _ _)
  rw [e2] at hP1 hD1
  exact kk p e s m args below meth c D cA ad A H1 locs1 ls hE hP1 hD1 hS1 hl
theorem z_zast {k n : Nat} {i : Int32} {x : Int32} (hd : decode cc pc = .ok (.bastore, 1)) (hg : Ly[k]? = some (.inl (3, n))) (hin : ¬ (i < 0 ∨ n ≤ i.toNatClampNeg)) (hS2 : S2 = zput S k i.toNatClampNeg (vp_nar .boolean x)) (kk : WA Ly l own cc nL ret kd r S1 (pc + 1) lo st S2) : WA Ly l own cc nL ret kd r S1 pc lo (.int x :: .int i :: .ref k :: st) S := by
  intro p e s m args below meth c D cA ad A H locs ls hE hP hD hS hl
  subst hS2
  refine va_zast hE.1 hE.2.1 hE.2.2.2.2.2.2.2.1 hP hD hS k 3 (zw_at hg) rfl hin hd (fun H1 locs1 hP1 hD1 hS1 => ?_)
  have e2 : (zw Ly cA ad S).set k (ad k, .inl (cA 3, n, .inl (upd (S.1 k) i.toNatClampNeg (vp_nar .boolean x)))) = zw Ly cA ad (zput S k i.toNatClampNeg (vp_nar .boolean x)) := zw_set hg (by rw [zput_s]; rfl) (zput_o S k _ _)
  rw [e2] at hP1 hD1
  exact kk p e s m args below meth c D cA ad A H1 locs1 ls hE hP1 hD1 hS1 hl
theorem z_alen {k t n : Nat} {v : Int32} (hd : decode cc pc = .ok (.arraylength, 1)) (hg : Ly[k]? = some (.inl (t, n))) (ht : t < 4) (hv : Int32.ofNat n = v) (kk : WA Ly l own cc nL ret kd r S1 (pc + 1) lo (.int v :: st) S) : WA Ly l own cc nL ret kd r S1 pc lo (.ref k :: st) S := by
  intro p e s m args below meth c D cA ad A H locs ls hE hP hD hS hl
  have hty : ∃ ty, (ztys cA)[t]? = some (cA t, ty) := by
    match t, ht with
    | 0, _ => exact ⟨_, rfl⟩
    | 1, _ => exact ⟨_, rfl⟩
    | 2, _ => exact ⟨_, rfl⟩
    | 3, _ => exact ⟨_, rfl⟩
  obtain ⟨ty, hty⟩ := hty
  exact va_alen hE.1 hE.2.1 hE.2.2.2.2.2.2.2.1 hP k t (zw_at hg) hty hv hd (kk p e s m args below meth c D cA ad A H locs ls hE hP hD hS hl)
theorem z_iret {x : Int32} (hd : decode cc pc = .ok (.ireturn, 1)) : WA Ly l own cc nL (some .int) kd (some (.int x)) S pc lo [.int x] S := by
  intro p e s m args below meth c D cA ad A H locs ls hE hP hD hS hl
  exact W.iret (v := x) hE.1 hE.2.1 hE.2.2.1 (fun t ht hW => ⟨⟨rfl, by rw [ht]; exact hP, va_K.moved hW.alike hE.2.2.2.2.2.2.2.1⟩, hS.F ht⟩) hS.2.2 hd hE.2.2.2.2.2.2.1
theorem z_zret {x : Int32} (hd : decode cc pc = .ok (.ireturn, 1)) (hn : narrow .boolean (.int x) = .int x) : WA Ly l own cc nL (some .boolean) kd (some (.int x)) S pc lo [.int x] S := by
  intro p e s m args below meth c D cA ad A H locs ls hE hP hD hS hl
  exact W.zret (v := x) hE.1 hE.2.1 hE.2.2.1 hn (fun t ht hW => ⟨⟨rfl, by rw [ht]; exact hP, va_K.moved hW.alike hE.2.2.2.2.2.2.2.1⟩, hS.F ht⟩) hS.2.2 hd hE.2.2.2.2.2.2.1
theorem z_vret (hd : decode cc pc = .ok (.return_, 1)) : WA Ly l own cc nL none kd none S pc lo [] S := by
  intro p e s m args below meth c D cA ad A H locs ls hE hP hD hS hl
  exact W.vret hE.1 hE.2.1 hE.2.2.1 (fun t ht hW => ⟨⟨rfl, by rw [ht]; exact hP, va_K.moved hW.alike hE.2.2.2.2.2.2.2.1⟩, hS.F ht⟩) hS.2.2 hd hE.2.2.2.2.2.2.1
end ZR
