/-! ===== the walk with any room, any end, and a layout that may grow: constructors, and the one method that exchanges two cells' places ===== -/
def WG (Ly : List zC) (l : Launch) (own : String) (cc : ByteArray) (nL : Nat) (ret : Option FieldType) (R : Room) (n0 : Nat) (ini : Bool) (EX : State → (Nat → Prop) → (Nat → Nat) → Prop) (Qf : List Frame → Array Value → State → va_G → (Nat → ClassId) → (Nat → Nat) → (Nat → Prop) → State → Prop) (nc ns pc : Nat) (lo : List (Nat × Value)) (st : List Value) (S : zS) : Prop :=
  ∀ (p : Program) (e : Env) (s : State) (m : MethodId) (args : Array Value) (below : List Frame) (meth : Method) (c : Code) (D : va_G) (cA : Nat → ClassId) (ad0 ad : Nat → Nat) (A : Nat → Prop) (H : Heap) (locs : List Loc) (ls : Array Slot),
    zE p s m args meth c own cc nL ret D cA ad A → (∀ i, i < n0 ∨ 900 ≤ i → ad i = ad0 i) → (ini = true → meth.name = "<init>") → EX s A ad0 → va_P D vwCl (zw Ly cA ad S) H → va_D A (zw Ly cA ad S) → va_S A s.heap H locs → lv_has ls nL (zlo ad lo) →
    W p l e R s m args below meth c H locs nc ns (Qf below args s D cA ad0 A) (F0 m pc ls (st.map (zv ad)))
section ZR
variable {Ly : List zC} {l : Launch} {own : String} {cc : ByteArray} {nL : Nat} {ret : Option FieldType} {R : Room} {n0 nc ns : Nat} {ini : Bool} {EX : State → (Nat → Prop) → (Nat → Nat) → Prop} {Qf : List Frame → Array Value → State → va_G → (Nat → ClassId) → (Nat → Nat) → (Nat → Prop) → State → Prop} {S S2 : zS} {pc : Nat} {lo lo' : List (Nat × Value)} {st st0 : List Value}
theorem g_iconst {n : Int} {v : Int32} (hd : decode cc pc = .ok ((.iconst n), 1)) (hv : Int32.ofInt n = v) (k : WG Ly l own cc nL ret R n0 ini EX Qf nc ns (pc + 1) lo (.int v :: st) S) : WG Ly l own cc nL ret R n0 ini EX Qf nc ns pc lo st S := by
  intro p e s m args below meth c D cA ad0 ad A H locs ls hE hag hini hex hP hD hS hl
  exact lv_iconst hE.1 hE.2.1 hd hv (k p e s m args below meth c D cA ad0 ad A H locs ls hE hag hini hex hP hD hS hl)
theorem g_bipush {n : Int} {v : Int32} (hd : decode cc pc = .ok ((.bipush n), 2)) (hv : (Int8.ofInt n).toInt32 = v) (k : WG Ly l own cc nL ret R n0 ini EX Qf nc ns (pc + 2) lo (.int v :: st) S) : WG Ly l own cc nL ret R n0 ini EX Qf nc ns pc lo st S := by
  intro p e s m args below meth c D cA ad0 ad A H locs ls hE hag hini hex hP hD hS hl
  exact lv_bipush hE.1 hE.2.1 hd hv (k p e s m args below meth c D cA ad0 ad A H locs ls hE hag hini hex hP hD hS hl)
theorem g_sipush {n : Int} {v : Int32} (hd : decode cc pc = .ok ((.sipush n), 3)) (hv : (Int16.ofInt n).toInt32 = v) (k : WG Ly l own cc nL ret R n0 ini EX Qf nc ns (pc + 3) lo (.int v :: st) S) : WG Ly l own cc nL ret R n0 ini EX Qf nc ns pc lo st S := by
  intro p e s m args below meth c D cA ad0 ad A H locs ls hE hag hini hex hP hD hS hl
  exact lv_sipush hE.1 hE.2.1 hd hv (k p e s m args below meth c D cA ad0 ad A H locs ls hE hag hini hex hP hD hS hl)
theorem g_lconst {n : Fin 2} {v : Int64} (hd : decode cc pc = .ok ((.lconst n), 1)) (hv : Int64.ofNat (n : Nat) = v) (k : WG Ly l own cc nL ret R n0 ini EX Qf nc ns (pc + 1) lo (.long v :: st) S) : WG Ly l own cc nL ret R n0 ini EX Qf nc ns pc lo st S := by
  intro p e s m args below meth c D cA ad0 ad A H locs ls hE hag hini hex hP hD hS hl
  exact lv_lconst hE.1 hE.2.1 hd hv (k p e s m args below meth c D cA ad0 ad A H locs ls hE hag hini hex hP hD hS hl)
theorem g_iload_n {j : Fin 4} {q i : Nat} {x : Int32} (hd : decode cc pc = .ok (.iload_n j, 1)) (hi : (j : Nat) = i) (hq : lo[q]? = some (i, .int x)) (k : WG Ly l own cc nL ret R n0 ini EX Qf nc ns (pc + 1) lo (.int x :: st) S) : WG Ly l own cc nL ret R n0 ini EX Qf nc ns pc lo st S := by
  intro p e s m args below meth c D cA ad0 ad A H locs ls hE hag hini hex hP hD hS hl
  exact lv_iload_n hE.1 hE.2.1 hd hi (zlo_at hl hq) (k p e s m args below meth c D cA ad0 ad A H locs ls hE hag hini hex hP hD hS hl)
theorem g_iload {q i : Nat} {x : Int32} (hd : decode cc pc = .ok (.iload i, 2)) (hq : lo[q]? = some (i, .int x)) (k : WG Ly l own cc nL ret R n0 ini EX Qf nc ns (pc + 2) lo (.int x :: st) S) : WG Ly l own cc nL ret R n0 ini EX Qf nc ns pc lo st S := by
  intro p e s m args below meth c D cA ad0 ad A H locs ls hE hag hini hex hP hD hS hl
  exact lv_iload hE.1 hE.2.1 hd (zlo_at hl hq) (k p e s m args below meth c D cA ad0 ad A H locs ls hE hag hini hex hP hD hS hl)
theorem g_lload_n {j : Fin 4} {q i : Nat} {x : Int64} (hd : decode cc pc = .ok (.lload_n j, 1)) (hi : (j : Nat) = i) (hq : lo[q]? = some (i, .long x)) (k : WG Ly l own cc nL ret R n0 ini EX Qf nc ns (pc + 1) lo (.long x :: st) S) : WG Ly l own cc nL ret R n0 ini EX Qf nc ns pc lo st S := by
  intro p e s m args below meth c D cA ad0 ad A H locs ls hE hag hini hex hP hD hS hl
  exact lv_lload_n hE.1 hE.2.1 hd hi (zlo_at hl hq) (k p e s m args below meth c D cA ad0 ad A H locs ls hE hag hini hex hP hD hS hl)
theorem g_aload_n {j : Fin 4} {q i : Nat} {x : Nat} (hd : decode cc pc = .ok (.aload_n j, 1)) (hi : (j : Nat) = i) (hq : lo[q]? = some (i, .ref x)) (k : WG Ly l own cc nL ret R n0 ini EX Qf nc ns (pc + 1) lo (.ref x :: st) S) : WG Ly l own cc nL ret R n0 ini EX Qf nc ns pc lo st S := by
  intro p e s m args below meth c D cA ad0 ad A H locs ls hE hag hini hex hP hD hS hl
  exact lv_aload_n hE.1 hE.2.1 hd hi (zlo_at hl hq) (k p e s m args below meth c D cA ad0 ad A H locs ls hE hag hini hex hP hD hS hl)
theorem g_aload {q i : Nat} {x : Nat} (hd : decode cc pc = .ok (.aload i, 2)) (hq : lo[q]? = some (i, .ref x)) (k : WG Ly l own cc nL ret R n0 ini EX Qf nc ns (pc + 2) lo (.ref x :: st) S) : WG Ly l own cc nL ret R n0 ini EX Qf nc ns pc lo st S := by
  intro p e s m args below meth c D cA ad0 ad A H locs ls hE hag hini hex hP hD hS hl
  exact lv_aload hE.1 hE.2.1 hd (zlo_at hl hq) (k p e s m args below meth c D cA ad0 ad A H locs ls hE hag hini hex hP hD hS hl)
theorem g_istore_n {j : Fin 4} {i : Nat} {x : Int32} (hd : decode cc pc = .ok (.istore_n j, 1)) (hi : (j : Nat) = i) (hn : i < nL) (hlo : (i, Value.int x) :: lo.filter (fun q => !(q.1 == i) && !(q.1 + 1 == i && q.2.category == 2)) = lo') (k : WG Ly l own cc nL ret R n0 ini EX Qf nc ns (pc + 1) lo' st S) : WG Ly l own cc nL ret R n0 ini EX Qf nc ns pc lo (.int x :: st) S := by
  intro p e s m args below meth c D cA ad0 ad A H locs ls hE hag hini hex hP hD hS hl
  exact lv_istore_n hE.1 hE.2.1 hd hi hl hn (zlo_set hlo) (fun ls hl => k p e s m args below meth c D cA ad0 ad A H locs ls hE hag hini hex hP hD hS hl)
theorem g_istore {i : Nat} {x : Int32} (hd : decode cc pc = .ok (.istore i, 2)) (hn : i < nL) (hlo : (i, Value.int x) :: lo.filter (fun q => !(q.1 == i) && !(q.1 + 1 == i && q.2.category == 2)) = lo') (k : WG Ly l own cc nL ret R n0 ini EX Qf nc ns (pc + 2) lo' st S) : WG Ly l own cc nL ret R n0 ini EX Qf nc ns pc lo (.int x :: st) S := by
  intro p e s m args below meth c D cA ad0 ad A H locs ls hE hag hini hex hP hD hS hl
  exact lv_istore hE.1 hE.2.1 hd hl hn (zlo_set hlo) (fun ls hl => k p e s m args below meth c D cA ad0 ad A H locs ls hE hag hini hex hP hD hS hl)
theorem g_astore_n {j : Fin 4} {i : Nat} {x : Nat} (hd : decode cc pc = .ok (.astore_n j, 1)) (hi : (j : Nat) = i) (hn : i < nL) (hlo : (i, Value.ref x) :: lo.filter (fun q => !(q.1 == i) && !(q.1 + 1 == i && q.2.category == 2)) = lo') (k : WG Ly l own cc nL ret R n0 ini EX Qf nc ns (pc + 1) lo' st S) : WG Ly l own cc nL ret R n0 ini EX Qf nc ns pc lo (.ref x :: st) S := by
  intro p e s m args below meth c D cA ad0 ad A H locs ls hE hag hini hex hP hD hS hl
  exact lv_astore_n hE.1 hE.2.1 hd hi hl hn (zlo_set hlo) (fun ls hl => k p e s m args below meth c D cA ad0 ad A H locs ls hE hag hini hex hP hD hS hl)
theorem g_astore {i : Nat} {x : Nat} (hd : decode cc pc = .ok (.astore i, 2)) (hn : i < nL) (hlo : (i, Value.ref x) :: lo.filter (fun q => !(q.1 == i) && !(q.1 + 1 == i && q.2.category == 2)) = lo') (k : WG Ly l own cc nL ret R n0 ini EX Qf nc ns (pc + 2) lo' st S) : WG Ly l own cc nL ret R n0 ini EX Qf nc ns pc lo (.ref x :: st) S := by
  intro p e s m args below meth c D cA ad0 ad A H locs ls hE hag hini hex hP hD hS hl
  exact lv_astore hE.1 hE.2.1 hd hl hn (zlo_set hlo) (fun ls hl => k p e s m args below meth c D cA ad0 ad A H locs ls hE hag hini hex hP hD hS hl)
theorem g_iinc {q i : Nat} {n : Int} {x v : Int32} (hd : decode cc pc = .ok (.iinc i n, 3)) (hq : lo[q]? = some (i, .int x)) (hv : x + Int32.ofInt n = v) (hn : i < nL) (hlo : (i, Value.int v) :: lo.filter (fun q => !(q.1 == i) && !(q.1 + 1 == i && q.2.category == 2)) = lo') (k : WG Ly l own cc nL ret R n0 ini EX Qf nc ns (pc + 3) lo' st S) : WG Ly l own cc nL ret R n0 ini EX Qf nc ns pc lo st S := by
  intro p e s m args below meth c D cA ad0 ad A H locs ls hE hag hini hex hP hD hS hl
  exact lv_iinc (k := q) hE.1 hE.2.1 hd hl (show (zlo ad lo)[q]? = some (i, .int x) by simp [zlo, hq, zv]) hv hn (zlo_set (v := .int v) hlo) (fun ls hl => k p e s m args below meth c D cA ad0 ad A H locs ls hE hag hini hex hP hD hS hl)
theorem g_sub (is : List Nat) (h : lv_pick lo is = lo') (k : WG Ly l own cc nL ret R n0 ini EX Qf nc ns pc lo' st S) : WG Ly l own cc nL ret R n0 ini EX Qf nc ns pc lo st S := by
  intro p e s m args below meth c D cA ad0 ad A H locs ls hE hag hini hex hP hD hS hl
  exact k p e s m args below meth c D cA ad0 ad A H locs ls hE hag hini hex hP hD hS (lv_sub hl is (by subst h; simp [lv_pick, zlo, List.map_filterMap, List.filterMap_map]))
theorem g_iadd {x y : Int32} (hd : decode cc pc = .ok (.iadd, 1))  (k : WG Ly l own cc nL ret R n0 ini EX Qf nc ns (pc + 1) lo (.int (x + y) :: st) S) : WG Ly l own cc nL ret R n0 ini EX Qf nc ns pc lo (.int y :: .int x :: st) S := by
  intro p e s m args below meth c D cA ad0 ad A H locs ls hE hag hini hex hP hD hS hl
  exact lv_iadd hE.1 hE.2.1 hd  (k p e s m args below meth c D cA ad0 ad A H locs ls hE hag hini hex hP hD hS hl)
theorem g_isub {x y : Int32} (hd : decode cc pc = .ok (.isub, 1))  (k : WG Ly l own cc nL ret R n0 ini EX Qf nc ns (pc + 1) lo (.int (x - y) :: st) S) : WG Ly l own cc nL ret R n0 ini EX Qf nc ns pc lo (.int y :: .int x :: st) S := by
  intro p e s m args below meth c D cA ad0 ad A H locs ls hE hag hini hex hP hD hS hl
  exact lv_isub hE.1 hE.2.1 hd  (k p e s m args below meth c D cA ad0 ad A H locs ls hE hag hini hex hP hD hS hl)
theorem g_imul {x y : Int32} (hd : decode cc pc = .ok (.imul, 1))  (k : WG Ly l own cc nL ret R n0 ini EX Qf nc ns (pc + 1) lo (.int (x * y) :: st) S) : WG Ly l own cc nL ret R n0 ini EX Qf nc ns pc lo (.int y :: .int x :: st) S := by
  intro p e s m args below meth c D cA ad0 ad A H locs ls hE hag hini hex hP hD hS hl
  exact lv_imul hE.1 hE.2.1 hd  (k p e s m args below meth c D cA ad0 ad A H locs ls hE hag hini hex hP hD hS hl)
theorem g_iand {x y : Int32} (hd : decode cc pc = .ok (.iand, 1))  (k : WG Ly l own cc nL ret R n0 ini EX Qf nc ns (pc + 1) lo (.int (x &&& y) :: st) S) : WG Ly l own cc nL ret R n0 ini EX Qf nc ns pc lo (.int y :: .int x :: st) S := by
  intro p e s m args below meth c D cA ad0 ad A H locs ls hE hag hini hex hP hD hS hl
  exact lv_iand hE.1 hE.2.1 hd  (k p e s m args below meth c D cA ad0 ad A H locs ls hE hag hini hex hP hD hS hl)
theorem g_ior {x y : Int32} (hd : decode cc pc = .ok (.ior, 1))  (k : WG Ly l own cc nL ret R n0 ini EX Qf nc ns (pc + 1) lo (.int (x ||| y) :: st) S) : WG Ly l own cc nL ret R n0 ini EX Qf nc ns pc lo (.int y :: .int x :: st) S := by
  intro p e s m args below meth c D cA ad0 ad A H locs ls hE hag hini hex hP hD hS hl
  exact lv_ior hE.1 hE.2.1 hd  (k p e s m args below meth c D cA ad0 ad A H locs ls hE hag hini hex hP hD hS hl)
theorem g_ixor {x y : Int32} (hd : decode cc pc = .ok (.ixor, 1))  (k : WG Ly l own cc nL ret R n0 ini EX Qf nc ns (pc + 1) lo (.int (x ^^^ y) :: st) S) : WG Ly l own cc nL ret R n0 ini EX Qf nc ns pc lo (.int y :: .int x :: st) S := by
  intro p e s m args below meth c D cA ad0 ad A H locs ls hE hag hini hex hP hD hS hl
  exact lv_ixor hE.1 hE.2.1 hd  (k p e s m args below meth c D cA ad0 ad A H locs ls hE hag hini hex hP hD hS hl)
theorem g_ishl {x y : Int32} (hd : decode cc pc = .ok (.ishl, 1))  (k : WG Ly l own cc nL ret R n0 ini EX Qf nc ns (pc + 1) lo (.int (x <<< (y &&& 31)) :: st) S) : WG Ly l own cc nL ret R n0 ini EX Qf nc ns pc lo (.int y :: .int x :: st) S := by
  intro p e s m args below meth c D cA ad0 ad A H locs ls hE hag hini hex hP hD hS hl
  exact lv_ishl hE.1 hE.2.1 hd  (k p e s m args below meth c D cA ad0 ad A H locs ls hE hag hini hex hP hD hS hl)
theorem g_ishr {x y : Int32} (hd : decode cc pc = .ok (.ishr, 1))  (k : WG Ly l own cc nL ret R n0 ini EX Qf nc ns (pc + 1) lo (.int (x >>> (y &&& 31)) :: st) S) : WG Ly l own cc nL ret R n0 ini EX Qf nc ns pc lo (.int y :: .int x :: st) S := by
  intro p e s m args below meth c D cA ad0 ad A H locs ls hE hag hini hex hP hD hS hl
  exact lv_ishr hE.1 hE.2.1 hd  (k p e s m args below meth c D cA ad0 ad A H locs ls hE hag hini hex hP hD hS hl)
theorem g_iushr {x y v : Int32} (hd : decode cc pc = .ok (.iushr, 1)) (hv : (x.toUInt32 >>> (y.toUInt32 &&& 31)).toInt32 = v) (k : WG Ly l own cc nL ret R n0 ini EX Qf nc ns (pc + 1) lo (.int v :: st) S) : WG Ly l own cc nL ret R n0 ini EX Qf nc ns pc lo (.int y :: .int x :: st) S := by
  intro p e s m args below meth c D cA ad0 ad A H locs ls hE hag hini hex hP hD hS hl
  exact lv_iushr hE.1 hE.2.1 hd hv (k p e s m args below meth c D cA ad0 ad A H locs ls hE hag hini hex hP hD hS hl)
theorem g_idiv {x y : Int32} (hd : decode cc pc = .ok (.idiv, 1)) (hne : ¬ y = 0) (k : WG Ly l own cc nL ret R n0 ini EX Qf nc ns (pc + 1) lo (.int (x / y) :: st) S) : WG Ly l own cc nL ret R n0 ini EX Qf nc ns pc lo (.int y :: .int x :: st) S := by
  intro p e s m args below meth c D cA ad0 ad A H locs ls hE hag hini hex hP hD hS hl
  exact lv_idiv hE.1 hE.2.1 hd hne (k p e s m args below meth c D cA ad0 ad A H locs ls hE hag hini hex hP hD hS hl)
theorem g_irem {x y : Int32} (hd : decode cc pc = .ok (.irem, 1)) (hne : ¬ y = 0) (k : WG Ly l own cc nL ret R n0 ini EX Qf nc ns (pc + 1) lo (.int (x - x / y * y) :: st) S) : WG Ly l own cc nL ret R n0 ini EX Qf nc ns pc lo (.int y :: .int x :: st) S := by
  intro p e s m args below meth c D cA ad0 ad A H locs ls hE hag hini hex hP hD hS hl
  exact lv_irem hE.1 hE.2.1 hd hne (k p e s m args below meth c D cA ad0 ad A H locs ls hE hag hini hex hP hD hS hl)
theorem g_ineg {x : Int32} (hd : decode cc pc = .ok (.ineg, 1))  (k : WG Ly l own cc nL ret R n0 ini EX Qf nc ns (pc + 1) lo (.int (-x) :: st) S) : WG Ly l own cc nL ret R n0 ini EX Qf nc ns pc lo (.int x :: st) S := by
  intro p e s m args below meth c D cA ad0 ad A H locs ls hE hag hini hex hP hD hS hl
  exact lv_ineg hE.1 hE.2.1 hd  (k p e s m args below meth c D cA ad0 ad A H locs ls hE hag hini hex hP hD hS hl)
theorem g_lor {x y : Int64} (hd : decode cc pc = .ok (.lor, 1))  (k : WG Ly l own cc nL ret R n0 ini EX Qf nc ns (pc + 1) lo (.long (x ||| y) :: st) S) : WG Ly l own cc nL ret R n0 ini EX Qf nc ns pc lo (.long y :: .long x :: st) S := by
  intro p e s m args below meth c D cA ad0 ad A H locs ls hE hag hini hex hP hD hS hl
  exact lv_lor hE.1 hE.2.1 hd  (k p e s m args below meth c D cA ad0 ad A H locs ls hE hag hini hex hP hD hS hl)
theorem g_lshl {x : Int64} {y : Int32} (hd : decode cc pc = .ok (.lshl, 1))  (k : WG Ly l own cc nL ret R n0 ini EX Qf nc ns (pc + 1) lo (.long (x <<< (y.toInt64 &&& 63)) :: st) S) : WG Ly l own cc nL ret R n0 ini EX Qf nc ns pc lo (.int y :: .long x :: st) S := by
  intro p e s m args below meth c D cA ad0 ad A H locs ls hE hag hini hex hP hD hS hl
  exact lv_lshl hE.1 hE.2.1 hd rfl (k p e s m args below meth c D cA ad0 ad A H locs ls hE hag hini hex hP hD hS hl)
theorem g_i2l {x : Int32} (hd : decode cc pc = .ok (.i2l, 1))  (k : WG Ly l own cc nL ret R n0 ini EX Qf nc ns (pc + 1) lo (.long x.toInt64 :: st) S) : WG Ly l own cc nL ret R n0 ini EX Qf nc ns pc lo (.int x :: st) S := by
  intro p e s m args below meth c D cA ad0 ad A H locs ls hE hag hini hex hP hD hS hl
  exact lv_i2l hE.1 hE.2.1 hd rfl (k p e s m args below meth c D cA ad0 ad A H locs ls hE hag hini hex hP hD hS hl)
theorem g_i2b {x : Int32} (hd : decode cc pc = .ok (.i2b, 1))  (k : WG Ly l own cc nL ret R n0 ini EX Qf nc ns (pc + 1) lo (.int x.toInt8.toInt32 :: st) S) : WG Ly l own cc nL ret R n0 ini EX Qf nc ns pc lo (.int x :: st) S := by
  intro p e s m args below meth c D cA ad0 ad A H locs ls hE hag hini hex hP hD hS hl
  exact lv_i2b hE.1 hE.2.1 hd rfl (k p e s m args below meth c D cA ad0 ad A H locs ls hE hag hini hex hP hD hS hl)
theorem g_i2c {x : Int32} (hd : decode cc pc = .ok (.i2c, 1))  (k : WG Ly l own cc nL ret R n0 ini EX Qf nc ns (pc + 1) lo (.int (x.toUInt32 % 65536).toInt32 :: st) S) : WG Ly l own cc nL ret R n0 ini EX Qf nc ns pc lo (.int x :: st) S := by
  intro p e s m args below meth c D cA ad0 ad A H locs ls hE hag hini hex hP hD hS hl
  exact lv_i2c hE.1 hE.2.1 hd rfl (k p e s m args below meth c D cA ad0 ad A H locs ls hE hag hini hex hP hD hS hl)
theorem g_lcmp {x y : Int64} (hd : decode cc pc = .ok (.lcmp, 1))  (k : WG Ly l own cc nL ret R n0 ini EX Qf nc ns (pc + 1) lo (.int (lg_cmp x y) :: st) S) : WG Ly l own cc nL ret R n0 ini EX Qf nc ns pc lo (.long y :: .long x :: st) S := by
  intro p e s m args below meth c D cA ad0 ad A H locs ls hE hag hini hex hP hD hS hl
  exact W.lcmp hE.1 hE.2.1 hd  (k p e s m args below meth c D cA ad0 ad A H locs ls hE hag hini hex hP hD hS hl)
theorem g_dup {v : Value} (hd : decode cc pc = .ok (.dup, 1)) (hc : v.category = 1) (k : WG Ly l own cc nL ret R n0 ini EX Qf nc ns (pc + 1) lo (v :: v :: st) S) : WG Ly l own cc nL ret R n0 ini EX Qf nc ns pc lo (v :: st) S := by
  intro p e s m args below meth c D cA ad0 ad A H locs ls hE hag hini hex hP hD hS hl
  exact lv_dup hE.1 hE.2.1 hd (by rw [zv_cat]; exact hc) (k p e s m args below meth c D cA ad0 ad A H locs ls hE hag hini hex hP hD hS hl)
theorem g_pop {v : Value} (hd : decode cc pc = .ok (.pop, 1)) (hc : v.category = 1) (k : WG Ly l own cc nL ret R n0 ini EX Qf nc ns (pc + 1) lo st S) : WG Ly l own cc nL ret R n0 ini EX Qf nc ns pc lo (v :: st) S := by
  intro p e s m args below meth c D cA ad0 ad A H locs ls hE hag hini hex hP hD hS hl
  exact lv_pop hE.1 hE.2.1 hd (by rw [zv_cat]; exact hc) (k p e s m args below meth c D cA ad0 ad A H locs ls hE hag hini hex hP hD hS hl)
theorem g_dup2 {v u : Value} (hd : decode cc pc = .ok (.dup2, 1)) (hc : v.category = 1) (hc' : u.category = 1) (k : WG Ly l own cc nL ret R n0 ini EX Qf nc ns (pc + 1) lo (v :: u :: v :: u :: st) S) : WG Ly l own cc nL ret R n0 ini EX Qf nc ns pc lo (v :: u :: st) S := by
  intro p e s m args below meth c D cA ad0 ad A H locs ls hE hag hini hex hP hD hS hl
  exact lv_dup2_11 hE.1 hE.2.1 hd (by rw [zv_cat]; exact hc) (by rw [zv_cat]; exact hc') (k p e s m args below meth c D cA ad0 ad A H locs ls hE hag hini hex hP hD hS hl)
theorem g_goto {off : Int} {tgt : Nat} (hd : decode cc pc = .ok (.goto off, 3)) (ht : (pc : Int) + off = (tgt : Int)) (k : WG Ly l own cc nL ret R n0 ini EX Qf nc ns tgt lo st S) : WG Ly l own cc nL ret R n0 ini EX Qf nc ns pc lo st S := by
  intro p e s m args below meth c D cA ad0 ad A H locs ls hE hag hini hex hP hD hS hl
  exact lv_goto hE.1 hE.2.1 hd ht (k p e s m args below meth c D cA ad0 ad A H locs ls hE hag hini hex hP hD hS hl)
theorem g_icmp_eq {x y : Int32} {off : Int} {tgt : Nat} (hd : decode cc pc = .ok (.if_icmp .eq off, 3)) (ht : (pc : Int) + off = (tgt : Int)) (kt : x = y → WG Ly l own cc nL ret R n0 ini EX Qf nc ns tgt lo st S) (kf : ¬ x = y → WG Ly l own cc nL ret R n0 ini EX Qf nc ns (pc + 3) lo st S) : WG Ly l own cc nL ret R n0 ini EX Qf nc ns pc lo (.int y :: .int x :: st) S := by
  intro p e s m args below meth c D cA ad0 ad A H locs ls hE hag hini hex hP hD hS hl
  exact lv_icmp_eq hE.1 hE.2.1 hd ht (fun q => kt (q) p e s m args below meth c D cA ad0 ad A H locs ls hE hag hini hex hP hD hS hl) (fun q => kf (q) p e s m args below meth c D cA ad0 ad A H locs ls hE hag hini hex hP hD hS hl)
theorem g_icmp_ne {x y : Int32} {off : Int} {tgt : Nat} (hd : decode cc pc = .ok (.if_icmp .ne off, 3)) (ht : (pc : Int) + off = (tgt : Int)) (kt : ¬ x = y → WG Ly l own cc nL ret R n0 ini EX Qf nc ns tgt lo st S) (kf : x = y → WG Ly l own cc nL ret R n0 ini EX Qf nc ns (pc + 3) lo st S) : WG Ly l own cc nL ret R n0 ini EX Qf nc ns pc lo (.int y :: .int x :: st) S := by
  intro p e s m args below meth c D cA ad0 ad A H locs ls hE hag hini hex hP hD hS hl
  exact lv_icmp_ne hE.1 hE.2.1 hd ht (fun q => kt (q) p e s m args below meth c D cA ad0 ad A H locs ls hE hag hini hex hP hD hS hl) (fun q => kf (q) p e s m args below meth c D cA ad0 ad A H locs ls hE hag hini hex hP hD hS hl)
theorem g_icmp_lt {x y : Int32} {off : Int} {tgt : Nat} (hd : decode cc pc = .ok (.if_icmp .lt off, 3)) (ht : (pc : Int) + off = (tgt : Int)) (kt : x < y → WG Ly l own cc nL ret R n0 ini EX Qf nc ns tgt lo st S) (kf : ¬ x < y → WG Ly l own cc nL ret R n0 ini EX Qf nc ns (pc + 3) lo st S) : WG Ly l own cc nL ret R n0 ini EX Qf nc ns pc lo (.int y :: .int x :: st) S := by
  intro p e s m args below meth c D cA ad0 ad A H locs ls hE hag hini hex hP hD hS hl
  exact lv_icmp_lt hE.1 hE.2.1 hd ht (fun q => kt (q) p e s m args below meth c D cA ad0 ad A H locs ls hE hag hini hex hP hD hS hl) (fun q => kf (q) p e s m args below meth c D cA ad0 ad A H locs ls hE hag hini hex hP hD hS hl)
theorem g_icmp_ge {x y : Int32} {off : Int} {tgt : Nat} (hd : decode cc pc = .ok (.if_icmp .ge off, 3)) (ht : (pc : Int) + off = (tgt : Int)) (kt : ¬ x < y → WG Ly l own cc nL ret R n0 ini EX Qf nc ns tgt lo st S) (kf : x < y → WG Ly l own cc nL ret R n0 ini EX Qf nc ns (pc + 3) lo st S) : WG Ly l own cc nL ret R n0 ini EX Qf nc ns pc lo (.int y :: .int x :: st) S := by
  intro p e s m args below meth c D cA ad0 ad A H locs ls hE hag hini hex hP hD hS hl
  exact lv_icmp_ge hE.1 hE.2.1 hd ht (fun q => kt (Int32.not_lt.mpr q) p e s m args below meth c D cA ad0 ad A H locs ls hE hag hini hex hP hD hS hl) (fun q => kf (Int32.not_le.mp q) p e s m args below meth c D cA ad0 ad A H locs ls hE hag hini hex hP hD hS hl)
theorem g_icmp_gt {x y : Int32} {off : Int} {tgt : Nat} (hd : decode cc pc = .ok (.if_icmp .gt off, 3)) (ht : (pc : Int) + off = (tgt : Int)) (kt : y < x → WG Ly l own cc nL ret R n0 ini EX Qf nc ns tgt lo st S) (kf : ¬ y < x → WG Ly l own cc nL ret R n0 ini EX Qf nc ns (pc + 3) lo st S) : WG Ly l own cc nL ret R n0 ini EX Qf nc ns pc lo (.int y :: .int x :: st) S := by
  intro p e s m args below meth c D cA ad0 ad A H locs ls hE hag hini hex hP hD hS hl
  exact lv_icmp_gt hE.1 hE.2.1 hd ht (fun q => kt (q) p e s m args below meth c D cA ad0 ad A H locs ls hE hag hini hex hP hD hS hl) (fun q => kf (q) p e s m args below meth c D cA ad0 ad A H locs ls hE hag hini hex hP hD hS hl)
theorem g_icmp_le {x y : Int32} {off : Int} {tgt : Nat} (hd : decode cc pc = .ok (.if_icmp .le off, 3)) (ht : (pc : Int) + off = (tgt : Int)) (kt : ¬ y < x → WG Ly l own cc nL ret R n0 ini EX Qf nc ns tgt lo st S) (kf : y < x → WG Ly l own cc nL ret R n0 ini EX Qf nc ns (pc + 3) lo st S) : WG Ly l own cc nL ret R n0 ini EX Qf nc ns pc lo (.int y :: .int x :: st) S := by
  intro p e s m args below meth c D cA ad0 ad A H locs ls hE hag hini hex hP hD hS hl
  exact lv_icmp_le hE.1 hE.2.1 hd ht (fun q => kt (Int32.not_lt.mpr q) p e s m args below meth c D cA ad0 ad A H locs ls hE hag hini hex hP hD hS hl) (fun q => kf (Int32.not_le.mp q) p e s m args below meth c D cA ad0 ad A H locs ls hE hag hini hex hP hD hS hl)
theorem g_if_eq {x : Int32} {off : Int} {tgt : Nat} (hd : decode cc pc = .ok (.ifCond .eq off, 3)) (ht : (pc : Int) + off = (tgt : Int)) (kt : x = 0 → WG Ly l own cc nL ret R n0 ini EX Qf nc ns tgt lo st S) (kf : ¬ x = 0 → WG Ly l own cc nL ret R n0 ini EX Qf nc ns (pc + 3) lo st S) : WG Ly l own cc nL ret R n0 ini EX Qf nc ns pc lo (.int x :: st) S := by
  intro p e s m args below meth c D cA ad0 ad A H locs ls hE hag hini hex hP hD hS hl
  exact lv_if_eq hE.1 hE.2.1 hd ht (fun q => kt (q) p e s m args below meth c D cA ad0 ad A H locs ls hE hag hini hex hP hD hS hl) (fun q => kf (q) p e s m args below meth c D cA ad0 ad A H locs ls hE hag hini hex hP hD hS hl)
theorem g_if_ne {x : Int32} {off : Int} {tgt : Nat} (hd : decode cc pc = .ok (.ifCond .ne off, 3)) (ht : (pc : Int) + off = (tgt : Int)) (kt : ¬ x = 0 → WG Ly l own cc nL ret R n0 ini EX Qf nc ns tgt lo st S) (kf : x = 0 → WG Ly l own cc nL ret R n0 ini EX Qf nc ns (pc + 3) lo st S) : WG Ly l own cc nL ret R n0 ini EX Qf nc ns pc lo (.int x :: st) S := by
  intro p e s m args below meth c D cA ad0 ad A H locs ls hE hag hini hex hP hD hS hl
  exact lv_if_ne hE.1 hE.2.1 hd ht (fun q => kt (q) p e s m args below meth c D cA ad0 ad A H locs ls hE hag hini hex hP hD hS hl) (fun q => kf (q) p e s m args below meth c D cA ad0 ad A H locs ls hE hag hini hex hP hD hS hl)
theorem g_if_lt {x : Int32} {off : Int} {tgt : Nat} (hd : decode cc pc = .ok (.ifCond .lt off, 3)) (ht : (pc : Int) + off = (tgt : Int)) (kt : x < 0 → WG Ly l own cc nL ret R n0 ini EX Qf nc ns tgt lo st S) (kf : ¬ x < 0 → WG Ly l own cc nL ret R n0 ini EX Qf nc ns (pc + 3) lo st S) : WG Ly l own cc nL ret R n0 ini EX Qf nc ns pc lo (.int x :: st) S := by
  intro p e s m args below meth c D cA ad0 ad A H locs ls hE hag hini hex hP hD hS hl
  exact lv_if_lt hE.1 hE.2.1 hd ht (fun q => kt (q) p e s m args below meth c D cA ad0 ad A H locs ls hE hag hini hex hP hD hS hl) (fun q => kf (q) p e s m args below meth c D cA ad0 ad A H locs ls hE hag hini hex hP hD hS hl)
theorem g_if_ge {x : Int32} {off : Int} {tgt : Nat} (hd : decode cc pc = .ok (.ifCond .ge off, 3)) (ht : (pc : Int) + off = (tgt : Int)) (kt : ¬ x < 0 → WG Ly l own cc nL ret R n0 ini EX Qf nc ns tgt lo st S) (kf : x < 0 → WG Ly l own cc nL ret R n0 ini EX Qf nc ns (pc + 3) lo st S) : WG Ly l own cc nL ret R n0 ini EX Qf nc ns pc lo (.int x :: st) S := by
  intro p e s m args below meth c D cA ad0 ad A H locs ls hE hag hini hex hP hD hS hl
  exact lv_if_ge hE.1 hE.2.1 hd ht (fun q => kt (Int32.not_lt.mpr q) p e s m args below meth c D cA ad0 ad A H locs ls hE hag hini hex hP hD hS hl) (fun q => kf (Int32.not_le.mp q) p e s m args below meth c D cA ad0 ad A H locs ls hE hag hini hex hP hD hS hl)
theorem g_if_gt {x : Int32} {off : Int} {tgt : Nat} (hd : decode cc pc = .ok (.ifCond .gt off, 3)) (ht : (pc : Int) + off = (tgt : Int)) (kt : 0 < x → WG Ly l own cc nL ret R n0 ini EX Qf nc ns tgt lo st S) (kf : ¬ 0 < x → WG Ly l own cc nL ret R n0 ini EX Qf nc ns (pc + 3) lo st S) : WG Ly l own cc nL ret R n0 ini EX Qf nc ns pc lo (.int x :: st) S := by
  intro p e s m args below meth c D cA ad0 ad A H locs ls hE hag hini hex hP hD hS hl
  exact lv_if_gt hE.1 hE.2.1 hd ht (fun q => kt (q) p e s m args below meth c D cA ad0 ad A H locs ls hE hag hini hex hP hD hS hl) (fun q => kf (q) p e s m args below meth c D cA ad0 ad A H locs ls hE hag hini hex hP hD hS hl)
theorem g_if_le {x : Int32} {off : Int} {tgt : Nat} (hd : decode cc pc = .ok (.ifCond .le off, 3)) (ht : (pc : Int) + off = (tgt : Int)) (kt : ¬ 0 < x → WG Ly l own cc nL ret R n0 ini EX Qf nc ns tgt lo st S) (kf : 0 < x → WG Ly l own cc nL ret R n0 ini EX Qf nc ns (pc + 3) lo st S) : WG Ly l own cc nL ret R n0 ini EX Qf nc ns pc lo (.int x :: st) S := by
  intro p e s m args below meth c D cA ad0 ad A H locs ls hE hag hini hex hP hD hS hl
  exact lv_if_le hE.1 hE.2.1 hd ht (fun q => kt (Int32.not_lt.mpr q) p e s m args below meth c D cA ad0 ad A H locs ls hE hag hini hex hP hD hS hl) (fun q => kf (Int32.not_le.mp q) p e s m args below meth c D cA ad0 ad A H locs ls hE hag hini hex hP hD hS hl)
theorem g_ldc {idx : Nat} {x : Int32} (hd : decode cc pc = .ok (.ldc idx, 2)) (hc : Cond.constant own idx x ∈ ztbl) (k : WG Ly l own cc nL ret R n0 ini EX Qf nc ns (pc + 2) lo (.int x :: st) S) : WG Ly l own cc nL ret R n0 ini EX Qf nc ns pc lo st S := by
  intro p e s m args below meth c D cA ad0 ad A H locs ls hE hag hini hex hP hD hS hl
  exact lv_ldc hE.1 hE.2.1 hE.2.2.2.2.1 (hE.2.2.2.2.2.1 _ hc) hd (k p e s m args below meth c D cA ad0 ad A H locs ls hE hag hini hex hP hD hS hl)
theorem g_ldcw {idx : Nat} {x : Int32} (hd : decode cc pc = .ok (.ldc_w idx, 3)) (hc : Cond.constant own idx x ∈ ztbl) (k : WG Ly l own cc nL ret R n0 ini EX Qf nc ns (pc + 3) lo (.int x :: st) S) : WG Ly l own cc nL ret R n0 ini EX Qf nc ns pc lo st S := by
  intro p e s m args below meth c D cA ad0 ad A H locs ls hE hag hini hex hP hD hS hl
  exact lv_ldcw hE.1 hE.2.1 hE.2.2.2.2.1 (hE.2.2.2.2.2.1 _ hc) hd (k p e s m args below meth c D cA ad0 ad A H locs ls hE hag hini hex hP hD hS hl)
theorem g_ldc2 {idx : Nat} {x : Int64} (hd : decode cc pc = .ok (.ldc2_w idx, 3)) (hc : Cond.constantLong own idx x ∈ ztbl) (k : WG Ly l own cc nL ret R n0 ini EX Qf nc ns (pc + 3) lo (.long x :: st) S) : WG Ly l own cc nL ret R n0 ini EX Qf nc ns pc lo st S := by
  intro p e s m args below meth c D cA ad0 ad A H locs ls hE hag hini hex hP hD hS hl
  exact lv_ldc2 hE.1 hE.2.1 hE.2.2.2.2.1 (hE.2.2.2.2.2.1 _ hc) hd (k p e s m args below meth c D cA ad0 ad A H locs ls hE hag hini hex hP hD hS hl)
theorem g_getI {idx ci i k : Nat}  (hd : decode cc pc = .ok (.getfield idx, 3)) (hf : zFl own idx ci i) (hg : zget Ly k i = some (ci, .inl 0)) (kk : WG Ly l own cc nL ret R n0 ini EX Qf nc ns (pc + 3) lo (.int (S.1 k i) :: st) S) : WG Ly l own cc nL ret R n0 ini EX Qf nc ns pc lo (.ref k :: st) S := by
  intro p e s m args below meth c D cA ad0 ad A H locs ls hE hag hini hex hP hD hS hl
  obtain ⟨C, T, N, h1, h2, h3, h4⟩ := hf
  obtain ⟨ks, g1, g2⟩ := zget_spec hg
  exact va_get hE.1 hE.2.1 hE.2.2.2.2.2.1 h3 hE.2.2.2.2.1 hE.2.2.2.2.2.2.2.1 hP k (zw_at g1) h1 i h2 (hE.2.2.2.2.2.1 _ h4) (fun _ h => h) (zfs_at g2) hd (kk p e s m args below meth c D cA ad0 ad A H locs ls hE hag hini hex hP hD hS hl)
theorem g_getJ {idx ci i k : Nat}  (hd : decode cc pc = .ok (.getfield idx, 3)) (hf : zFl own idx ci i) (hg : zget Ly k i = some (ci, .inl 1)) (kk : WG Ly l own cc nL ret R n0 ini EX Qf nc ns (pc + 3) lo (.long (S.2 k i) :: st) S) : WG Ly l own cc nL ret R n0 ini EX Qf nc ns pc lo (.ref k :: st) S := by
  intro p e s m args below meth c D cA ad0 ad A H locs ls hE hag hini hex hP hD hS hl
  obtain ⟨C, T, N, h1, h2, h3, h4⟩ := hf
  obtain ⟨ks, g1, g2⟩ := zget_spec hg
  exact va_get hE.1 hE.2.1 hE.2.2.2.2.2.1 h3 hE.2.2.2.2.1 hE.2.2.2.2.2.2.2.1 hP k (zw_at g1) h1 i h2 (hE.2.2.2.2.2.1 _ h4) (fun _ h => h) (zfs_at g2) hd (kk p e s m args below meth c D cA ad0 ad A H locs ls hE hag hini hex hP hD hS hl)
theorem g_getR {idx ci i k : Nat} {j : Nat} (hd : decode cc pc = .ok (.getfield idx, 3)) (hf : zFl own idx ci i) (hg : zget Ly k i = some (ci, .inr j)) (kk : WG Ly l own cc nL ret R n0 ini EX Qf nc ns (pc + 3) lo (.ref j :: st) S) : WG Ly l own cc nL ret R n0 ini EX Qf nc ns pc lo (.ref k :: st) S := by
  intro p e s m args below meth c D cA ad0 ad A H locs ls hE hag hini hex hP hD hS hl
  obtain ⟨C, T, N, h1, h2, h3, h4⟩ := hf
  obtain ⟨ks, g1, g2⟩ := zget_spec hg
  exact va_get hE.1 hE.2.1 hE.2.2.2.2.2.1 h3 hE.2.2.2.2.1 hE.2.2.2.2.2.2.2.1 hP k (zw_at g1) h1 i h2 (hE.2.2.2.2.2.1 _ h4) (fun _ h => h) (zfs_at g2) hd (kk p e s m args below meth c D cA ad0 ad A H locs ls hE hag hini hex hP hD hS hl)
theorem g_putI {idx ci i k : Nat} {ty : FieldType} {x : Int32} (hd : decode cc pc = .ok (.putfield idx, 3)) (hf : zFp own idx ci i ty) (hg : zget Ly k i = some (ci, .inl 0)) (hn : narrow ty (.int x) = .int x) (hfit : fits ty (.int x) = true) (hS2 : S2 = zput S k i x) (kk : WG Ly l own cc nL ret R n0 ini EX Qf nc ns (pc + 3) lo st S2) : WG Ly l own cc nL ret R n0 ini EX Qf nc ns pc lo (.int x :: .ref k :: st) S := by
  intro p e s m args below meth c D cA ad0 ad A H locs ls hE hag hini hex hP hD hS hl
  obtain ⟨C, T, N, ty0, h1, h2, h3, h4, h5, h6, h7, h8⟩ := hf
  obtain ⟨ks, g1, g2⟩ := zget_spec hg
  have hk : i < (ks.mapIdx (fun i kd => zfv ad (S.1 k) (S.2 k) i kd)).length := by simpa using (List.getElem?_eq_some_iff.mp g2).1
  subst hS2
  have e1 : (ks.mapIdx (fun i kd => zfv ad (S.1 k) (S.2 k) i kd)).set i (.int x) = ks.mapIdx (fun i' kd => zfv ad ((zput S k i x).1 k) ((zput S k i x).2 k) i' kd) := zfs_set g2 (by simp [zfv, zput, upd]) (fun j hj => ⟨by simp [zput, upd, hj], by simp [zput]⟩)
  have e2 : (zw Ly cA ad S).set k (ad k, .inr (ci, (ks.mapIdx (fun i kd => zfv ad (S.1 k) (S.2 k) i kd)).set i (.int x))) = zw Ly cA ad (zput S k i x) := zw_set g1 (by rw [e1]; rfl) (zput_o S k i x)
  refine va_put (v := .int x) hE.1 hE.2.1 hE.2.2.2.2.2.1 h3 ty0 h5 h6 hE.2.2.2.2.1 hE.2.2.2.2.2.2.2.1 hP hD hS k (zw_at g1) h1 i h2 (hE.2.2.2.2.2.1 _ h4) (fun _ h => h) h7 h8 hn hfit hk hd (fun H1 locs1 hP1 hD1 hS1 => ?_)
  rw [e2] at hP1 hD1
  exact kk p e s m args below meth c D cA ad0 ad A H1 locs1 ls hE hag hini hex hP1 hD1 hS1 hl
theorem g_putJ {idx ci i k : Nat}  {x : Int64} (hd : decode cc pc = .ok (.putfield idx, 3)) (hf : zFp own idx ci i .long) (hg : zget Ly k i = some (ci, .inl 1))  (hS2 : S2 = zputL S k i x) (kk : WG Ly l own cc nL ret R n0 ini EX Qf nc ns (pc + 3) lo st S2) : WG Ly l own cc nL ret R n0 ini EX Qf nc ns pc lo (.long x :: .ref k :: st) S := by
  intro p e s m args below meth c D cA ad0 ad A H locs ls hE hag hini hex hP hD hS hl
  obtain ⟨C, T, N, ty0, h1, h2, h3, h4, h5, h6, h7, h8⟩ := hf
  obtain ⟨ks, g1, g2⟩ := zget_spec hg
  have hk : i < (ks.mapIdx (fun i kd => zfv ad (S.1 k) (S.2 k) i kd)).length := by simpa using (List.getElem?_eq_some_iff.mp g2).1
  subst hS2
  have e1 : (ks.mapIdx (fun i kd => zfv ad (S.1 k) (S.2 k) i kd)).set i (.long x) = ks.mapIdx (fun i' kd => zfv ad ((zputL S k i x).1 k) ((zputL S k i x).2 k) i' kd) := zfs_set g2 (by simp [zfv, zputL, vp_updL]) (fun j hj => ⟨by simp [zputL], by simp [zputL, vp_updL, hj]⟩)
  have e2 : (zw Ly cA ad S).set k (ad k, .inr (ci, (ks.mapIdx (fun i kd => zfv ad (S.1 k) (S.2 k) i kd)).set i (.long x))) = zw Ly cA ad (zputL S k i x) := zw_set g1 (by rw [e1]; rfl) (zputL_o S k i x)
  refine va_put (v := .long x) hE.1 hE.2.1 hE.2.2.2.2.2.1 h3 ty0 h5 h6 hE.2.2.2.2.1 hE.2.2.2.2.2.2.2.1 hP hD hS k (zw_at g1) h1 i h2 (hE.2.2.2.2.2.1 _ h4) (fun _ h => h) h7 h8 rfl rfl hk hd (fun H1 locs1 hP1 hD1 hS1 => ?_)
  rw [e2] at hP1 hD1
  exact kk p e s m args below meth c D cA ad0 ad A H1 locs1 ls hE hag hini hex hP1 hD1 hS1 hl
theorem g_iald {k n : Nat} {i : Int32} (hd : decode cc pc = .ok (.iaload, 1)) (hg : Ly[k]? = some (.inl (0, n))) (hin : ¬ (i < 0 ∨ n ≤ i.toNatClampNeg)) (kk : WG Ly l own cc nL ret R n0 ini EX Qf nc ns (pc + 1) lo (.int (S.1 k i.toNatClampNeg) :: st) S) : WG Ly l own cc nL ret R n0 ini EX Qf nc ns pc lo (.int i :: .ref k :: st) S := by
  intro p e s m args below meth c D cA ad0 ad A H locs ls hE hag hini hex hP hD hS hl
  exact va_iald hE.1 hE.2.1 hE.2.2.2.2.2.2.2.1 hP k 0 (zw_at hg) rfl hin hd (kk p e s m args below meth c D cA ad0 ad A H locs ls hE hag hini hex hP hD hS hl)
theorem g_lald {k n : Nat} {i : Int32} (hd : decode cc pc = .ok (.laload, 1)) (hg : Ly[k]? = some (.inl (1, n))) (hin : ¬ (i < 0 ∨ n ≤ i.toNatClampNeg)) (kk : WG Ly l own cc nL ret R n0 ini EX Qf nc ns (pc + 1) lo (.long (S.2 k i.toNatClampNeg) :: st) S) : WG Ly l own cc nL ret R n0 ini EX Qf nc ns pc lo (.int i :: .ref k :: st) S := by
  intro p e s m args below meth c D cA ad0 ad A H locs ls hE hag hini hex hP hD hS hl
  exact va_lald hE.1 hE.2.1 hE.2.2.2.2.2.2.2.1 hP k 1 (zw_at hg) rfl hin hd (kk p e s m args below meth c D cA ad0 ad A H locs ls hE hag hini hex hP hD hS hl)
theorem g_bald {k n : Nat} {i : Int32} (hd : decode cc pc = .ok (.baload, 1)) (hg : Ly[k]? = some (.inl (2, n))) (hin : ¬ (i < 0 ∨ n ≤ i.toNatClampNeg)) (kk : WG Ly l own cc nL ret R n0 ini EX Qf nc ns (pc + 1) lo (.int (S.1 k i.toNatClampNeg) :: st) S) : WG Ly l own cc nL ret R n0 ini EX Qf nc ns pc lo (.int i :: .ref k :: st) S := by
  intro p e s m args below meth c D cA ad0 ad A H locs ls hE hag hini hex hP hD hS hl
  exact va_bald hE.1 hE.2.1 hE.2.2.2.2.2.2.2.1 hP k 2 (zw_at hg) rfl hin hd (kk p e s m args below meth c D cA ad0 ad A H locs ls hE hag hini hex hP hD hS hl)
theorem g_zald {k n : Nat} {i : Int32} (hd : decode cc pc = .ok (.baload, 1)) (hg : Ly[k]? = some (.inl (3, n))) (hin : ¬ (i < 0 ∨ n ≤ i.toNatClampNeg)) (kk : WG Ly l own cc nL ret R n0 ini EX Qf nc ns (pc + 1) lo (.int (S.1 k i.toNatClampNeg) :: st) S) : WG Ly l own cc nL ret R n0 ini EX Qf nc ns pc lo (.int i :: .ref k :: st) S := by
  intro p e s m args below meth c D cA ad0 ad A H locs ls hE hag hini hex hP hD hS hl
  exact va_zald hE.1 hE.2.1 hE.2.2.2.2.2.2.2.1 hP k 3 (zw_at hg) rfl hin hd (kk p e s m args below meth c D cA ad0 ad A H locs ls hE hag hini hex hP hD hS hl)
theorem g_iast {k n : Nat} {i : Int32} {x : Int32} (hd : decode cc pc = .ok (.iastore, 1)) (hg : Ly[k]? = some (.inl (0, n))) (hin : ¬ (i < 0 ∨ n ≤ i.toNatClampNeg)) (hS2 : S2 = zput S k i.toNatClampNeg x) (kk : WG Ly l own cc nL ret R n0 ini EX Qf nc ns (pc + 1) lo st S2) : WG Ly l own cc nL ret R n0 ini EX Qf nc ns pc lo (.int x :: .int i :: .ref k :: st) S := by
  intro p e s m args below meth c D cA ad0 ad A H locs ls hE hag hini hex hP hD hS hl
  subst hS2
  refine va_iast hE.1 hE.2.1 hE.2.2.2.2.2.2.2.1 hP hD hS k 0 (zw_at hg) rfl hin hd (fun H1 locs1 hP1 hD1 hS1 => ?_)
  have e2 : (zw Ly cA ad S).set k (ad k, .inl (cA 0, n, .inl (upd (S.1 k) i.toNatClampNeg x))) = zw Ly cA ad (zput S k i.toNatClampNeg x) := zw_set hg (by rw [zput_s]; rfl) (zput_o S k _ _)
  rw [e2] at hP1 hD1
  exact kk p e s m args below meth c D cA ad0 ad A H1 locs1 ls hE hag hini hex hP1 hD1 hS1 hl
theorem g_last {k n : Nat} {i : Int32} {x : Int64} (hd : decode cc pc = .ok (.lastore, 1)) (hg : Ly[k]? = some (.inl (1, n))) (hin : ¬ (i < 0 ∨ n ≤ i.toNatClampNeg)) (hS2 : S2 = zputL S k i.toNatClampNeg x) (kk : WG Ly l own cc nL ret R n0 ini EX Qf nc ns (pc + 1) lo st S2) : WG Ly l own cc nL ret R n0 ini EX Qf nc ns pc lo (.long x :: .int i :: .ref k :: st) S := by
  intro p e s m args below meth c D cA ad0 ad A H locs ls hE hag hini hex hP hD hS hl
  subst hS2
  refine va_last hE.1 hE.2.1 hE.2.2.2.2.2.2.2.1 hP hD hS k 1 (zw_at hg) rfl hin hd (fun H1 locs1 hP1 hD1 hS1 => ?_)
  have e2 : (zw Ly cA ad S).set k (ad k, .inl (cA 1, n, .inr (.inl (vp_updL (S.2 k) i.toNatClampNeg x)))) = zw Ly cA ad (zputL S k i.toNatClampNeg x) := zw_set hg (by rw [zputL_s]; rfl) (zputL_o S k _ _)
  rw [e2] at hP1 hD1
  exact kk p e s m args below meth c D cA ad0 ad A H1 locs1 ls hE hag hini hex hP1 hD1 hS1 hl
theorem g_bast {k n : Nat} {i : Int32} {x : Int32} (hd : decode cc pc = .ok (.bastore, 1)) (hg : Ly[k]? = some (.inl (2, n))) (hin : ¬ (i < 0 ∨ n ≤ i.toNatClampNeg)) (hS2 : S2 = zput S k i.toNatClampNeg (vp_nar .byte x)) (kk : WG Ly l own cc nL ret R n0 ini EX Qf nc ns (pc + 1) lo st S2) : WG Ly l own cc nL ret R n0 ini EX Qf nc ns pc lo (.int x :: .int i :: .ref k :: st) S := by
  intro p e s m args below meth c D cA ad0 ad A H locs ls hE hag hini hex hP hD hS hl
  subst hS2
  refine va_bast hE.1 hE.2.1 hE.2.2.2.2.2.2.2.1 hP hD hS k 2 (zw_at hg) rfl hin hd (fun H1 locs1 hP1 hD1 hS1 => ?_)
  have e2 : (zw Ly cA ad S).set k (ad k, .inl (cA 2, n, .inl (upd (S.1 k) i.toNatClampNeg (vp_nar .byte x)))) = zw Ly cA ad (zput S k i.toNatClampNeg (vp_nar .byte x)) := zw_set hg (by rw [zput_s]; rfl) (zput_o S k _ _)
  rw [e2] at hP1 hD1
  exact kk p e s m args below meth c D cA ad0 ad A H1 locs1 ls hE hag hini hex hP1 hD1 hS1 hl
theorem g_zast {k n : Nat} {i : Int32} {x : Int32} (hd : decode cc pc = .ok (.bastore, 1)) (hg : Ly[k]? = some (.inl (3, n))) (hin : ¬ (i < 0 ∨ n ≤ i.toNatClampNeg)) (hS2 : S2 = zput S k i.toNatClampNeg (vp_nar .boolean x)) (kk : WG Ly l own cc nL ret R n0 ini EX Qf nc ns (pc + 1) lo st S2) : WG Ly l own cc nL ret R n0 ini EX Qf nc ns pc lo (.int x :: .int i :: .ref k :: st) S := by
  intro p e s m args below meth c D cA ad0 ad A H locs ls hE hag hini hex hP hD hS hl
  subst hS2
  refine va_zast hE.1 hE.2.1 hE.2.2.2.2.2.2.2.1 hP hD hS k 3 (zw_at hg) rfl hin hd (fun H1 locs1 hP1 hD1 hS1 => ?_)
  have e2 : (zw Ly cA ad S).set k (ad k, .inl (cA 3, n, .inl (upd (S.1 k) i.toNatClampNeg (vp_nar .boolean x)))) = zw Ly cA ad (zput S k i.toNatClampNeg (vp_nar .boolean x)) := zw_set hg (by rw [zput_s]; rfl) (zput_o S k _ _)
  rw [e2] at hP1 hD1
  exact kk p e s m args below meth c D cA ad0 ad A H1 locs1 ls hE hag hini hex hP1 hD1 hS1 hl
theorem g_alen {k t n : Nat} {v : Int32} (hd : decode cc pc = .ok (.arraylength, 1)) (hg : Ly[k]? = some (.inl (t, n))) (ht : t < 4) (hv : Int32.ofNat n = v) (kk : WG Ly l own cc nL ret R n0 ini EX Qf nc ns (pc + 1) lo (.int v :: st) S) : WG Ly l own cc nL ret R n0 ini EX Qf nc ns pc lo (.ref k :: st) S := by
  intro p e s m args below meth c D cA ad0 ad A H locs ls hE hag hini hex hP hD hS hl
  have hty : ∃ ty, (ztys cA)[t]? = some (cA t, ty) := by
    match t, ht with
    | 0, _ => exact ⟨_, rfl⟩
    | 1, _ => exact ⟨_, rfl⟩
    | 2, _ => exact ⟨_, rfl⟩
    | 3, _ => exact ⟨_, rfl⟩
  obtain ⟨ty, hty⟩ := hty
  exact va_alen hE.1 hE.2.1 hE.2.2.2.2.2.2.2.1 hP k t (zw_at hg) hty hv hd (kk p e s m args below meth c D cA ad0 ad A H locs ls hE hag hini hex hP hD hS hl)
end ZR
def zrc (kd mc ms : Nat) : Room := { frames := kd, cells := mc, slots := ms, locals := 40 * kd }
def zQC (n0 : Nat) (Lf : List zC) (Sf : zS) : va_G → (Nat → ClassId) → (Nat → Nat) → (Nat → Prop) → Array Value → State → Outcome → State → Prop := fun D cA ad0 A _ st oc t =>
  (∃ ad' : Nat → Nat, (∀ i, i < n0 ∨ 900 ≤ i → ad' i = ad0 i) ∧ oc = .returned none ∧ va_P D vwCl (zw Lf cA ad' Sf) t.heap ∧ va_K D vwCl (ztys cA) t ∧ va_D A (zw Lf cA ad' Sf)) ∧ va_F A st t
def zMQC (mc ms n0 : Nat) (Lf : List zC) (Sf : zS) : List Frame → Array Value → State → va_G → (Nat → ClassId) → (Nat → Nat) → (Nat → Prop) → State → Prop := fun below args s D cA ad0 A => MQ below (zQC n0 Lf Sf D cA ad0 A) args s mc ms A
def zS0 : zS := (fun _ _ => 0, fun _ _ => 0)
/-- a constructor's contract: out of the blank cell b0 (number 0) it makes the cells Lf with the store Sf -/
def zCt (l : Launch) (y : MethodName) (cc : ByteArray) (nL kd mc ms : Nat) (b0 : zC) (as : List Value) (Lf : List zC) (Sf : zS) : Prop :=
  ∀ (D : va_G) (cA : Nat → ClassId) (ad : Nat → Nat) (sz : Nat), Met l y (Cond.code y cc nL none :: ztbl) (zrc kd mc ms)
    (va_Pc (as.map (zv ad)) (fun U => U.heap.size = sz ∧ zWd [b0] D cA ad zS0 U ∧ zX ad (va_A (zw [b0] cA ad zS0) sz) U U.heap))
    (zQC 1 Lf Sf D cA ad (va_A (zw [b0] cA ad zS0) sz)) mc ms (va_A (zw [b0] cA ad zS0) sz)
theorem zX.congr {ad ad' : Nat → Nat} {A : Nat → Prop} {U : State} {H : Heap} (h : zX ad A U H) (e : ∀ i, 900 ≤ i → ad' i = ad i) : zX ad' A U H := by
  obtain ⟨h1, h2, h3, h4, h5⟩ := h
  have e1 : (fun i => ad' (1000 + i)) = fun i => ad (1000 + i) := funext fun i => e _ (by omega)
  have e2 : (fun i => ad' (1010 + i)) = fun i => ad (1010 + i) := funext fun i => e _ (by omega)
  refine ⟨by rw [e1, e2]; exact h1, h2, by rw [e 1000 (by omega)]; exact h3, by rw [e 1001 (by omega)]; exact h4, by rw [e 1020 (by omega)]; exact h5⟩
def zkr (n : Nat) : Nat ⊕ Nat → Bool
  | .inl _ => true
  | .inr j => j != n
def zcr (n : Nat) : zC → Bool
  | .inl _ => true
  | .inr q => q.2.all (zkr n)
def zvr (n : Nat) : Value → Bool
  | .ref j => j != n
  | _ => true
theorem zv_ne {n : Nat} {ad ad' : Nat → Nat} (e : ∀ i, i ≠ n → ad' i = ad i) {v : Value} (h : zvr n v = true) : zv ad' v = zv ad v := by
  cases v <;> try rfl
  rename_i j
  simp only [zvr, bne_iff_ne, ne_eq] at h
  show Value.ref _ = Value.ref _
  rw [e j h]
theorem zfv_ne {n : Nat} {ad ad' : Nat → Nat} (e : ∀ i, i ≠ n → ad' i = ad i) {f : Nat → Int32} {g : Nat → Int64} {i : Nat} {kd : Nat ⊕ Nat} (h : zkr n kd = true) : zfv ad' f g i kd = zfv ad f g i kd := by
  match kd, h with
  | .inl 0, _ => rfl
  | .inl 1, _ => rfl
  | .inl (_ + 2), _ => rfl
  | .inr j, h =>
    simp only [zkr, bne_iff_ne, ne_eq] at h
    show Value.ref _ = Value.ref _
    rw [e j h]
theorem zce_ne {n : Nat} {cA : Nat → ClassId} {ad ad' : Nat → Nat} (e : ∀ i, i ≠ n → ad' i = ad i) {f : Nat → Int32} {g : Nat → Int64} {c : zC} (h : zcr n c = true) : zce cA ad' f g c = zce cA ad f g c := by
  match c, h with
  | .inl q, _ => rfl
  | .inr q, h =>
    have h1 : q.2.mapIdx (fun i kd => zfv ad' f g i kd) = q.2.mapIdx (fun i kd => zfv ad f g i kd) := by
      refine List.ext_getElem? fun j => ?_
      simp only [List.getElem?_mapIdx]
      cases hj : q.2[j]? with
      | none => rfl
      | some kd => simp only [Option.map_some]; rw [zfv_ne e (List.all_eq_true.mp h kd (List.mem_of_getElem? hj))]
    show Sum.inr (q.1, _) = Sum.inr (q.1, _)
    rw [h1]
theorem zlo_ne {n : Nat} {ad ad' : Nat → Nat} (e : ∀ i, i ≠ n → ad' i = ad i) {lo : List (Nat × Value)} (h : lo.all (fun q => zvr n q.2) = true) : zlo ad' lo = zlo ad lo :=
  List.map_congr_left fun q hq => by rw [zv_ne e (List.all_eq_true.mp h q hq)]
theorem zst_ne {n : Nat} {ad ad' : Nat → Nat} (e : ∀ i, i ≠ n → ad' i = ad i) {st : List Value} (h : st.all (zvr n) = true) : st.map (zv ad') = st.map (zv ad) :=
  List.map_congr_left fun q hq => zv_ne e (List.all_eq_true.mp h q hq)
/-- the store with one cell's numbers set to zero -/
def zclr (S : zS) (k : Nat) : zS := (fun j => if j = k then fun _ => 0 else S.1 j, fun j => if j = k then fun _ => 0 else S.2 j)
theorem zw_push {Ly : List zC} {cA : Nat → ClassId} {ad : Nat → Nat} {S : zS} {q : Nat} {c : zC} (h : Ly.all (zcr Ly.length) = true) (hc : zcr Ly.length c = true) :
    zw (Ly ++ [c]) cA (fun i => if i = Ly.length then q else ad i) (zclr S Ly.length) = zw Ly cA ad S ++ [(q, zce cA ad (fun _ => 0) (fun _ => 0) c)] := by
  have e : ∀ i, i ≠ Ly.length → (fun i => if i = Ly.length then q else ad i) i = ad i := fun i hi => if_neg hi
  refine List.ext_getElem? fun j => ?_
  by_cases hj : j < Ly.length
  · have hne : j ≠ Ly.length := Nat.ne_of_lt hj
    rw [List.getElem?_append_left (by simpa [zw] using hj)]
    simp only [zw, List.getElem?_mapIdx, List.getElem?_append_left hj]
    cases hc : Ly[j]? with
    | none => rfl
    | some c =>
      simp only [Option.map_some]
      rw [zce_ne e (List.all_eq_true.mp h c (List.mem_of_getElem? hc))]
      simp [zclr, hne]
  · rw [List.getElem?_append_right (by simpa [zw] using hj)]
    simp only [zw, List.getElem?_mapIdx, List.length_mapIdx]
    rw [List.getElem?_append_right (by omega)]
    by_cases h0 : j = Ly.length
    · subst h0
      simp only [Nat.sub_self, List.getElem?_cons_zero, Option.map_some]
      rw [zce_ne e hc]
      simp [zclr]
    · have : 1 ≤ j - Ly.length := by omega
      rw [List.getElem?_eq_none (by simpa using this), List.getElem?_eq_none (by simpa using this)]
      rfl
theorem zE.ad {p : Program} {s : State} {m : MethodId} {args : Array Value} {meth : Method} {c : Code} {own : String} {cc : ByteArray} {nL : Nat} {ret : Option FieldType} {D : va_G} {cA : Nat → ClassId} {ad ad' : Nat → Nat} {A : Nat → Prop} (h : zE p s m args meth c own cc nL ret D cA ad A) (e : ∀ i, 900 ≤ i → ad' i = ad i) : zE p s m args meth c own cc nL ret D cA ad' A :=
  ⟨h.1, h.2.1, h.2.2.1, h.2.2.2.1, h.2.2.2.2.1, h.2.2.2.2.2.1, h.2.2.2.2.2.2.1, h.2.2.2.2.2.2.2.1, h.2.2.2.2.2.2.2.2.1, h.2.2.2.2.2.2.2.2.2.congr e⟩
section ZG
variable {Ly : List zC} {l : Launch} {own : String} {cc : ByteArray} {nL : Nat} {ret : Option FieldType} {R : Room} {mc ms n0 nc ns : Nat} {ini : Bool} {EX : State → (Nat → Prop) → (Nat → Nat) → Prop} {Qf : List Frame → Array Value → State → va_G → (Nat → ClassId) → (Nat → Nat) → (Nat → Prop) → State → Prop} {S S2 : zS} {pc : Nat} {lo lo' : List (Nat × Value)} {st st0 : List Value}
theorem g_top {x v : Int32} (hv : v = x) (k : WG Ly l own cc nL ret R n0 ini EX Qf nc ns pc lo (.int v :: st) S) : WG Ly l own cc nL ret R n0 ini EX Qf nc ns pc lo (.int x :: st) S := hv ▸ k
theorem g_end (hd : decode cc pc = .ok (.return_, 1)) (h1 : nc ≤ mc) (h2 : ns ≤ ms) : WG Ly l own cc nL none R n0 ini EX (zMQC mc ms n0 Ly S) nc ns pc lo [] S := by
  intro p e s m args below meth c D cA ad0 ad A H locs ls hE hag hin hex hP hD hS hl
  refine W.widen (k := mc) (n := ms) h1 h2 ?_
  exact W.vret hE.1 hE.2.1 hE.2.2.1 (fun t ht hW => ⟨⟨ad, hag, rfl, by rw [ht]; exact hP, va_K.moved hW.alike hE.2.2.2.2.2.2.2.1, hD⟩, hS.F ht⟩) hS.2.2 hd hE.2.2.2.2.2.2.1
theorem g_obj {idx b : Nat} (hd : decode cc pc = .ok (.invokespecial idx, 3)) (h1 : Cond.methodLink own idx objectInit ∈ ztbl) (h2 : Cond.instanceMethod objectInit ∈ ztbl) (h3 : Cond.code objectInit ⟨#[0xb1]⟩ 1 none ∈ ztbl) (hr : 1 ≤ R.frames) (hr2 : 20 ≤ R.locals) (hw : (st.map fun v => v.category).sum ≤ 8)
    (k : WG Ly l own cc nL ret R n0 ini EX Qf nc ns (pc + 3) lo st S) : WG Ly l own cc nL ret R n0 ini EX Qf nc ns pc lo (.ref b :: st) S := by
  intro p e s m args below meth c D cA ad0 ad A H locs ls hE hag hin hex hP hD hS hl
  have hts := hE.2.2.2.2.2.1
  refine W.objInit hE.1 hE.2.1 hE.2.2.2.2.1 (hts _ h1) (hts _ h2) (hts _ h3) rfl (by rw [hE.2.2.2.1]; exact hl.1) rfl hd hr ?_ ?_
  · have := lv_room (m := m) (pc := pc) (ls := ls) (rest := (.ref b :: st).map (zv ad)) (st := st.map (zv ad)) (by rw [zcats]; exact hw)
    omega
  · exact k p e s m args below meth c D cA ad0 ad A H locs ls hE hag hin hex hP hD hS hl
theorem g_newa {aty : ArrayType} {t N : Nat} {v : Int32} {ty : FieldType} {k : Nat} (hd : decode cc pc = .ok (.newarray aty, 2)) (ht : newarray.typeOf aty = ty) (hty : ∀ cA : Nat → ClassId, (ztys cA)[t]? = some (cA t, ty)) (hp : ∀ (U : State) (x : ClassId), va_RA U x ty → U.vm.findClass ("[" ++ ty.toString) = some x) (hz : ∀ (cA : Nat → ClassId) (ad : Nat → Nat), ∃ a0 : vp_A, zce cA ad (fun _ => 0) (fun _ => 0) (.inl (t, N)) = .inl (cA t, a0) ∧ ∀ x : ClassId, vp_cell x a0 = arrV x N (fun _ => defaultValue ty)) (ha : Cond.arrayClass ty ∈ ztbl) (hn : ¬ v < 0) (hN : v.toNatClampNeg = N) (hb : N * componentBytes ty ≤ 536870912) (hc1 : nc + 1 ≤ R.cells) (hc2 : ns + N ≤ R.slots)
    (hk : k = Ly.length) (f1 : Ly.all (zcr Ly.length) = true) (f2 : lo.all (fun q => zvr Ly.length q.2) = true) (f3 : st.all (zvr Ly.length) = true) (f4 : n0 ≤ Ly.length) (f5 : Ly.length < 900) (hS2 : S2 = zclr S Ly.length)
    (kk : WG (Ly ++ [.inl (t, N)]) l own cc nL ret R n0 ini EX Qf (nc + 1) (ns + N) (pc + 2) lo (.ref k :: st) S2) : WG Ly l own cc nL ret R n0 ini EX Qf nc ns pc lo (.int v :: st) S := by
  intro p e s m args below meth c D cA ad0 ad A H locs ls hE hag hin hex hP hD hS hl
  have hts := hE.2.2.2.2.2.1
  have hK := hE.2.2.2.2.2.2.2.1
  obtain ⟨a0, z1, z2⟩ := hz cA ad
  subst hS2
  subst hk
  refine va_newa hE.1 hE.2.1 (by rw [ht]; exact hts _ ha) ht hK hP hD hS hE.2.2.2.2.2.2.2.2.1 z2 hn hN hb hc1 hc2 hd (fun q x H1 hK1 hP1 hD1 hS1 => ?_)
  have hx : x = cA t := by
    have r1 := hp s x ((hK1.2 (ztys cA).length (x, ty) (by simp)).2)
    have r2 := hp s (cA t) ((hK.2 t (cA t, ty) (hty cA)).2)
    rw [r1] at r2
    exact Option.some.inj r2
  subst hx
  have e1 : ∀ i, i ≠ Ly.length → (fun i => if i = Ly.length then q else ad i) i = ad i := fun i hi => if_neg hi
  have e9 : ∀ i, 900 ≤ i → (fun i => if i = Ly.length then q else ad i) i = ad i := fun i hi => if_neg (by omega)
  have ew := zw_push (cA := cA) (ad := ad) (S := S) (q := q) (c := .inl (t, N)) f1 rfl
  rw [z1] at ew
  have k2 := kk p e s m args below meth c D cA ad0 (fun i => if i = Ly.length then q else ad i) A H1 locs ls (hE.ad e9) (fun i hi => (e1 i (by omega)).trans (hag i hi)) hin hex (by rw [ew]; exact hP1) (by rw [ew]; exact hD1) hS1 (by rw [zlo_ne e1 f2]; exact hl)
  rw [List.map_cons, zst_ne e1 f3] at k2
  have e3 : zv (fun i => if i = Ly.length then q else ad i) (.ref Ly.length) = .ref q := by simp [zv]
  rw [e3] at k2
  exact k2
theorem g_new {idx ci N k : Nat} {C : String} {T : u_T} {ks : List (Nat ⊕ Nat)} (ty : Nat → FieldType) (hd : decode cc pc = .ok (.new idx, 3)) (hC : vwCl[ci]? = some (C, T, N)) (h1 : ∀ w ∈ u_ws C T N, w ∈ ztbl) (hty : ∀ k, k < N → parseFieldDescriptor (T k).2.2.1 = some (ty k)) (h2 : Cond.classLink own idx C ∈ ztbl) (h3 : Cond.instantiable C N ∈ ztbl) (h4 : Cond.initialized C ∈ ztbl)
    (hfs : ∀ j, j < N → defaultValue (ty j) = vp_V (ks.mapIdx (fun i kd => zfv (fun _ => 0) (fun _ => 0) (fun _ => 0) i kd)) j) (hks : ks.all (fun kd => match kd with | .inl _ => true | .inr _ => false) = true) (hc1 : nc + 1 ≤ R.cells) (hc2 : ns + N ≤ R.slots)
    (hk : k = Ly.length) (f1 : Ly.all (zcr Ly.length) = true) (f2 : lo.all (fun q => zvr Ly.length q.2) = true) (f3 : st.all (zvr Ly.length) = true) (f4 : n0 ≤ Ly.length) (f5 : Ly.length < 900) (hS2 : S2 = zclr S Ly.length)
    (kk : WG (Ly ++ [.inr (ci, ks)]) l own cc nL ret R n0 ini EX Qf (nc + 1) (ns + N) (pc + 3) lo (.ref k :: st) S2) : WG Ly l own cc nL ret R n0 ini EX Qf nc ns pc lo st S := by
  intro p e s m args below meth c D cA ad0 ad A H locs ls hE hag hin hex hP hD hS hl
  have hts := hE.2.2.2.2.2.1
  have hK := hE.2.2.2.2.2.2.2.1
  subst hS2
  subst hk
  have hfa : ∀ ad1 : Nat → Nat, ks.mapIdx (fun i kd => zfv ad1 (fun _ => 0) (fun _ => 0) i kd) = ks.mapIdx (fun i kd => zfv (fun _ => 0) (fun _ => 0) (fun _ => 0) i kd) := by
    intro ad1
    refine List.ext_getElem? fun j => ?_
    simp only [List.getElem?_mapIdx]
    cases hj : ks[j]? with
    | none => rfl
    | some kd =>
      have := List.all_eq_true.mp hks kd (List.mem_of_getElem? hj)
      match kd, this with
      | .inl 0, _ => rfl
      | .inl 1, _ => rfl
      | .inl (_ + 2), _ => rfl
  have hcr : zcr Ly.length (.inr (ci, ks)) = true := by
    show ks.all (zkr Ly.length) = true
    refine List.all_eq_true.mpr fun kd hkd => ?_
    have := List.all_eq_true.mp hks kd hkd
    match kd, this with
    | .inl _, _ => rfl
  refine va_new (ci := ci) (fs := ks.mapIdx (fun i kd => zfv ad (fun _ => 0) (fun _ => 0) i kd)) hE.1 hE.2.1 hts h1 ty hty hE.2.2.2.2.1 (hts _ h2) (hts _ h3) (hts _ h4) hK hP hD hS hE.2.2.2.2.2.2.2.2.1 hC (by rw [hfa ad]; exact hfs) hc1 hc2 hd (fun q H1 hP1 hD1 hS1 => ?_)
  have e1 : ∀ i, i ≠ Ly.length → (fun i => if i = Ly.length then q else ad i) i = ad i := fun i hi => if_neg hi
  have e9 : ∀ i, 900 ≤ i → (fun i => if i = Ly.length then q else ad i) i = ad i := fun i hi => if_neg (by omega)
  have ew := zw_push (cA := cA) (ad := ad) (S := S) (q := q) (c := .inr (ci, ks)) f1 hcr
  have k2 := kk p e s m args below meth c D cA ad0 (fun i => if i = Ly.length then q else ad i) A H1 locs ls (hE.ad e9) (fun i hi => (e1 i (by omega)).trans (hag i hi)) hin hex (by rw [ew]; exact hP1) (by rw [ew]; exact hD1) hS1 (by rw [zlo_ne e1 f2]; exact hl)
  rw [List.map_cons, zst_ne e1 f3] at k2
  have e3 : zv (fun i => if i = Ly.length then q else ad i) (.ref Ly.length) = .ref q := by simp [zv]
  rw [e3] at k2
  exact k2
/-- a field that holds a cell is written: the layout changes -/
theorem zw_setR {Ly : List zC} {cA : Nat → ClassId} {ad : Nat → Nat} {S : zS} {k ci i j : Nat} {ks : List (Nat ⊕ Nat)} (h : Ly[k]? = some (.inr (ci, ks))) (hi : i < ks.length) :
    (zw Ly cA ad S).set k (ad k, .inr (ci, (ks.mapIdx (fun i kd => zfv ad (S.1 k) (S.2 k) i kd)).set i (.ref (ad j)))) = zw (Ly.set k (.inr (ci, ks.set i (.inr j)))) cA ad S := by
  have hl := (List.getElem?_eq_some_iff.mp h).1
  refine List.ext_getElem? fun q => ?_
  by_cases hq : q = k
  · subst hq
    rw [List.getElem?_set_self (by simpa [zw] using hl)]
    simp only [zw, List.getElem?_mapIdx, List.getElem?_set_self hl, Option.map_some]
    congr 2
    show Sum.inr (ci, _) = Sum.inr (ci, _)
    congr 2
    refine List.ext_getElem? fun x => ?_
    by_cases hx : x = i
    · subst hx
      rw [List.getElem?_set_self (by simpa using hi)]
      simp only [List.getElem?_mapIdx, List.getElem?_set_self hi, Option.map_some]
      rfl
    · rw [List.getElem?_set_ne (Ne.symm hx)]
      simp only [List.getElem?_mapIdx, List.getElem?_set_ne (Ne.symm hx)]
  · rw [List.getElem?_set_ne (Ne.symm hq)]
    simp only [zw, List.getElem?_mapIdx, List.getElem?_set_ne (Ne.symm hq)]
def zFr (own : String) (idx ci i : Nat) (ty : FieldType) (fin : Bool) : Prop := ∃ (C : String) (T : u_T) (N : Nat) (ty0 : Nat → FieldType), vwCl[ci]? = some (C, T, N) ∧ i < N ∧ (∀ w ∈ u_ws C T N, w ∈ ztbl) ∧ Cond.fieldLink own idx (T i).1 (T i).2.1 (T i).2.2.1 ∈ ztbl ∧ (∀ k, k < N → parseFieldDescriptor (T k).2.2.1 = some (ty0 k)) ∧ (∀ a, a < N → ∀ b, b < N → a ≠ b → (T a).2.1 ≠ (T b).2.1) ∧ (T i).2.2.2 = fin ∧ (T i).1 = own ∧ parseFieldDescriptor (T i).2.2.1 = some ty
theorem g_putR {idx ci i k j : Nat} {ks : List (Nat ⊕ Nat)} {ty : FieldType} {fin : Bool} (hd : decode cc pc = .ok (.putfield idx, 3)) (hf : zFr own idx ci i ty fin) (hfi : fin = true → ini = true) (hg : Ly[k]? = some (.inr (ci, ks))) (hi : i < ks.length) (hn : ∀ a, narrow ty (.ref a) = .ref a) (hfit : ∀ a, fits ty (.ref a) = true)
    (kk : WG (Ly.set k (.inr (ci, ks.set i (.inr j)))) l own cc nL ret R n0 ini EX Qf nc ns (pc + 3) lo st S) : WG Ly l own cc nL ret R n0 ini EX Qf nc ns pc lo (.ref j :: .ref k :: st) S := by
  intro p e s m args below meth c D cA ad0 ad A H locs ls hE hag hin hex hP hD hS hl
  obtain ⟨C, T, N, ty0, h1, h2, h3, h4, h5, h6, h7, h8, h9⟩ := hf
  have hts := hE.2.2.2.2.2.1
  have hK := hE.2.2.2.2.2.2.2.1
  have hk : i < (ks.mapIdx (fun i kd => zfv ad (S.1 k) (S.2 k) i kd)).length := by simpa using hi
  have e2 := zw_setR (cA := cA) (ad := ad) (S := S) (j := j) hg hi
  cases fin with
  | false =>
    refine va_put (v := .ref (ad j)) hE.1 hE.2.1 hts h3 ty0 h5 h6 hE.2.2.2.2.1 hK hP hD hS k (zw_at hg) h1 i h2 (hts _ h4) (fun _ h => h) h7 h9 (hn _) (hfit _) hk hd (fun H1 locs1 hP1 hD1 hS1 => ?_)
    rw [e2] at hP1 hD1
    exact kk p e s m args below meth c D cA ad0 ad A H1 locs1 ls hE hag hin hex hP1 hD1 hS1 hl
  | true =>
    refine va_putF (v := .ref (ad j)) hE.1 hE.2.1 hts h3 ty0 h5 h6 hE.2.2.2.2.1 hK hP hD hS k (zw_at hg) h1 i h2 (hts _ h4) (fun _ h => h) h7 (hin (hfi rfl)) h8 h9 (hn _) (hfit _) hk hd (fun H1 locs1 hP1 hD1 hS1 => ?_)
    rw [e2] at hP1 hD1
    exact kk p e s m args below meth c D cA ad0 ad A H1 locs1 ls hE hag hin hex hP1 hD1 hS1 hl
end ZG
