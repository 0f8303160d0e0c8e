/-! ===== the small machine: cells by number over a fixed layout; the store gives the numbers in them ===== -/
/-- the numbers that the cells hold: by cell and place; the longs beside the ints -/
abbrev zS : Type := (Nat → Nat → Int32) × (Nat → Nat → Int64)
/-- a cell's layout: an array (0 int, 1 long, 2 byte, 3 boolean; its length), or an object (its class; its fields: 0 an int, 1 a long, 2 null, or a fixed cell) -/
abbrev zC : Type := (Nat × Nat) ⊕ (Nat × List (Nat ⊕ Nat))
def zv (ad : Nat → Nat) : Value → Value
  | .ref k => .ref (ad k)
  | v => v
def zfv (ad : Nat → Nat) (f : Nat → Int32) (g : Nat → Int64) (i : Nat) : Nat ⊕ Nat → Value
  | .inl 0 => .int (f i)
  | .inl 1 => .long (g i)
  | .inl (_ + 2) => .null
  | .inr j => .ref (ad j)
def zce (cA : Nat → ClassId) (ad : Nat → Nat) (f : Nat → Int32) (g : Nat → Int64) : zC → va_E
  | .inl q => .inl (cA q.1, q.2, if q.1 = 1 then .inr (.inl g) else .inl f)
  | .inr q => .inr (q.1, q.2.mapIdx (fun i kd => zfv ad f g i kd))
def zw (Ly : List zC) (cA : Nat → ClassId) (ad : Nat → Nat) (S : zS) : va_W := Ly.mapIdx (fun k c => (ad k, zce cA ad (S.1 k) (S.2 k) c))
def ztys (cA : Nat → ClassId) : List (ClassId × FieldType) := [(cA 0, .int), (cA 1, .long), (cA 2, .byte), (cA 3, .boolean)]
def ztbl : List Cond := lw_tbl.filter goodWord
def zrm (kd : Nat) : Room := { frames := kd, cells := 0, slots := 0, locals := 40 * kd }
def zlo (ad : Nat → Nat) (lo : List (Nat × Value)) : List (Nat × Value) := lo.map (fun q => (q.1, zv ad q.2))
def zput (S : zS) (k i : Nat) (x : Int32) : zS := (fun k' => if k' = k then upd (S.1 k) i x else S.1 k', S.2)
def zputL (S : zS) (k i : Nat) (x : Int64) : zS := (S.1, fun k' => if k' = k then vp_updL (S.2 k) i x else S.2 k')
def zcpy (S : zS) (k k1 sp dp n : Nat) : zS := (fun k' => if k' = k1 then va_cpy (S.1 k) (S.1 k1) sp dp n else S.1 k', S.2)
/-- what is known of the cells that nobody writes: two String constants, and that Strings are compact -/
def zst0 : String := ";()<>=+-*/%"
def zst1 : String := "stakes plant topic bill party wants grow frost draw life hardy of at says amends repeals by or and not age stake near year "
def zsl : List Nat := [11, 123]
def zsb : List (List Int32) := [[59, 40, 41, 60, 62, 61, 43, 45, 42, 47, 37], [115, 116, 97, 107, 101, 115, 32, 112, 108, 97, 110, 116, 32, 116, 111, 112, 105, 99, 32, 98, 105, 108, 108, 32, 112, 97, 114, 116, 121, 32, 119, 97, 110, 116, 115, 32, 103, 114, 111, 119, 32, 102, 114, 111, 115, 116, 32, 100, 114, 97, 119, 32, 108, 105, 102, 101, 32, 104, 97, 114, 100, 121, 32, 111, 102, 32, 97, 116, 32, 115, 97, 121, 115, 32, 97, 109, 101, 110, 100, 115, 32, 114, 101, 112, 101, 97, 108, 115, 32, 98, 121, 32, 111, 114, 32, 97, 110, 100, 32, 110, 111, 116, 32, 97, 103, 101, 32, 115, 116, 97, 107, 101, 32, 110, 101, 97, 114, 32, 121, 101, 97, 114, 32]]
def zX (ad : Nat → Nat) (A : Nat → Prop) (U : State) (H : Heap) : Prop :=
  vk_S 2 zsl zsb (fun i => ad (1000 + i)) (fun i => ad (1010 + i)) A U H ∧ va_Z "java/lang/String" "COMPACT_STRINGS" "Z" (.int 1) A U H ∧ vk_R "HedgeRecord$Reader" 243 zst0 (ad 1000) U ∧ vk_R "HedgeRecord$Reader" 28 zst1 (ad 1001) U ∧
  (va_Z "jdk/internal/util/Preconditions" "SIOOBE_FORMATTER" "Ljava/util/function/BiFunction;" .null A U H ∨ va_Z "jdk/internal/util/Preconditions" "SIOOBE_FORMATTER" "Ljava/util/function/BiFunction;" (.ref (ad 1020)) A U H)
def zWd (Ly : List zC) (D : va_G) (cA : Nat → ClassId) (ad : Nat → Nat) (S : zS) (U : State) : Prop := va_P D vwCl (zw Ly cA ad S) U.heap ∧ va_K D vwCl (ztys cA) U ∧ va_D (fun _ => True) (zw Ly cA ad S)
def zQ (Ly : List zC) (D : va_G) (cA : Nat → ClassId) (ad : Nat → Nat) (r : Option Value) (S1 : zS) (A : Nat → Prop) : Array Value → State → Outcome → State → Prop := fun _ st oc t =>
  (oc = .returned (r.map (zv ad)) ∧ va_P D vwCl (zw Ly cA ad S1) t.heap ∧ va_K D vwCl (ztys cA) t) ∧ va_F A st t
/-- a method's contract: with these arguments and this store it answers r and leaves the store S1 -/
def zMet (Ly : List zC) (l : Launch) (y : MethodName) (cc : ByteArray) (nL : Nat) (ret : Option FieldType) (kd : Nat) (as : List Value) (S : zS) (r : Option Value) (S1 : zS) : Prop :=
  ∀ (D : va_G) (cA : Nat → ClassId) (ad : Nat → Nat) (sz : Nat), Met l y (Cond.code y cc nL ret :: ztbl) (zrm kd)
    (va_Pc (as.map (zv ad)) (fun U => U.heap.size = sz ∧ zWd Ly D cA ad S U ∧ zX ad (va_A (zw Ly cA ad S) sz) U U.heap))
    (zQ Ly D cA ad r S1 (va_A (zw Ly cA ad S) sz)) 0 0 (va_A (zw Ly cA ad S) sz)
/-- what a method's walk stands on -/
def zE (p : Program) (s : State) (m : MethodId) (args : Array Value) (meth : Method) (c : Code) (own : String) (cc : ByteArray) (nL : Nat) (ret : Option FieldType) (D : va_G) (cA : Nat → ClassId) (ad : Nat → Nat) (A : Nat → Prop) : Prop :=
  p.tables.exec = Jvm.exec ∧ c.code = cc ∧ meth.sig.returnType = ret ∧ c.maxLocals = nL ∧ s.vm.findClass own = some m.cls ∧ (∀ w ∈ ztbl, w.before args s = true) ∧ meth.locks = false ∧ va_K D vwCl (ztys cA) s ∧ (∀ q, s.heap.size ≤ q → A q) ∧ zX ad A s s.heap
/-- from here the method ends, answers r, and leaves the store S1 -/
def WA (Ly : List zC) (l : Launch) (own : String) (cc : ByteArray) (nL : Nat) (ret : Option FieldType) (kd : Nat) (r : Option Value) (S1 : zS) (pc : Nat) (lo : List (Nat × Value)) (st : List Value) (S : zS) : Prop :=
  ∀ (p : Program) (e : Env) (s : State) (m : MethodId) (args : Array Value) (below : List Frame) (meth : Method) (c : Code) (D : va_G) (cA : Nat → ClassId) (ad : Nat → Nat) (A : Nat → Prop) (H : Heap) (locs : List Loc) (ls : Array Slot),
    zE p s m args meth c own cc nL ret D cA ad A → va_P D vwCl (zw Ly cA ad S) H → va_D A (zw Ly cA ad S) → va_S A s.heap H locs → lv_has ls nL (zlo ad lo) →
    W p l e (zrm kd) s m args below meth c H locs 0 0 (MQ below (zQ Ly D cA ad r S1 A) args s 0 0 A) (F0 m pc ls (st.map (zv ad)))
theorem zv_cat (ad : Nat → Nat) (v : Value) : (zv ad v).category = v.category := by cases v <;> rfl
theorem zw_at {Ly : List zC} {cA : Nat → ClassId} {ad : Nat → Nat} {S : zS} {k : Nat} {c : zC} (h : Ly[k]? = some c) : (zw Ly cA ad S)[k]? = some (ad k, zce cA ad (S.1 k) (S.2 k) c) := by
  simp [zw, h]
theorem zw_get {Ly : List zC} {cA : Nat → ClassId} {ad : Nat → Nat} {S : zS} {k : Nat} {q : Nat × va_E} (h : (zw Ly cA ad S)[k]? = some q) : ∃ c, Ly[k]? = some c ∧ q = (ad k, zce cA ad (S.1 k) (S.2 k) c) := by
  simp only [zw, List.getElem?_mapIdx] at h
  cases hc : Ly[k]? with
  | none => rw [hc] at h; cases h
  | some c => rw [hc] at h; exact ⟨c, rfl, (Option.some.inj h).symm⟩
theorem zw_D {Ly : List zC} {cA : Nat → ClassId} {ad : Nat → Nat} {S S1 : zS} {A : Nat → Prop} (h : va_D A (zw Ly cA ad S)) : va_D A (zw Ly cA ad S1) := by
  refine ⟨fun i j p q hi hj e => ?_, fun k q hk => ?_⟩
  · obtain ⟨ci, h1, rfl⟩ := zw_get hi
    obtain ⟨cj, h2, rfl⟩ := zw_get hj
    exact h.1 i j _ _ (zw_at h1) (zw_at h2) e
  · obtain ⟨c, h1, rfl⟩ := zw_get hk
    exact (h.2 k (ad k, zce cA ad (S.1 k) (S.2 k) c) (zw_at h1) : A (ad k))
theorem zw_A {Ly : List zC} {cA : Nat → ClassId} {ad : Nat → Nat} {S S1 : zS} {sz q : Nat} (h : va_A (zw Ly cA ad S) sz q) : va_A (zw Ly cA ad S1) sz q := by
  rcases h with ⟨k, e, h⟩ | h
  · obtain ⟨c, h1, h2⟩ := zw_get h
    cases h2
    exact Or.inl ⟨k, _, zw_at h1⟩
  · exact Or.inr h
/-- a world with one cell changed is the world of the changed store -/
theorem zw_set {Ly : List zC} {cA : Nat → ClassId} {ad : Nat → Nat} {S S1 : zS} {k : Nat} {c : zC} {e : va_E} (h : Ly[k]? = some c) (he : zce cA ad (S1.1 k) (S1.2 k) c = e) (ho : ∀ j, j ≠ k → S1.1 j = S.1 j ∧ S1.2 j = S.2 j) : (zw Ly cA ad S).set k (ad k, e) = zw Ly cA ad S1 := by
  have hl := (List.getElem?_eq_some_iff.mp h).1
  refine List.ext_getElem? fun j => ?_
  by_cases hj : j = k
  · subst hj
    rw [List.getElem?_set_self (by simpa [zw] using hl), zw_at h, he]
  · rw [List.getElem?_set_ne (Ne.symm hj)]
    simp only [zw, List.getElem?_mapIdx]
    rw [(ho j hj).1, (ho j hj).2]
theorem zput_o (S : zS) (k i : Nat) (x : Int32) : ∀ j, j ≠ k → (zput S k i x).1 j = S.1 j ∧ (zput S k i x).2 j = S.2 j := fun j h => ⟨by simp [zput, h], rfl⟩
theorem zputL_o (S : zS) (k i : Nat) (x : Int64) : ∀ j, j ≠ k → (zputL S k i x).1 j = S.1 j ∧ (zputL S k i x).2 j = S.2 j := fun j h => ⟨rfl, by simp [zputL, h]⟩
theorem zcpy_o (S : zS) (k k1 sp dp n : Nat) : ∀ j, j ≠ k1 → (zcpy S k k1 sp dp n).1 j = S.1 j ∧ (zcpy S k k1 sp dp n).2 j = S.2 j := fun j h => ⟨by simp [zcpy, h], rfl⟩
theorem zput_s (S : zS) (k i : Nat) (x : Int32) : (zput S k i x).1 k = upd (S.1 k) i x := by simp [zput]
theorem zputL_s (S : zS) (k i : Nat) (x : Int64) : (zputL S k i x).2 k = vp_updL (S.2 k) i x := by simp [zputL]
theorem zcpy_s (S : zS) (k k1 sp dp n : Nat) : (zcpy S k k1 sp dp n).1 k1 = va_cpy (S.1 k) (S.1 k1) sp dp n := by simp [zcpy]
theorem zfs_at {ad : Nat → Nat} {f : Nat → Int32} {g : Nat → Int64} {ks : List (Nat ⊕ Nat)} {i : Nat} {kd : Nat ⊕ Nat} (h : ks[i]? = some kd) : (ks.mapIdx (fun i kd => zfv ad f g i kd))[i]? = some (zfv ad f g i kd) := by simp [h]
theorem zfs_set {ad : Nat → Nat} {f f1 : Nat → Int32} {g g1 : Nat → Int64} {ks : List (Nat ⊕ Nat)} {i : Nat} {kd : Nat ⊕ Nat} {v : Value} (h : ks[i]? = some kd) (hv : zfv ad f1 g1 i kd = v) (ho : ∀ j, j ≠ i → f1 j = f j ∧ g1 j = g j) : (ks.mapIdx (fun i kd => zfv ad f g i kd)).set i v = ks.mapIdx (fun i kd => zfv ad f1 g1 i kd) := by
  have hl := (List.getElem?_eq_some_iff.mp h).1
  refine List.ext_getElem? fun j => ?_
  by_cases hj : j = i
  · subst hj
    rw [List.getElem?_set_self (by simpa using hl), zfs_at h, hv]
  · rw [List.getElem?_set_ne (Ne.symm hj)]
    simp only [List.getElem?_mapIdx]
    cases ks[j]? with
    | none => rfl
    | some kd =>
      obtain ⟨e1, e2⟩ := ho j hj
      rcases kd with n | n
      · match n with
        | 0 => simp [zfv, e1]
        | 1 => simp [zfv, e2]
        | n + 2 => rfl
      · rfl
theorem zlo_args (ad : Nat → Nat) (as : List Value) : ∀ i, lv_args i (as.map (zv ad)) = zlo ad (lv_args i as) := by
  induction as with
  | nil => intro i; rfl
  | cons v as ih =>
    intro i
    show (i, zv ad v) :: lv_args (if (zv ad v).category = 2 then i + 2 else i + 1) (as.map (zv ad)) = (i, zv ad v) :: zlo ad (lv_args (if v.category = 2 then i + 2 else i + 1) as)
    rw [zv_cat, ih]
theorem zlo_sl (ad : Nat → Nat) (as : List Value) : (lg_sl (as.map (zv ad))).length = (lg_sl as).length := by
  induction as with
  | nil => rfl
  | cons v as ih =>
    simp only [lg_sl, List.map_cons, List.flatMap_cons, List.length_append] at ih ⊢
    rw [zv_cat, ih]
    by_cases h : v.category = 2 <;> simp [h]
theorem zlo_set {ad : Nat → Nat} {lo lo' : List (Nat × Value)} {i : Nat} {v : Value} (h : (i, v) :: lo.filter (fun q => !(q.1 == i) && !(q.1 + 1 == i && q.2.category == 2)) = lo') : (i, zv ad v) :: (zlo ad lo).filter (fun q => !(q.1 == i) && !(q.1 + 1 == i && q.2.category == 2)) = zlo ad lo' := by
  subst h
  simp only [zlo, List.map_cons, List.cons.injEq, true_and, List.filter_map]
  congr 1
  refine List.filter_congr fun q _ => ?_
  simp [zv_cat]
theorem zlo_at {ls : Array Slot} {nL : Nat} {ad : Nat → Nat} {lo : List (Nat × Value)} (h : lv_has ls nL (zlo ad lo)) {k i : Nat} {v : Value} (hk : lo[k]? = some (i, v)) : ls[i]? = some (.val (zv ad v)) := lv_at h k (by simp [zlo, hk])
theorem zX.call {ad : Nat → Nat} {A B : Nat → Prop} {s U : State} {H : Heap} {locs : List Loc} (h : zX ad A s s.heap) (hS : va_S A s.heap H locs) (hW : s.WarmedH U.vm) (hB : ∀ q, B q → A q) : zX ad B U H :=
  ⟨((h.1.kept hS.2.1).moved hW.alike).narrow hB, ((h.2.1.kept hS.2.1).moved hW.alike).narrow hB, h.2.2.1.warm hW, h.2.2.2.1.warm hW, h.2.2.2.2.imp (fun q => ((q.kept hS.2.1).moved hW.alike).narrow hB) (fun q => ((q.kept hS.2.1).moved hW.alike).narrow hB)⟩
theorem zX.blind {ad : Nat → Nat} {A : Nat → Prop} {u U : State} {H : Heap} (hv : U.vm = u.vm) (h : zX ad A u H) : zX ad A U H :=
  ⟨h.1.moved (hv ▸ Vm.Alike.refl _), h.2.1.moved (hv ▸ Vm.Alike.refl _), h.2.2.1.same hv, h.2.2.2.1.same hv, h.2.2.2.2.imp (fun q => q.moved (hv ▸ Vm.Alike.refl _)) (fun q => q.moved (hv ▸ Vm.Alike.refl _))⟩
theorem zgood {ws : List Cond} (h : ∀ w ∈ ws, w ∈ ztbl) : GoodIn ztbl ws := fun w hw => ⟨h w hw, good_of_word (List.mem_filter.mp (h w hw)).2⟩
theorem ztbl_of {w : Cond} (h : w ∈ lw_tbl) (g : goodWord w = true) : w ∈ ztbl := List.mem_filter.mpr ⟨h, g⟩
theorem zMet.of {Ly : List zC} {l : Launch} {y : MethodName} {cc : ByteArray} {nL : Nat} {ret : Option FieldType} {kd : Nat} {as : List Value} {S S1 : zS} {r : Option Value} (hy : plainName y.cls = true) (hn : (lg_sl as).length ≤ nL) (h : WA Ly l y.cls cc nL ret kd r S1 0 (lv_args 0 as) [] S) : zMet Ly l y cc nL ret kd as S r S1 := by
  intro D cA ad sz
  refine Met.ofW (cc := cc) (maxL := nL) (ret := ret) hy rfl ?_
  intro p e s m args below meth c s₁ B hml hv
  obtain ⟨rfl, hsz, ⟨hP, hK, hD0⟩, hX⟩ := hv
  subst hsz
  have hl := lv_entry (as.map (zv ad)) (n := nL) (by rw [zlo_sl]; exact hn)
  rw [zlo_args] at hl
  rw [lg_entry_eq]
  have hts := atoms_spec (ws := Cond.code y cc nL ret :: ztbl) B.pre
  exact h p e s m _ below meth c D cA ad (va_A (zw Ly cA ad S) s.heap.size) s.heap [] _ ⟨B.exec, B.bytes, B.returns, hml, findClass_of_methodNamed B.named, fun w hw => hts w (List.mem_cons_of_mem _ hw), B.notSynchronized, hK, fun q h => Or.inr h, hX⟩ hP hD0.self va_S.rf hl
