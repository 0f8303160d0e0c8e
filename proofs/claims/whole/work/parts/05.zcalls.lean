/-- switches: by the keys, one behind the other -/
def zlook (x : Int32) (dt : Nat) : List (Int32 × Nat) → Nat
  | [] => dt
  | (k, t) :: r => if x = k then t else zlook x dt r
def zsw (P : Nat → Prop) (dt : Nat) (x : Int32) : List (Int32 × Nat) → Prop
  | [] => P dt
  | (k, t) :: r => (x = k → P t) ∧ (¬ x = k → zsw P dt x r)
theorem zsw_look {P : Nat → Prop} {dt : Nat} {x : Int32} : ∀ {ks : List (Int32 × Nat)}, zsw P dt x ks → P (zlook x dt ks)
  | [], h => h
  | (k, t) :: r, h => by
    unfold zlook
    by_cases hx : x = k
    · rw [if_pos hx]; exact h.1 hx
    · rw [if_neg hx]; exact zsw_look (h.2 hx)
theorem zlook_none {dt : Nat} {x : Int32} : ∀ {ks : List (Int32 × Nat)}, (∀ q ∈ ks, ¬ x = q.1) → zlook x dt ks = dt
  | [], _ => rfl
  | (k, t) :: r, h => by
    unfold zlook
    rw [if_neg (h (k, t) List.mem_cons_self)]
    exact zlook_none fun q hq => h q (List.mem_cons_of_mem _ hq)
section ZC
variable {Ly : List zC} {l : Launch} {own : String} {cc : ByteArray} {nL : Nat} {ret : Option FieldType} {kd : Nat} {r : Option Value} {S1 S S2 : zS} {pc : Nat} {lo lo' : List (Nat × Value)} {st st0 : List Value}
theorem z_tsw {dflt low hi : Int} {offs : Array Int} {len : Nat} {x : Int32} (dt : Nat) (ks : List (Int32 × Nat)) (hd : decode cc pc = .ok (.tableswitch dflt low hi offs, len))
    (h1 : (pc : Int) + dflt = (dt : Int)) (h2 : ks.all (fun q => decide (low ≤ q.1.toInt ∧ q.1.toInt ≤ hi)) = true) (h3 : (List.range (hi - low + 1).toNat).all (fun j => decide (offs[j]?.map (fun o => (pc : Int) + o) = some ((zlook (Int32.ofInt (low + j)) dt ks : Nat) : Int))) = true)
    (kk : zsw (fun t => WA Ly l own cc nL ret kd r S1 t lo st S) dt x ks) : WA Ly l own cc nL ret kd r S1 pc lo (.int x :: st) S := by
  intro p e s m args below meth c D cA ad A H locs ls hE hP hD hS hl
  have hk := zsw_look kk p e s m args below meth c D cA ad A H locs ls hE hP hD hS hl
  by_cases hr : x.toInt < low ∨ hi < x.toInt
  · have e : zlook x dt ks = dt := zlook_none fun q hq => by
      have := List.all_eq_true.mp h2 q hq
      simp only [decide_eq_true_eq] at this
      intro hx
      rw [hx] at hr
      omega
    rw [e] at hk
    exact lv_tableOut hE.1 hE.2.1 hd hr h1 hk
  · have hj : (x.toInt - low).toNat < (hi - low + 1).toNat := by omega
    have h4 := List.all_eq_true.mp h3 _ (List.mem_range.mpr hj)
    simp only [decide_eq_true_eq] at h4
    have e1 : low + ((x.toInt - low).toNat : Int) = x.toInt := by omega
    rw [e1, Int32.ofInt_toInt] at h4
    cases ho : offs[(x.toInt - low).toNat]? with
    | none => rw [ho] at h4; cases h4
    | some o =>
      rw [ho] at h4
      exact lv_tableIn hE.1 hE.2.1 hd (by omega) (by omega) ho (Option.some.inj h4) hk
theorem zlk_off {x : Int32} {dflt : Int} {pc dt : Nat} (h1 : (pc : Int) + dflt = (dt : Int)) : ∀ (ps : List (Int × Int)) (ks : List (Int32 × Nat)), ps.map (fun q => (Int32.ofInt q.1, (pc : Int) + q.2)) = ks.map (fun q => (q.1, (q.2 : Int))) → ps.all (fun q => decide (-2147483648 ≤ q.1 ∧ q.1 < 2147483648)) = true → (pc : Int) + Op.lookupswitch.offset ps dflt x.toInt = ((zlook x dt ks : Nat) : Int)
  | [], [], _, _ => by simpa [Op.lookupswitch.offset, zlook] using h1
  | [], _ :: _, h, _ => by simp at h
  | _ :: _, [], h, _ => by simp at h
  | (a, o) :: ps, (k, t) :: ks, h, hb => by
    simp only [List.map_cons, List.cons.injEq, Prod.mk.injEq] at h
    simp only [List.all_cons, Bool.and_eq_true, decide_eq_true_eq] at hb
    have ih := zlk_off (x := x) h1 ps ks h.2 hb.2
    have hk : k.toInt = a := by rw [← h.1.1]; exact Int32.toInt_ofInt_of_le (by omega) (by omega)
    unfold zlook
    by_cases hx : x = k
    · rw [if_pos hx, hx, hk, ← h.1.2]
      simp [Op.lookupswitch.offset]
    · rw [if_neg hx, ← ih]
      have hne : ¬ a = x.toInt := fun q => hx (Int32.toInt_inj.mp (by rw [hk]; exact q.symm))
      simp [Op.lookupswitch.offset, List.find?_cons, hne]
theorem z_lsw {dflt : Int} {ps : Array (Int × Int)} {len : Nat} {x : Int32} (dt : Nat) (ks : List (Int32 × Nat)) (hd : decode cc pc = .ok (.lookupswitch dflt ps, len))
    (h1 : (pc : Int) + dflt = (dt : Int)) (h2 : ps.toList.map (fun q => (Int32.ofInt q.1, (pc : Int) + q.2)) = ks.map (fun q => (q.1, (q.2 : Int)))) (h3 : ps.toList.all (fun q => decide (-2147483648 ≤ q.1 ∧ q.1 < 2147483648)) = true) (hp : (ps.toList.zip (ps.toList.drop 1)).all (fun (a, next) => a.1 < next.1) = true)
    (kk : zsw (fun t => WA Ly l own cc nL ret kd r S1 t lo st S) dt x ks) : WA Ly l own cc nL ret kd r S1 pc lo (.int x :: st) S := by
  intro p e s m args below meth c D cA ad A H locs ls hE hP hD hS hl
  have hk := zsw_look kk p e s m args below meth c D cA ad A H locs ls hE hP hD hS hl
  exact lv_lookup hE.1 hE.2.1 hd hp rfl (zlk_off h1 _ _ h2 h3) hk
theorem zsw_c {P : Nat → Prop} {dt t : Nat} {x k : Int32} {ks : List (Int32 × Nat)} (h1 : x = k → P t) (h2 : ¬ x = k → zsw P dt x ks) : zsw P dt x ((k, t) :: ks) := ⟨h1, h2⟩
theorem zsw_n {P : Nat → Prop} {dt : Nat} {x : Int32} (h : P dt) : zsw P dt x [] := h
/-- behind a call -/
theorem z_run {p : Program} {e : Env} {R : Room} {s : State} {m : MethodId} {args : Array Value} {below : List Frame} {meth : Method} {c : Code} {H : Heap} {locs : List Loc} {cells slots : Nat} {Q : State → Prop} {ls : Array Slot} {rest st0 : List Value} {a : Array Value} {A0 A1 : Nat → Prop} {H0 : Heap} {free : Addr → Prop} {D : va_G} {cA : Nat → ClassId} {ad : Nat → Nat} {r : Option Value}
    (hr : va_Run p l e R s m args below meth c H locs cells slots 0 0 (F0 m pc ls st0) rest (zQ Ly D cA ad r S2 A1 a) free) (hS : va_S A0 H0 H locs) (hA : ∀ q, q < H.size → A1 q → A0 q) (hf : ∀ q, free q → A0 q)
    (kk : ∀ (H1 : Heap) (locs1 : List Loc), va_P D vwCl (zw Ly cA ad S2) H1 → va_S A0 H0 H1 locs1 → W p l e R s m args below meth c H1 locs1 cells slots Q (F0 m (pc + 3) ls ((r.map (zv ad)).toList ++ rest))) : W p l e R s m args below meth c H locs cells slots Q (F0 m pc ls st0) := by
  intro T hT X
  obtain ⟨v, st₀, t, T', L, h0, X', hL, e1, e2, ⟨⟨hv, hp, hk2⟩, hz, hk⟩, st⟩ := hr T hT X
  cases hv
  rw [h0] at hz hk
  obtain ⟨t2, a1, b1⟩ := kk T'.heap (locs ++ L) (by rw [e1]; exact hp)
    ⟨Nat.le_trans hS.1 (by rw [e1]; exact hz), fun q h1 h2 => by rw [e1, hk q (Nat.lt_of_lt_of_le h1 hS.1) (fun z => h2 (hA q (Nat.lt_of_lt_of_le h1 hS.1) z))]; exact hS.2.1 q h1 h2, fun q hq => by
      rcases List.mem_append.mp hq with h | h
      · exact hS.2.2 q h
      · exact hf _ (hL q h)⟩ T' rfl X'
  exact ⟨t2, st t2 a1, b1⟩
/-- what the tables say of a method that is called on an object -/
def zMv (y : MethodName) (cc : ByteArray) (nL : Nat) (ret : Option FieldType) (n : Nat) : Prop := Cond.instanceMethod y ∈ ztbl ∧ Cond.selects y.cls y y ∈ ztbl ∧ Cond.initialized y.cls ∈ ztbl ∧ Cond.code y cc nL ret ∈ ztbl ∧ (y.cls ≠ "java/lang/invoke/MethodHandle" ∧ y.cls ≠ "java/lang/invoke/VarHandle" ∧ (parseMethodDescriptor y.desc).map (fun d => d.parameters.length) = some n) ∧ nL ≤ 21
def zMs (y : MethodName) (cc : ByteArray) (nL : Nat) (ret : Option FieldType) (n : Nat) : Prop := Cond.static y ∈ ztbl ∧ Cond.initialized y.cls ∈ ztbl ∧ Cond.code y cc nL ret ∈ ztbl ∧ (y.cls ≠ "java/lang/invoke/MethodHandle" ∧ y.cls ≠ "java/lang/invoke/VarHandle" ∧ (parseMethodDescriptor y.desc).map (fun d => d.parameters.length) = some n) ∧ nL ≤ 21
theorem zblind {as : List Value} {D : va_G} {cA : Nat → ClassId} {ad : Nat → Nat} {A : Nat → Prop} {sz : Nat} : FrameBlind (va_Pc as (fun U => U.heap.size = sz ∧ zWd Ly D cA ad S U ∧ zX ad A U U.heap)) := by
  intro a U g mk q
  obtain ⟨q0, q1, ⟨qP, qK, qD⟩, qX⟩ := q
  exact ⟨q0, q1, ⟨qP, va_K.moved (u := U) (U := U.calling g mk a) (Vm.Alike.refl U.vm) qK, qD⟩, zX.blind (u := U) (U := U.calling g mk a) rfl qX⟩
theorem zcats (ad : Nat → Nat) (st : List Value) : ((st.map (zv ad)).map fun v => v.category) = st.map fun v => v.category := by
  rw [List.map_map]
  exact List.map_congr_left fun v _ => zv_cat ad v
theorem z_callV {y : MethodName} {cc' : ByteArray} {nL' n kd' idx b ci N : Nat} {ks : List (Nat ⊕ Nat)} {T : u_T} {ret' : Option FieldType} {r' : Option Value} (as : List Value) (hd : decode cc pc = .ok (.invokevirtual idx, 3)) (hl0 : Cond.methodLink own idx y ∈ ztbl) (hm : zMv y cc' nL' ret' n) (hk : kd' + 1 ≤ kd) (hb : Ly[b]? = some (.inr (ci, ks))) (hC : vwCl[ci]? = some (y.cls, T, N))
    (hc : zMet Ly l y cc' nL' ret' kd' (.ref b :: as) S r' S2) (hn : as.length = n) (hst : st0 = as.reverse ++ .ref b :: st) (hw : (st.map fun v => v.category).sum ≤ 8) (k : WA Ly l own cc nL ret kd r S1 (pc + 3) lo (r'.toList ++ st) S2) : WA Ly l own cc nL ret kd r S1 pc lo st0 S := by
  intro p e s m args below meth c D cA ad A H locs ls hE hP hD hS hl
  obtain ⟨m1, m2, m3, m4, m5, m6⟩ := hm
  have hts := hE.2.2.2.2.2.1
  have hK := hE.2.2.2.2.2.2.2.1
  have hF : ∀ q, va_A (zw Ly cA ad S) H.size q → A q := fun q h => by
    rcases h with ⟨k, e, h⟩ | h
    · exact hD.2 k _ h
    · exact hE.2.2.2.2.2.2.2.2.1 q (Nat.le_trans hS.1 h)
  have hg : GoodIn ztbl (wsV own idx y.cls y (Cond.code y cc' nL' ret' :: ztbl)) := zgood fun w h => by
    simp only [wsV, List.cons_append, List.nil_append, List.mem_cons] at h
    rcases h with rfl | rfl | rfl | rfl | rfl | h
    · exact hl0
    · exact m1
    · exact m2
    · exact m3
    · exact m4
    · exact h
  have hcall := va_runV (l := l) (e := e) (R := zrm kd) (below := below) (meth := meth) (H := H) (locs := locs) (cells := 0) (slots := 0) (g := F0 m pc ls (st0.map (zv ad))) (As := as.map (zv ad)) (rest := st.map (zv ad)) (b := ad b) ⟨hE.1, hE.2.1, hE.2.2.2.1, hE.2.2.2.2.1, hts⟩ (hc D cA ad H.size)
    (cwV n hts hg rfl rfl rfl ⟨rfl, m5⟩ ⟨hk, by show 8 + (nL' + 11) + 40 * kd' ≤ 40 * kd; omega⟩) ⟨zblind, va_recv hK hP hC (zw_at hb), fun U hU hW => ⟨rfl, by rw [hU], ⟨by rw [hU]; exact hP, va_K.moved hW.alike hK, hD.weaken (fun _ _ _ _ => trivial)⟩, by rw [hU]; exact zX.call hE.2.2.2.2.2.2.2.2.2 hS hW hF⟩⟩ rfl (by rw [List.length_map]; exact hn) hl.1 (by rw [hst]; simp [zv]) (lv_room (by rw [zcats]; exact hw)) hd ⟨Nat.le_refl _, Nat.le_refl _⟩
  refine z_run hcall hS (fun q _ h => hF q h) hF (fun H1 locs1 hP1 hS1 => ?_)
  have kk := k p e s m args below meth c D cA ad A H1 locs1 ls hE hP1 (zw_D hD) hS1 hl
  rw [List.map_append] at kk
  cases r' with
  | none => exact kk
  | some v => exact kk
theorem z_callS {y : MethodName} {cc' : ByteArray} {nL' n kd' idx : Nat} {ret' : Option FieldType} {r' : Option Value} (as : List Value) (hd : decode cc pc = .ok (.invokestatic idx, 3)) (hl0 : Cond.methodLink own idx y ∈ ztbl) (hm : zMs y cc' nL' ret' n) (hk : kd' + 1 ≤ kd)
    (hc : zMet Ly l y cc' nL' ret' kd' as S r' S2) (hn : as.length = n) (hst : st0 = as.reverse ++ st) (hw : (st.map fun v => v.category).sum ≤ 8) (k : WA Ly l own cc nL ret kd r S1 (pc + 3) lo (r'.toList ++ st) S2) : WA Ly l own cc nL ret kd r S1 pc lo st0 S := by
  intro p e s m args below meth c D cA ad A H locs ls hE hP hD hS hl
  obtain ⟨m1, m3, m4, m5, m6⟩ := hm
  have hts := hE.2.2.2.2.2.1
  have hK := hE.2.2.2.2.2.2.2.1
  have hF : ∀ q, va_A (zw Ly cA ad S) H.size q → A q := fun q h => by
    rcases h with ⟨k, e, h⟩ | h
    · exact hD.2 k _ h
    · exact hE.2.2.2.2.2.2.2.2.1 q (Nat.le_trans hS.1 h)
  have hg : GoodIn ztbl (va_wsS own idx y (Cond.code y cc' nL' ret' :: ztbl)) := zgood fun w h => by
    simp only [va_wsS, List.cons_append, List.nil_append, List.mem_cons] at h
    rcases h with rfl | rfl | rfl | rfl | h
    · exact hl0
    · exact m1
    · exact m3
    · exact m4
    · exact h
  have hcall := va_runS (l := l) (e := e) (R := zrm kd) (below := below) (meth := meth) (H := H) (locs := locs) (cells := 0) (slots := 0) (g := F0 m pc ls (st0.map (zv ad))) (As := as.map (zv ad)) (rest := st.map (zv ad)) ⟨hE.1, hE.2.1, hE.2.2.2.1, hE.2.2.2.2.1, hts⟩ (hc D cA ad H.size)
    (va_cwS n hts hg rfl rfl rfl m5 ⟨hk, by show 8 + (nL' + 11) + 40 * kd' ≤ 40 * kd; omega⟩) ⟨zblind, fun U hU hW => ⟨rfl, by rw [hU], ⟨by rw [hU]; exact hP, va_K.moved hW.alike hK, hD.weaken (fun _ _ _ _ => trivial)⟩, by rw [hU]; exact zX.call hE.2.2.2.2.2.2.2.2.2 hS hW hF⟩⟩ rfl (by rw [List.length_map]; exact hn) hl.1 (by rw [hst]; simp) (lv_room (by rw [zcats]; exact hw)) hd ⟨Nat.le_refl _, Nat.le_refl _⟩
  refine z_run hcall hS (fun q _ h => hF q h) hF (fun H1 locs1 hP1 hS1 => ?_)
  have kk := k p e s m args below meth c D cA ad A H1 locs1 ls hE hP1 (zw_D hD) hS1 hl
  rw [List.map_append] at kk
  cases r' with
  | none => exact kk
  | some v => exact kk
end ZC
/-! the steps of a decompiled text: what is told of it gives what is told of its parts -/
def zb {α : Type} (o : Option (Int32 × zS)) (f : Int32 → zS → Option α) : Option α := match o with
  | none => none
  | some q => f q.1 q.2
def zu {α : Type} (o : Option zS) (f : zS → Option α) : Option α := match o with
  | none => none
  | some q => f q
def zlet {α β : Type} (a : α) (f : α → Option β) : Option β := f a
theorem zb_some {α : Type} {o : Option (Int32 × zS)} {f : Int32 → zS → Option α} {y : α} (h : zb o f = some y) : ∃ r S1, o = some (r, S1) ∧ f r S1 = some y := by
  cases o with
  | none => cases h
  | some q => exact ⟨q.1, q.2, rfl, h⟩
theorem zu_some {α : Type} {o : Option zS} {f : zS → Option α} {y : α} (h : zu o f = some y) : ∃ S1, o = some S1 ∧ f S1 = some y := by
  cases o with
  | none => cases h
  | some q => exact ⟨q, rfl, h⟩
theorem zl_some {α β : Type} {a : α} {f : α → Option β} {y : β} (h : zlet a f = some y) : ∃ x, x = a ∧ f x = some y := ⟨a, rfl, h⟩
theorem zg_some {α : Type} {c : Prop} [Decidable c] {o : Option α} {y : α} (h : (if c then o else none) = some y) : c ∧ o = some y := by
  by_cases hc : c
  · rw [if_pos hc] at h; exact ⟨hc, h⟩
  · rw [if_neg hc] at h; cases h
theorem zr_some {x r : Int32} {S S1 : zS} (h : some (x, S) = some (r, S1)) : x = r ∧ S = S1 := by cases h; exact ⟨rfl, rfl⟩
