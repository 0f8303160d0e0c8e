/-! calls within such a walk: of methods (zMet), of constructors (zCt) -/
theorem zcell_lt {k ext : Nat} : True := trivial
def zshK (k ext : Nat) : Nat ⊕ Nat → Nat ⊕ Nat
  | .inl n => .inl n
  | .inr j => .inr (if j < 900 then k + j else ext)
def zshC (k ext : Nat) : zC → zC
  | .inl q => .inl q
  | .inr q => .inr (q.1, q.2.map (zshK k ext))
def zkl (k : Nat) : Nat ⊕ Nat → Bool
  | .inl _ => true
  | .inr j => decide (j < k)
def zcl (k : Nat) : zC → Bool
  | .inl _ => true
  | .inr q => q.2.all (zkl k)
def zkm (n : Nat) : Nat ⊕ Nat → Bool
  | .inl _ => true
  | .inr j => decide (j < n) || j == 900
def zcm (n : Nat) : zC → Bool
  | .inl _ => true
  | .inr q => q.2.all (zkm n)
def zcb : zC → Bool
  | .inl _ => true
  | .inr q => q.2.all (fun kd => match kd with | .inl _ => true | .inr _ => false)
def zvk (k : Nat) : Value → Bool
  | .ref j => decide (j ≤ k) || decide (900 ≤ j)
  | _ => true
def zcat (k : Nat) (S Sf : zS) : zS := (fun j => if j < k then S.1 j else Sf.1 (j - k), fun j => if j < k then S.2 j else Sf.2 (j - k))
theorem zfs_congr {ad ad' : Nat → Nat} {f : Nat → Int32} {g : Nat → Int64} {ks ks' : List (Nat ⊕ Nat)} (hl : ks'.length = ks.length) (h : ∀ i kd kd', ks[i]? = some kd → ks'[i]? = some kd' → zfv ad' f g i kd' = zfv ad f g i kd) : ks'.mapIdx (fun i kd => zfv ad' f g i kd) = ks.mapIdx (fun i kd => zfv ad f g i kd) := by
  refine List.ext_getElem? fun j => ?_
  simp only [List.getElem?_mapIdx]
  cases h1 : ks[j]? with
  | none =>
    have : ks'[j]? = none := by rw [List.getElem?_eq_none_iff] at h1 ⊢; omega
    rw [this]; rfl
  | some kd =>
    cases h2 : ks'[j]? with
    | none => rw [List.getElem?_eq_none_iff] at h2; have := (List.getElem?_eq_some_iff.mp h1).1; omega
    | some kd' => simp only [Option.map_some]; rw [h j kd kd' h1 h2]
theorem zce_lt {k : Nat} {cA : Nat → ClassId} {ad ad' : Nat → Nat} (e : ∀ i, i < k → ad' i = ad i) {f : Nat → Int32} {g : Nat → Int64} {c : zC} (h : zcl k c = true) : zce cA ad' f g c = zce cA ad f g c := by
  match c, h with
  | .inl q, _ => rfl
  | .inr q, h =>
    refine congrArg (fun z => Sum.inr (q.1, z)) (zfs_congr (ad := ad) (ad' := ad') (f := f) (g := g) (ks := q.2) (ks' := q.2) rfl (fun i kd kd' h1 h2 => by
      rw [h1] at h2
      cases h2
      have := List.all_eq_true.mp h kd (List.mem_of_getElem? h1)
      match kd, this with
      | .inl 0, _ => rfl
      | .inl 1, _ => rfl
      | .inl (_ + 2), _ => rfl
      | .inr j, h =>
        simp only [zkl, decide_eq_true_eq] at h
        show Value.ref _ = Value.ref _
        rw [e j h]))
theorem zce_sh {k ext n : Nat} {cA : Nat → ClassId} {ad ad' : Nat → Nat} (hn : n + k ≤ 900) (e : ∀ i, i < n → ad' (k + i) = ad i) {f : Nat → Int32} {g : Nat → Int64} {c : zC} (e9 : zcl n c = true ∨ ad' ext = ad 900) (h : zcm n c = true) : zce cA ad' f g (zshC k ext c) = zce cA ad f g c := by
  match c, h, e9 with
  | .inl q, _, _ => rfl
  | .inr q, h, e9 =>
    refine congrArg (fun z => Sum.inr (q.1, z)) (zfs_congr (ad := ad) (ad' := ad') (f := f) (g := g) (ks := q.2) (ks' := q.2.map (zshK k ext)) (by simp) (fun i kd kd' h1 h2 => by
      simp only [List.getElem?_map, h1, Option.map_some, Option.some.injEq] at h2
      subst h2
      have := List.all_eq_true.mp h kd (List.mem_of_getElem? h1)
      match kd, this with
      | .inl 0, _ => rfl
      | .inl 1, _ => rfl
      | .inl (_ + 2), _ => rfl
      | .inr j, h =>
        simp only [zkm, Bool.or_eq_true, decide_eq_true_eq, beq_iff_eq] at h
        show Value.ref (ad' (if j < 900 then k + j else ext)) = Value.ref _
        rcases h with h | h
        · rw [if_pos (by omega), e j h]
        · rcases e9 with e9 | e9
          · have := List.all_eq_true.mp e9 _ (List.mem_of_getElem? h1)
            simp only [zkl, decide_eq_true_eq] at this
            omega
          · rw [h, if_neg (by omega), e9]))
theorem zce_b {cA : Nat → ClassId} {ad ad' : Nat → Nat} {f : Nat → Int32} {g : Nat → Int64} {c : zC} (h : zcb c = true) : zce cA ad' f g c = zce cA ad f g c := by
  match c, h with
  | .inl q, _ => rfl
  | .inr q, h =>
    refine congrArg (fun z => Sum.inr (q.1, z)) (zfs_congr (ad := ad) (ad' := ad') (f := f) (g := g) (ks := q.2) (ks' := q.2) rfl (fun i kd kd' h1 h2 => by
      rw [h1] at h2
      cases h2
      have := List.all_eq_true.mp h kd (List.mem_of_getElem? h1)
      match kd, this with
      | .inl 0, _ => rfl
      | .inl 1, _ => rfl
      | .inl (_ + 2), _ => rfl))
theorem zw_cat {Lp Lf : List zC} {cA : Nat → ClassId} {ad adl : Nat → Nat} {S Sf : zS} {ext : Nat} (h1 : Lp.all (zcl Lp.length) = true) (h2 : Lf.all (zcm Lf.length) = true) (h3 : Lf.length + Lp.length ≤ 900) (h4 : Lf.all (zcl Lf.length) = true ∨ (ext < Lp.length ∧ adl 900 = ad ext)) :
    zw (Lp ++ Lf.map (zshC Lp.length ext)) cA (fun i => if i < Lp.length then ad i else if i < 900 then adl (i - Lp.length) else ad i) (zcat Lp.length S Sf) = zw Lp cA ad S ++ zw Lf cA adl Sf := by
  refine List.ext_getElem? fun j => ?_
  by_cases hj : j < Lp.length
  · rw [List.getElem?_append_left (by simpa [zw] using hj)]
    simp only [zw, List.getElem?_mapIdx, List.getElem?_append_left hj]
    cases hc : Lp[j]? with
    | none => rfl
    | some c =>
      simp only [Option.map_some, zcat, if_pos hj]
      rw [zce_lt (ad := ad) (fun i hi => if_pos hi) (List.all_eq_true.mp h1 c (List.mem_of_getElem? hc))]
  · rw [List.getElem?_append_right (by simpa [zw] using hj)]
    simp only [zw, List.getElem?_mapIdx, List.length_mapIdx]
    rw [List.getElem?_append_right (by omega), List.getElem?_map]
    cases hc : Lf[j - Lp.length]? with
    | none => rfl
    | some c =>
      have hl := (List.getElem?_eq_some_iff.mp hc).1
      simp only [Option.map_some, zcat, if_neg hj]
      rw [if_pos (show j < 900 by omega), zce_sh (ad := adl) h3 (fun i hi => by
        rw [if_neg (by omega), if_pos (by omega)]
        congr 1
        omega) (h4.imp (fun z => List.all_eq_true.mp z c (List.mem_of_getElem? hc)) (fun z => by rw [if_pos z.1]; exact z.2.symm)) (List.all_eq_true.mp h2 c (List.mem_of_getElem? hc))]
theorem zv_k {k : Nat} {ad ad' : Nat → Nat} (e : ∀ j, (j ≤ k ∨ 900 ≤ j) → ad' j = ad j) {v : Value} (h : zvk k v = true) : zv ad' v = zv ad v := by
  cases v <;> try rfl
  rename_i j
  simp only [zvk, Bool.or_eq_true, decide_eq_true_eq] at h
  show Value.ref _ = Value.ref _
  rw [e j h]
theorem va_nd_of : ∀ {l : List Nat}, l.Nodup → va_nd l = true
  | [], _ => rfl
  | a :: l, h => by
    obtain ⟨h1, h2⟩ := List.nodup_cons.mp h
    simp only [va_nd, Bool.and_eq_true, decide_eq_true_eq]
    exact ⟨h1, va_nd_of h2⟩
section ZG2
variable {Ly : List zC} {l : Launch} {own : String} {cc : ByteArray} {nL : Nat} {ret : Option FieldType} {R : Room} {mc ms n0 nc ns : Nat} {ini : Bool} {EX : State → (Nat → Prop) → (Nat → Nat) → Prop} {Qf : List Frame → Array Value → State → va_G → (Nat → ClassId) → (Nat → Nat) → (Nat → Prop) → State → Prop} {S S2 : zS} {pc : Nat} {lo lo' : List (Nat × Value)} {st st0 : List Value}
theorem g_callV {y : MethodName} {cc' : ByteArray} {nL' n kd' idx b ci N : Nat} {ks : List (Nat ⊕ Nat)} {T : u_T} {ret' : Option FieldType} {r' : Option Value} (as : List Value) (hd : decode cc pc = .ok (.invokevirtual idx, 3)) (hl0 : Cond.methodLink own idx y ∈ ztbl) (hm : zMv y cc' nL' ret' n) (hk : kd' + 1 ≤ R.frames ∧ 8 + (nL' + 11) + 40 * kd' ≤ R.locals) (hcs : nc ≤ R.cells ∧ ns ≤ R.slots) (hb : Ly[b]? = some (.inr (ci, ks))) (hC : vwCl[ci]? = some (y.cls, T, N))
    (hc : zMet Ly l y cc' nL' ret' kd' (.ref b :: as) S r' S2) (hn : as.length = n) (hst : st0 = as.reverse ++ .ref b :: st) (hw : (st.map fun v => v.category).sum ≤ 8) (k : WG Ly l own cc nL ret R n0 ini EX Qf nc ns (pc + 3) lo (r'.toList ++ st) S2) : WG Ly l own cc nL ret R n0 ini EX Qf nc ns pc lo st0 S := by
  intro p e s m args below meth c D cA ad0 ad A H locs ls hE hag hini hex hP hD hS hl
  obtain ⟨m1, m2, m3, m4, m5, m6⟩ := hm
  have hts := hE.2.2.2.2.2.1
  have hK := hE.2.2.2.2.2.2.2.1
  have hF : ∀ q, va_A (zw Ly cA ad S) H.size q → A q := fun q h => by
    rcases h with ⟨k, e, h⟩ | h
    · exact hD.2 k _ h
    · exact hE.2.2.2.2.2.2.2.2.1 q (Nat.le_trans hS.1 h)
  have hg : GoodIn ztbl (wsV own idx y.cls y (Cond.code y cc' nL' ret' :: ztbl)) := zgood fun w h => by
    simp only [wsV, List.cons_append, List.nil_append, List.mem_cons] at h
    rcases h with rfl | rfl | rfl | rfl | rfl | h
    · exact hl0
    · exact m1
    · exact m2
    · exact m3
    · exact m4
    · exact h
  have hcall := va_runV (l := l) (e := e) (R := R) (below := below) (meth := meth) (H := H) (locs := locs) (cells := nc) (slots := ns) (g := F0 m pc ls (st0.map (zv ad))) (As := as.map (zv ad)) (rest := st.map (zv ad)) (b := ad b) ⟨hE.1, hE.2.1, hE.2.2.2.1, hE.2.2.2.2.1, hts⟩ (hc D cA ad H.size)
    (cwV n hts hg rfl rfl rfl ⟨rfl, m5⟩ hk) ⟨zblind, va_recv hK hP hC (zw_at hb), fun U hU hW => ⟨rfl, by rw [hU], ⟨by rw [hU]; exact hP, va_K.moved hW.alike hK, hD.weaken (fun _ _ _ _ => trivial)⟩, by rw [hU]; exact zX.call hE.2.2.2.2.2.2.2.2.2 hS hW hF⟩⟩ rfl (by rw [List.length_map]; exact hn) hl.1 (by rw [hst]; simp [zv]) (lv_room (by rw [zcats]; exact hw)) hd hcs
  refine z_run hcall hS (fun q _ h => hF q h) hF (fun H1 locs1 hP1 hS1 => ?_)
  have kk := k p e s m args below meth c D cA ad0 ad A H1 locs1 ls hE hag hini hex hP1 (zw_D hD) hS1 hl
  rw [List.map_append] at kk
  cases r' with
  | none => exact kk
  | some v => exact kk
theorem g_callVS {y : MethodName} {cc' : ByteArray} {nL' n kd' idx : Nat} {ret' : Option FieldType} {x : Int32} (i : Nat) (as : List Value) (hd : decode cc pc = .ok (.invokevirtual idx, 3)) (hl0 : Cond.methodLink own idx y ∈ ztbl) (hm : zMv y cc' nL' ret' n) (hk : kd' + 1 ≤ R.frames ∧ 8 + (nL' + 11) + 40 * kd' ≤ R.locals) (hcs : nc ≤ R.cells ∧ ns ≤ R.slots) (hi : i < 2) (hC : y.cls = "java/lang/String")
    (hc : zMet Ly l y cc' nL' ret' kd' (.ref (1000 + i) :: as) S (some (.int x)) S2) (hn : as.length = n) (hst : st0 = as.reverse ++ .ref (1000 + i) :: st) (hw : (st.map fun v => v.category).sum ≤ 8) (k : WG Ly l own cc nL ret R n0 ini EX Qf nc ns (pc + 3) lo (.int x :: st) S2) : WG Ly l own cc nL ret R n0 ini EX Qf nc ns pc lo st0 S := by
  intro p e s m args below meth c D cA ad0 ad A H locs ls hE hag hini hex hP hD hS hl
  obtain ⟨m1, m2, m3, m4, m5, m6⟩ := hm
  have hts := hE.2.2.2.2.2.1
  have hK := hE.2.2.2.2.2.2.2.1
  have hF : ∀ q, va_A (zw Ly cA ad S) H.size q → A q := fun q h => by
    rcases h with ⟨k, e, h⟩ | h
    · exact hD.2 k _ h
    · exact hE.2.2.2.2.2.2.2.2.1 q (Nat.le_trans hS.1 h)
  have hg : GoodIn ztbl (wsV own idx y.cls y (Cond.code y cc' nL' ret' :: ztbl)) := zgood fun w h => by
    simp only [wsV, List.cons_append, List.nil_append, List.mem_cons] at h
    rcases h with rfl | rfl | rfl | rfl | rfl | h
    · exact hl0
    · exact m1
    · exact m2
    · exact m3
    · exact m4
    · exact h
  have hrec : ∃ cell : Cell, H[ad (1000 + i)]? = some cell ∧ cell.vm.isStatics = false ∧ s.vm.findClass y.cls = some cell.cls := by
    rw [hC]
    exact vk_recv (adK := fun i => ad (1000 + i)) (i := i) hE.2.2.2.2.2.2.2.2.2.1 hi hS
  have hcall := va_runV (l := l) (e := e) (R := R) (below := below) (meth := meth) (H := H) (locs := locs) (cells := nc) (slots := ns) (g := F0 m pc ls (st0.map (zv ad))) (As := as.map (zv ad)) (rest := st.map (zv ad)) (b := ad (1000 + i)) ⟨hE.1, hE.2.1, hE.2.2.2.1, hE.2.2.2.2.1, hts⟩ (hc D cA ad H.size)
    (cwV n hts hg rfl rfl rfl ⟨rfl, m5⟩ hk) ⟨zblind, hrec, fun U hU hW => ⟨rfl, by rw [hU], ⟨by rw [hU]; exact hP, va_K.moved hW.alike hK, hD.weaken (fun _ _ _ _ => trivial)⟩, by rw [hU]; exact zX.call hE.2.2.2.2.2.2.2.2.2 hS hW hF⟩⟩ rfl (by rw [List.length_map]; exact hn) hl.1 (by rw [hst]; simp [zv]) (lv_room (by rw [zcats]; exact hw)) hd hcs
  refine z_run hcall hS (fun q _ h => hF q h) hF (fun H1 locs1 hP1 hS1 => ?_)
  exact k p e s m args below meth c D cA ad0 ad A H1 locs1 ls hE hag hini hex hP1 (zw_D hD) hS1 hl
theorem g_ldcS1001 (hd : decode cc pc = .ok (.ldc 28, 2)) (k : WG Ly l "HedgeRecord$Reader" cc nL ret R n0 ini EX Qf nc ns (pc + 2) lo (.ref 1001 :: st) S) : WG Ly l "HedgeRecord$Reader" cc nL ret R n0 ini EX Qf nc ns pc lo st S := by
  intro p e s m args below meth c D cA ad0 ad A H locs ls hE hag hini hex hP hD hS hl
  exact va_ldcS hE.1 hE.2.1 hE.2.2.2.2.1 hE.2.2.2.2.2.2.2.2.2.2.2.2.1 hd (k p e s m args below meth c D cA ad0 ad A H locs ls hE hag hini hex hP hD hS hl)
def zMc (y : MethodName) (cc : ByteArray) (nL n : Nat) : Prop := Cond.initialized y.cls ∈ ztbl ∧ Cond.instanceMethod y ∈ ztbl ∧ Cond.code y cc nL none ∈ ztbl ∧ (y.cls ≠ "java/lang/invoke/MethodHandle" ∧ y.cls ≠ "java/lang/invoke/VarHandle" ∧ (parseMethodDescriptor y.desc).map (fun d => d.parameters.length) = some n) ∧ y.name = "<init>"
def ztr (k ext : Nat) : Value → Value
  | .ref j => .ref (if j < 900 then k + j else ext)
  | v => v
theorem g_ctor {y : MethodName} {cc' : ByteArray} {nL' n kd' mc' ms' idx ext k : Nat} {b0 : zC} {Lp Lf Ly2 : List zC} {Sf : zS} (asl : List Value) (hd : decode cc pc = .ok (.invokespecial idx, 3)) (hl0 : Cond.methodLink own idx y ∈ ztbl) (hm : zMc y cc' nL' n) (hk : kd' + 1 ≤ R.frames ∧ 8 + (nL' + 11) + 40 * kd' ≤ R.locals) (hcs : nc + mc' ≤ R.cells ∧ ns + ms' ≤ R.slots)
    (hc : zCt l y cc' nL' kd' mc' ms' b0 (.ref 0 :: asl) Lf Sf) (hk0 : k = Lp.length) (hLy : Ly = Lp ++ [b0]) (hb : zcb b0 = true) (hz : S.1 k = (fun _ => 0) ∧ S.2 k = fun _ => 0) (hn : asl.length = n) (hst : st0 = (asl.map (ztr k ext)).reverse ++ .ref k :: st) (has : asl.all (fun v => match v with | .ref j => j == 900 | _ => true) = true)
    (f1 : Lp.all (zcl Lp.length) = true) (f2 : Lf.all (zcm Lf.length) = true) (f3 : Lf.length + Lp.length < 900) (f4 : ext < Lp.length ∨ Lf.all (zcl Lf.length) = true) (f5 : n0 ≤ Lp.length) (f6 : lo.all (fun q => zvk k q.2) = true) (f7 : st.all (zvk k) = true) (hw : (st.map fun v => v.category).sum ≤ 8) (hL2 : Ly2 = Lp ++ Lf.map (zshC Lp.length ext)) (hS2 : S2 = zcat Lp.length S Sf)
    (kk : WG Ly2 l own cc nL ret R n0 ini EX Qf (nc + mc') (ns + ms') (pc + 3) lo st S2) : WG Ly l own cc nL ret R n0 ini EX Qf nc ns pc lo st0 S := by
  intro p e s m args below meth c D cA ad0 ad A H locs ls hE hag hini hex hP hD hS hl
  obtain ⟨m3, m1, m4, m5, m6⟩ := hm
  have hts := hE.2.2.2.2.2.1
  have hK := hE.2.2.2.2.2.2.2.1
  subst hL2 hS2 hk0 hLy
  let adl : Nat → Nat := fun j => if j < 900 then ad (Lp.length + j) else if j = 900 then ad ext else ad j
  have hadl : ∀ i, 901 ≤ i → adl i = ad i := fun i hi => by
    show (if i < 900 then _ else if i = 900 then _ else ad i) = _
    rw [if_neg (by omega), if_neg (by omega)]
  have hwc : zw [b0] cA adl zS0 = [(ad Lp.length, zce cA ad (S.1 Lp.length) (S.2 Lp.length) b0)] := by
    show [(adl 0, zce cA adl (fun _ => 0) (fun _ => 0) b0)] = _
    rw [hz.1, hz.2, zce_b (ad := ad) hb]
    rfl
  have hat : (zw (Lp ++ [b0]) cA ad S)[Lp.length]? = some (ad Lp.length, zce cA ad (S.1 Lp.length) (S.2 Lp.length) b0) := zw_at (by simp)
  have hC : [Lp.length].map (fun i => (zw (Lp ++ [b0]) cA ad S)[i]?) = (zw [b0] cA adl zS0).map some := by
    rw [hwc]
    simp only [List.map_cons, List.map_nil, hat]
  have hR : (List.range Lp.length).map (fun i => (zw (Lp ++ [b0]) cA ad S)[i]?) = (zw Lp cA ad S).map some := by
    refine List.ext_getElem? fun j => ?_
    rw [List.getElem?_map, List.getElem?_map]
    by_cases hj : j < Lp.length
    · rw [List.getElem?_range hj]
      simp only [zw, List.getElem?_mapIdx, List.getElem?_append_left hj, Option.map_some]
      rw [List.getElem?_eq_getElem hj]
      rfl
    · rw [List.getElem?_eq_none (by simpa using hj), List.getElem?_eq_none (by simpa [zw] using hj)]
      rfl
  have hF0 := va_free (wc := zw [b0] cA adl zS0) hD hS hE.2.2.2.2.2.2.2.2.1 [Lp.length] hC
  have hPc : va_P D vwCl (zw [b0] cA adl zS0) H := by
    rw [hwc]
    intro i q hi
    match i, hi with
    | 0, hi => cases hi; exact hP Lp.length _ hat
  have hDc : va_D (fun _ => True) (zw [b0] cA adl zS0) := by
    rw [hwc]
    refine ⟨fun i j p q hi hj _ => ?_, fun _ _ _ => trivial⟩
    match i, j, hi, hj with
    | 0, 0, _, _ => rfl
  have hg : GoodIn ztbl (Cond.code y cc' nL' none :: ztbl) := zgood fun w h => by
    rcases List.mem_cons.mp h with rfl | h
    · exact m4
    · exact h
  have hzX : ∀ (U : State), U.heap = H → s.WarmedH U.vm → zX adl (va_A (zw [b0] cA adl zS0) H.size) U U.heap := fun U hU hW => by
    rw [hU]
    have h1 := zX.call hE.2.2.2.2.2.2.2.2.2 hS hW hF0
    obtain ⟨g1, g2, g3, g4, g5⟩ := h1
    have e1 : (fun i => adl (1000 + i)) = fun i => ad (1000 + i) := funext fun i => hadl _ (by omega)
    have e2 : (fun i => adl (1010 + i)) = fun i => ad (1010 + i) := funext fun i => hadl _ (by omega)
    exact ⟨by rw [e1, e2]; exact g1, g2, by rw [hadl 1000 (by omega)]; exact g3, by rw [hadl 1001 (by omega)]; exact g4, by rw [hadl 1020 (by omega)]; exact g5⟩
  have ha : asl.map (zv adl) = (asl.map (ztr Lp.length ext)).map (zv ad) := by
    rw [List.map_map]
    refine List.map_congr_left fun v hv => ?_
    have := List.all_eq_true.mp has v hv
    cases v <;> try rfl
    rename_i j
    simp only [beq_iff_eq] at this
    subst this
    show Value.ref (adl 900) = Value.ref (ad ext)
    show Value.ref (if 900 < 900 then _ else if 900 = 900 then ad ext else _) = _
    simp
  have hcall := va_runI (l := l) (e := e) (R := R) (below := below) (meth := meth) (H := H) (locs := locs) (cells := nc) (slots := ns) (g := F0 m pc ls (st0.map (zv ad))) (As := asl.map (zv adl)) (rest := st.map (zv ad)) (b := ad Lp.length) ⟨hE.1, hE.2.1, hE.2.2.2.1, hE.2.2.2.2.1, hts⟩ (hc D cA adl H.size)
    (cwI n hts hg rfl rfl rfl (hts _ m3) (hts _ hl0) (hts _ m1) m6 m5 hk) ⟨zblind, fun U hU hW => ⟨rfl, by rw [hU], ⟨by rw [hU]; exact hPc, va_K.moved hW.alike hK, hDc⟩, hzX U hU hW⟩⟩ rfl (by rw [List.length_map]; exact hn) hl.1 (by rw [hst, ha]; simp [zv]) (lv_room (by rw [zcats]; exact hw)) hd hcs
  intro T hT X
  obtain ⟨v, st₀, t, T', L, h0, X', hL, e1, e2, ⟨⟨ad', hag', hv, hp, hk2, hd2⟩, hzz, hkk⟩, hgo⟩ := hcall T hT X
  cases hv
  rw [h0] at hzz hkk
  have hj := va_join (H1 := T'.heap) hP hD [Lp.length] (List.range Lp.length) hC hR (va_nd_of List.nodup_range) (fun i hi => by
    have := List.mem_range.mp hi
    simp only [List.mem_singleton]
    omega) (fun q h1 h2 => by rw [e1]; exact hkk q h1 h2) hF0 (by rw [e1]; exact hp) hd2
  have h9 : ad' 900 = ad ext := by
    rw [hag' 900 (Or.inr (Nat.le_refl _))]
    show (if 900 < 900 then _ else if 900 = 900 then ad ext else _) = _
    simp
  rw [← zw_cat f1 f2 (Nat.le_of_lt f3) (f4.symm.imp (fun z => z) (fun z => ⟨z, h9⟩))] at hj
  have hk0 : ad' 0 = ad Lp.length := by rw [hag' 0 (Or.inl (by omega))]; rfl
  have eN : ∀ v, zvk Lp.length v = true → zv (fun i => if i < Lp.length then ad i else if i < 900 then ad' (i - Lp.length) else ad i) v = zv ad v := by
    intro v hv
    refine zv_k (fun j hv => ?_) hv
    show (if j < Lp.length then ad j else if j < 900 then ad' (j - Lp.length) else ad j) = ad j
    rcases hv with hv | hv
    · by_cases hlt : j < Lp.length
      · rw [if_pos hlt]
      · have : j = Lp.length := by omega
        subst this
        rw [if_neg hlt, if_pos (by omega), Nat.sub_self, hk0]
    · rw [if_neg (by omega), if_neg (by omega)]
  have hlo2 : zlo (fun i => if i < Lp.length then ad i else if i < 900 then ad' (i - Lp.length) else ad i) lo = zlo ad lo := List.map_congr_left fun q hq => by rw [eN q.2 (List.all_eq_true.mp f6 q hq)]
  have hst2 : st.map (zv (fun i => if i < Lp.length then ad i else if i < 900 then ad' (i - Lp.length) else ad i)) = st.map (zv ad) := by
    apply List.map_congr_left
    intro q hq
    exact eN q (List.all_eq_true.mp f7 q hq)
  have e9 : ∀ i, 900 ≤ i → (fun i => if i < Lp.length then ad i else if i < 900 then ad' (i - Lp.length) else ad i) i = ad i := fun i hi => by
    show (if i < Lp.length then ad i else if i < 900 then ad' (i - Lp.length) else ad i) = ad i
    rw [if_neg (by omega), if_neg (by omega)]
  have k2 := kk p e s m args below meth c D cA ad0 (fun i => if i < Lp.length then ad i else if i < 900 then ad' (i - Lp.length) else ad i) A T'.heap (locs ++ L) ls (hE.ad e9) (fun i hi => by
      rcases hi with hi | hi
      · show (if i < Lp.length then ad i else if i < 900 then ad' (i - Lp.length) else ad i) = _
        rw [if_pos (by omega)]
        exact hag i (Or.inl hi)
      · exact (e9 i hi).trans (hag i (Or.inr hi))) hini hex hj.1 hj.2
    ⟨Nat.le_trans hS.1 (by rw [e1]; exact hzz), fun q h1 h2 => by rw [e1, hkk q (Nat.lt_of_lt_of_le h1 hS.1) (fun z => h2 (hF0 q z))]; exact hS.2.1 q h1 h2, fun q hq => by
      rcases List.mem_append.mp hq with h | h
      · exact hS.2.2 q h
      · exact hF0 _ (hL q h)⟩ (by rw [hlo2]; exact hl)
  rw [hst2] at k2
  obtain ⟨t2, a1, b1⟩ := k2 T' rfl X'
  exact ⟨t2, hgo t2 a1, b1⟩
theorem zCt.of {y : MethodName} {kd : Nat} {b0 : zC} {as : List Value} {Lf : List zC} {Sf : zS} (hy : plainName y.cls = true) (hy2 : y.name = "<init>") (hn : (lg_sl as).length ≤ nL) (h : WG [b0] l y.cls cc nL none (zrc kd mc ms) 1 true (fun _ _ _ => True) (zMQC mc ms 1 Lf Sf) 0 0 0 (lv_args 0 as) [] zS0) : zCt l y cc nL kd mc ms b0 as Lf Sf := by
  intro D cA ad sz
  refine Met.ofW (cc := cc) (maxL := nL) (ret := none) hy rfl ?_
  intro p e s m args below meth c s₁ B hml hv
  obtain ⟨rfl, hsz, ⟨hP, hK, hD0⟩, hX⟩ := hv
  subst hsz
  have hl := lv_entry (as.map (zv ad)) (n := nL) (by rw [zlo_sl]; exact hn)
  rw [zlo_args] at hl
  rw [lg_entry_eq]
  have hts := atoms_spec (ws := Cond.code y cc nL none :: ztbl) B.pre
  exact h p e s m _ below meth c D cA ad ad (va_A (zw [b0] cA ad zS0) s.heap.size) s.heap [] _ ⟨B.exec, B.bytes, B.returns, hml, findClass_of_methodNamed B.named, fun w hw => hts w (List.mem_cons_of_mem _ hw), B.notSynchronized, hK, fun q h => Or.inr h, hX⟩ (fun _ _ => rfl) (fun _ => by rw [(name_of_methodNamed B.named B.method).1]; exact hy2) trivial hP hD0.self va_S.rf hl
end ZG2
