/-! ===== the law's own walk: both systems side by side ===== -/
def zLC : List zC := zLX ++ zLM.map (zshC 67 0)
theorem zLM_len : zLM.length = 38 := rfl
theorem zLXl : zLX.length = 67 := rfl
theorem zLX_in : zLX.all (zcl 67) = true := rfl
theorem zLM_in : zLM.all (zcl 38) = true := rfl
theorem zLM_in2 : zLM.all (zcm 38) = true := rfl
/-- the reference's cells, by their own numbers -/
def zml (ad : Nat → Nat) : Nat → Nat := fun i => if i < 800 then ad (67 + i) else ad i
theorem zw_cat2 {Lp Lf : List zC} {k : Nat} {cA : Nat → ClassId} {ad : Nat → Nat} {Sx Sm : zS} (hk : Lp.length = k) (h2 : Lf.all (zcl Lf.length) = true) (h3 : Lf.all (zcm Lf.length) = true) (hl : Lf.length ≤ 800) (hk2 : k + 800 ≤ 900) :
    zw (Lp ++ Lf.map (zshC k 0)) cA ad (zcat k Sx Sm) = zw Lp cA ad Sx ++ zw Lf cA (fun i => if i < 800 then ad (k + i) else ad i) Sm := by
  subst hk
  refine List.ext_getElem? fun j => ?_
  by_cases hj : j < Lp.length
  · rw [List.getElem?_append_left (by simpa [zw] using hj)]
    simp only [zw, List.getElem?_mapIdx, List.getElem?_append_left hj, zcat, if_pos hj]
  · rw [List.getElem?_append_right (by simpa [zw] using hj)]
    simp only [zw, List.getElem?_mapIdx, List.length_mapIdx]
    rw [List.getElem?_append_right (by omega), List.getElem?_map]
    cases hc : Lf[j - Lp.length]? with
    | none => rfl
    | some c =>
      have hlt := (List.getElem?_eq_some_iff.mp hc).1
      have hm := List.mem_of_getElem? hc
      simp only [Option.map_some, zcat, if_neg hj]
      rw [if_pos (show j - Lp.length < 800 by omega), zce_sh (ad := fun i => if i < 800 then ad (Lp.length + i) else ad i) (n := Lf.length) (by omega) (fun i hi => (if_pos (by omega)).symm) (Or.inl (List.all_eq_true.mp h2 c hm)) (List.all_eq_true.mp h3 c hm), show Lp.length + (j - Lp.length) = j by omega]
theorem zwC {cA : Nat → ClassId} {ad : Nat → Nat} {Sx Sm : zS} : zw zLC cA ad (zcat 67 Sx Sm) = zw zLX cA ad Sx ++ zw zLM cA (zml ad) Sm :=
  zw_cat2 (Lp := zLX) (Lf := zLM) zLXl zLM_in zLM_in2 (by rw [zLM_len]; omega) (by omega)
theorem zcat_clr (k : Nat) (S Sf : zS) : zcat k (zclr S k) Sf = zcat k S Sf := by
  refine Prod.ext (funext fun j => ?_) (funext fun j => ?_)
  · show (if j < k then (if j = k then _ else S.1 j) else _) = (if j < k then S.1 j else _)
    by_cases h : j < k
    · rw [if_pos h, if_pos h, if_neg (by omega)]
    · rw [if_neg h, if_neg h]
  · show (if j < k then (if j = k then _ else S.2 j) else _) = (if j < k then S.2 j else _)
    by_cases h : j < k
    · rw [if_pos h, if_pos h, if_neg (by omega)]
    · rw [if_neg h, if_neg h]
theorem zcat_0 (S Sf : zS) : zcat 0 S Sf = Sf := by
  refine Prod.ext (funext fun j => ?_) (funext fun j => ?_)
  · show (if j < 0 then S.1 j else Sf.1 (j - 0)) = Sf.1 j
    rw [if_neg (by omega), Nat.sub_zero]
  · show (if j < 0 then S.2 j else Sf.2 (j - 0)) = Sf.2 j
    rw [if_neg (by omega), Nat.sub_zero]
def zEX (b L : Nat) (xs : Nat → Int32) : State → (Nat → Prop) → (Nat → Nat) → Prop := fun s A ad0 => va_X b L xs s s.heap ∧ b < s.heap.size ∧ ¬ A b ∧ ad0 950 = b ∧ ∀ q, A q → s.heap.size ≤ q
/-- two parts of a world: the second stays where a call has the first alone -/
theorem zsplit {A : Nat → Prop} {D : va_G} {wa wb wa' : va_W} {H H1 : Heap} (hP : va_P D vwCl (wa ++ wb) H) (hD : va_D A (wa ++ wb)) (hk : ∀ q : Nat, q < H.size → ¬ va_A wa H.size q → H1[q]? = H[q]?) (hP1 : va_P D vwCl wa' H1) : va_P D vwCl (wa' ++ wb) H1 := by
  refine va_P.app hP1 fun k q hq => ?_
  have hq2 : (wa ++ wb)[wa.length + k]? = some q := by
    rw [List.getElem?_append_right (by omega)]
    rw [show wa.length + k - wa.length = k by omega]
    exact hq
  refine (hP _ q hq2).kept (hk q.1 (hP _ q hq2).lt fun z => ?_)
  rcases z with ⟨j, e, h⟩ | h
  · have hj : j < wa.length := (List.getElem?_eq_some_iff.mp h).1
    have := hD.1 (wa.length + k) j q (q.1, e) hq2 (by rw [List.getElem?_append_left hj]; exact h) rfl
    omega
  · have := (hP _ q hq2).lt
    omega
theorem zsplit2 {A : Nat → Prop} {D : va_G} {wa wb wb' : va_W} {H H1 : Heap} (hP : va_P D vwCl (wa ++ wb) H) (hD : va_D A (wa ++ wb)) (hk : ∀ q : Nat, q < H.size → ¬ va_A wb H.size q → H1[q]? = H[q]?) (hP1 : va_P D vwCl wb' H1) : va_P D vwCl (wa ++ wb') H1 := by
  refine va_P.app (fun k q hq => ?_) hP1
  have hl : k < wa.length := (List.getElem?_eq_some_iff.mp hq).1
  have hq2 : (wa ++ wb)[k]? = some q := by rw [List.getElem?_append_left hl]; exact hq
  refine (hP _ q hq2).kept (hk q.1 (hP _ q hq2).lt fun z => ?_)
  rcases z with ⟨j, e, h⟩ | h
  · have := hD.1 k (wa.length + j) q (q.1, e) hq2 (by rw [List.getElem?_append_right (by omega), show wa.length + j - wa.length = j by omega]; exact h) rfl
    omega
  · have := (hP _ q hq2).lt
    omega
section ZLW
variable {l : Launch} {own : String} {cc : ByteArray} {nL : Nat} {ret : Option FieldType} {R : Room} {n0 nc ns : Nat} {ini : Bool} {EX : State → (Nat → Prop) → (Nat → Nat) → Prop} {Qf : List Frame → Array Value → State → va_G → (Nat → ClassId) → (Nat → Nat) → (Nat → Prop) → State → Prop} {pc : Nat} {lo : List (Nat × Value)} {st st0 : List Value} {Sx Sm Sx' Sm' : zS} {Ly : List zC} {S : zS}
theorem gl_sld {b L : Nat} {xs : Nat → Int32} {i : Int32} (hd : decode cc pc = .ok (.iaload, 1)) (hin : ¬ (i < 0 ∨ L ≤ i.toNatClampNeg)) (k : WG Ly l own cc nL ret R n0 ini (zEX b L xs) Qf nc ns (pc + 1) lo (.int (xs i.toNatClampNeg) :: st) S) : WG Ly l own cc nL ret R n0 ini (zEX b L xs) Qf nc ns pc lo (.int i :: .ref 950 :: st) S := by
  intro p e s m args below meth c D cA ad0 ad A H locs ls hE hag hini hex hP hD hS hl
  have eb : ad 950 = b := (hag 950 (by omega)).trans hex.2.2.2.1
  have k2 := k p e s m args below meth c D cA ad0 ad A H locs ls hE hag hini hex hP hD hS hl
  show W p l e R s m args below meth c H locs nc ns _ (F0 m pc ls (.int i :: .ref (ad 950) :: st.map (zv ad)))
  rw [eb]
  exact va_sld hE.1 hE.2.1 hex.1 hex.2.1 hex.2.2.1 hS hin hd k2
theorem gl_slen {b L : Nat} {xs : Nat → Int32} (hd : decode cc pc = .ok (.arraylength, 1)) (k : WG Ly l own cc nL ret R n0 ini (zEX b L xs) Qf nc ns (pc + 1) lo (.int (Int32.ofNat L) :: st) S) : WG Ly l own cc nL ret R n0 ini (zEX b L xs) Qf nc ns pc lo (.ref 950 :: st) S := by
  intro p e s m args below meth c D cA ad0 ad A H locs ls hE hag hini hex hP hD hS hl
  have eb : ad 950 = b := (hag 950 (by omega)).trans hex.2.2.2.1
  have k2 := k p e s m args below meth c D cA ad0 ad A H locs ls hE hag hini hex hP hD hS hl
  show W p l e R s m args below meth c H locs nc ns _ (F0 m pc ls (.ref (ad 950) :: st.map (zv ad)))
  rw [eb]
  exact va_slen hE.1 hE.2.1 hex.1 hex.2.1 hex.2.2.1 hS hd k2
theorem g_tsw {dflt low hi : Int} {offs : Array Int} {len : Nat} {x : Int32} (dt : Nat) (ks : List (Int32 × Nat)) (hd : decode cc pc = .ok (.tableswitch dflt low hi offs, len))
    (h1 : (pc : Int) + dflt = (dt : Int)) (h2 : ks.all (fun q => decide (low ≤ q.1.toInt ∧ q.1.toInt ≤ hi)) = true) (h3 : (List.range (hi - low + 1).toNat).all (fun j => decide (offs[j]?.map (fun o => (pc : Int) + o) = some ((zlook (Int32.ofInt (low + j)) dt ks : Nat) : Int))) = true)
    (kk : zsw (fun t => WG Ly l own cc nL ret R n0 ini EX Qf nc ns t lo st S) dt x ks) : WG Ly l own cc nL ret R n0 ini EX Qf nc ns pc lo (.int x :: st) S := by
  intro p e s m args below meth c D cA ad0 ad A H locs ls hE hag hini hex hP hD hS hl
  have hk := zsw_look kk p e s m args below meth c D cA ad0 ad A H locs ls hE hag hini hex hP hD hS hl
  by_cases hr : x.toInt < low ∨ hi < x.toInt
  · have e : zlook x dt ks = dt := zlook_none fun q hq => by
      have := List.all_eq_true.mp h2 q hq
      simp only [decide_eq_true_eq] at this
      intro hx
      rw [hx] at hr
      omega
    rw [e] at hk
    exact lv_tableOut hE.1 hE.2.1 hd hr h1 hk
  · have hj : (x.toInt - low).toNat < (hi - low + 1).toNat := by omega
    have h4 := List.all_eq_true.mp h3 _ (List.mem_range.mpr hj)
    simp only [decide_eq_true_eq] at h4
    have e1 : low + ((x.toInt - low).toNat : Int) = x.toInt := by omega
    rw [e1, Int32.ofInt_toInt] at h4
    cases ho : offs[(x.toInt - low).toNat]? with
    | none => rw [ho] at h4; cases h4
    | some o =>
      rw [ho] at h4
      exact lv_tableIn hE.1 hE.2.1 hd (by omega) (by omega) ho (Option.some.inj h4) hk
/-- a call of the class -/
theorem gl_X {y : MethodName} {cc' : ByteArray} {nL' n kd' idx : Nat} {ret' : Option FieldType} {x : Int32} (as : List Value) (hd : decode cc pc = .ok (.invokevirtual idx, 3)) (hl0 : Cond.methodLink own idx y ∈ ztbl) (hm : zMv y cc' nL' ret' n) (hk : kd' + 1 ≤ R.frames ∧ 8 + (nL' + 11) + 40 * kd' ≤ R.locals) (hcs : nc ≤ R.cells ∧ ns ≤ R.slots) (hC : vwCl[11]? = some (y.cls, TX11, 16))
    (hc : zMet zLX l y cc' nL' ret' kd' (.ref 0 :: as) Sx (some (.int x)) Sx') (hn : as.length = n) (hst : st0 = as.reverse ++ .ref 0 :: st) (hw : (st.map fun v => v.category).sum ≤ 8) (k : WG zLC l own cc nL ret R n0 ini EX Qf nc ns (pc + 3) lo (.int x :: st) (zcat 67 Sx' Sm)) : WG zLC l own cc nL ret R n0 ini EX Qf nc ns pc lo st0 (zcat 67 Sx Sm) := by
  intro p e s m args below meth c D cA ad0 ad A H locs ls hE hag hini hex hP hD hS hl
  obtain ⟨m1, m2, m3, m4, m5, m6⟩ := hm
  have hts := hE.2.2.2.2.2.1
  have hK := hE.2.2.2.2.2.2.2.1
  have hP0 := hP
  have hD0 := hD
  rw [zwC] at hP hD
  have hPx : va_P D vwCl (zw zLX cA ad Sx) H := fun k q hq => hP k q (by rw [List.getElem?_append_left (List.getElem?_eq_some_iff.mp hq).1]; exact hq)
  have hDx : va_D A (zw zLX cA ad Sx) := ⟨fun i j p q hi hj e => hD.1 i j p q (by rw [List.getElem?_append_left (List.getElem?_eq_some_iff.mp hi).1]; exact hi) (by rw [List.getElem?_append_left (List.getElem?_eq_some_iff.mp hj).1]; exact hj) e, fun k q hq => hD.2 k q (by rw [List.getElem?_append_left (List.getElem?_eq_some_iff.mp hq).1]; exact hq)⟩
  have hF : ∀ q, va_A (zw zLX cA ad Sx) H.size q → A q := fun q h => by
    rcases h with ⟨k, e, h⟩ | h
    · exact hDx.2 k _ h
    · exact hE.2.2.2.2.2.2.2.2.1 q (Nat.le_trans hS.1 h)
  have hg : GoodIn ztbl (wsV own idx y.cls y (Cond.code y cc' nL' ret' :: ztbl)) := zgood fun w h => by
    simp only [wsV, List.cons_append, List.nil_append, List.mem_cons] at h
    rcases h with rfl | rfl | rfl | rfl | rfl | h
    · exact hl0
    · exact m1
    · exact m2
    · exact m3
    · exact m4
    · exact h
  have hcall := va_runV (l := l) (e := e) (R := R) (below := below) (meth := meth) (H := H) (locs := locs) (cells := nc) (slots := ns) (g := F0 m pc ls (st0.map (zv ad))) (As := as.map (zv ad)) (rest := st.map (zv ad)) (b := ad 0) ⟨hE.1, hE.2.1, hE.2.2.2.1, hE.2.2.2.2.1, hts⟩ (hc D cA ad H.size)
    (cwV n hts hg rfl rfl rfl ⟨rfl, m5⟩ hk) ⟨zblind, va_recv hK hPx hC (zw_at oX_0), fun U hU hW => ⟨rfl, by rw [hU], ⟨by rw [hU]; exact hPx, va_K.moved hW.alike hK, hDx.weaken (fun _ _ _ _ => trivial)⟩, by rw [hU]; exact zX.call hE.2.2.2.2.2.2.2.2.2 hS hW hF⟩⟩ rfl (by rw [List.length_map]; exact hn) hl.1 (by rw [hst]; simp [zv]) (lv_room (by rw [zcats]; exact hw)) hd hcs
  intro T hT X
  obtain ⟨v, st₀, t, T', L, h0, X', hL, e1, e2, ⟨⟨hv, hp, hk2⟩, hz, hkk⟩, hgo⟩ := hcall T hT X
  cases hv
  rw [h0] at hz hkk
  have hP1 := zsplit (H1 := T'.heap) hP hD (fun q h1 h2 => by rw [e1]; exact hkk q h1 h2) (by rw [e1]; exact hp)
  rw [← zwC] at hP1
  obtain ⟨t2, a1, b1⟩ := k p e s m args below meth c D cA ad0 ad A T'.heap (locs ++ L) ls hE hag hini hex hP1 (zw_D hD0)
    ⟨Nat.le_trans hS.1 (by rw [e1]; exact hz), fun q h1 h2 => by rw [e1, hkk q (Nat.lt_of_lt_of_le h1 hS.1) (fun z => h2 (hF q z))]; exact hS.2.1 q h1 h2, fun q hq => by
      rcases List.mem_append.mp hq with h | h
      · exact hS.2.2 q h
      · exact hF _ (hL q h)⟩ hl T' rfl X'
  exact ⟨t2, hgo t2 a1, b1⟩
theorem zpi_ge2 (i : Nat) (h : 37 ≤ i) : zpi i = i := zpi_ge i h
theorem zml_pi (ad : Nat → Nat) : zml (fun i => ad (zpi i)) = zml ad := by
  funext i
  show (if i < 800 then ad (zpi (67 + i)) else ad (zpi i)) = (if i < 800 then ad (67 + i) else ad i)
  by_cases h : i < 800
  · rw [if_pos h, if_pos h, zpi_ge _ (by omega)]
  · rw [if_neg h, if_neg h, zpi_ge _ (by omega)]
/-- the call of hedge(), where the class's two hedges change places -/
theorem gl_H {y : MethodName} {cc' : ByteArray} {nL' kd' idx : Nat} {ret' : Option FieldType} {x : Int32} (hd : decode cc pc = .ok (.invokevirtual idx, 3)) (hl0 : Cond.methodLink own idx y ∈ ztbl) (hm : zMv y cc' nL' ret' 0) (hk : kd' + 1 ≤ R.frames ∧ 8 + (nL' + 11) + 40 * kd' ≤ R.locals) (hcs : nc ≤ R.cells ∧ ns ≤ R.slots) (hC : vwCl[11]? = some (y.cls, TX11, 16)) (hn0 : n0 = 0)
    (hc : zMetS l y cc' nL' ret' kd' [.ref 0] Sx (some (.int x)) Sx') (f1 : lo.all (fun q => match q.2 with | .ref j => j == 0 || decide (37 ≤ j) | _ => true) = true) (k : WG zLC l own cc nL ret R n0 ini EX Qf nc ns (pc + 3) lo [.int x] (zcat 67 Sx' Sm)) : WG zLC l own cc nL ret R n0 ini EX Qf nc ns pc lo [.ref 0] (zcat 67 Sx Sm) := by
  intro p e s m args below meth c D cA ad0 ad A H locs ls hE hag hini hex hP hD hS hl
  obtain ⟨m1, m2, m3, m4, m5, m6⟩ := hm
  have hts := hE.2.2.2.2.2.1
  have hK := hE.2.2.2.2.2.2.2.1
  have hD0 := hD
  rw [zwC] at hP hD
  have hPx : va_P D vwCl (zw zLX cA ad Sx) H := fun k q hq => hP k q (by rw [List.getElem?_append_left (List.getElem?_eq_some_iff.mp hq).1]; exact hq)
  have hDx : va_D A (zw zLX cA ad Sx) := ⟨fun i j p q hi hj e => hD.1 i j p q (by rw [List.getElem?_append_left (List.getElem?_eq_some_iff.mp hi).1]; exact hi) (by rw [List.getElem?_append_left (List.getElem?_eq_some_iff.mp hj).1]; exact hj) e, fun k q hq => hD.2 k q (by rw [List.getElem?_append_left (List.getElem?_eq_some_iff.mp hq).1]; exact hq)⟩
  have hF : ∀ q, va_A (zw zLX cA ad Sx) H.size q → A q := fun q h => by
    rcases h with ⟨k, e, h⟩ | h
    · exact hDx.2 k _ h
    · exact hE.2.2.2.2.2.2.2.2.1 q (Nat.le_trans hS.1 h)
  have hg : GoodIn ztbl (wsV own idx y.cls y (Cond.code y cc' nL' ret' :: ztbl)) := zgood fun w h => by
    simp only [wsV, List.cons_append, List.nil_append, List.mem_cons] at h
    rcases h with rfl | rfl | rfl | rfl | rfl | h
    · exact hl0
    · exact m1
    · exact m2
    · exact m3
    · exact m4
    · exact h
  have hcall := va_runV (l := l) (e := e) (R := R) (below := below) (meth := meth) (H := H) (locs := locs) (cells := nc) (slots := ns) (g := F0 m pc ls [.ref (ad 0)]) (As := []) (rest := []) (b := ad 0) ⟨hE.1, hE.2.1, hE.2.2.2.1, hE.2.2.2.2.1, hts⟩ (hc D cA ad H.size)
    (cwV 0 hts hg rfl rfl rfl ⟨rfl, m5⟩ hk) ⟨zblind, va_recv hK hPx hC (zw_at oX_0), fun U hU hW => ⟨rfl, by rw [hU], ⟨by rw [hU]; exact hPx, va_K.moved hW.alike hK, hDx.weaken (fun _ _ _ _ => trivial)⟩, by rw [hU]; exact zX.call hE.2.2.2.2.2.2.2.2.2 hS hW hF⟩⟩ rfl rfl hl.1 rfl (lv_room (Nat.le_of_ble_eq_true rfl)) hd hcs
  intro T hT X
  obtain ⟨v, st₀, t, T', L, h0, X', hL, e1, e2, ⟨⟨hv, hp, hk2⟩, hz, hkk⟩, hgo⟩ := hcall T hT X
  cases hv
  rw [h0] at hz hkk
  have hP1 := zsplit (H1 := T'.heap) hP hD (fun q h1 h2 => by rw [e1]; exact hkk q h1 h2) (by rw [e1]; exact hp)
  rw [← zml_pi, ← zwC] at hP1
  have hlo : zlo (fun i => ad (zpi i)) lo = zlo ad lo := List.map_congr_left fun q hq => by
    have h1 := List.all_eq_true.mp f1 q hq
    obtain ⟨i, v⟩ := q
    cases v <;> try rfl
    rename_i j
    simp only [Bool.or_eq_true, beq_iff_eq, decide_eq_true_eq] at h1
    show (i, Value.ref (ad (zpi j))) = (i, Value.ref (ad j))
    rcases h1 with h1 | h1
    · subst h1; rfl
    · rw [zpi_ge _ h1]
  have hD1 : va_D A (zw zLC cA (fun i => ad (zpi i)) (zcat 67 Sx' Sm)) := by
    have hlen : zLC.length = 105 := rfl
    have key : ∀ (k : Nat) (q : Nat × va_E), (zw zLC cA (fun i => ad (zpi i)) (zcat 67 Sx' Sm))[k]? = some q → ∃ q2, (zw zLC cA ad (zcat 67 Sx Sm))[zpi k]? = some q2 ∧ q2.1 = q.1 := by
      intro k q hk
      obtain ⟨c, hc, rfl⟩ := zw_get hk
      have hk1 : k < 105 := (List.getElem?_eq_some_iff.mp hc).1
      have hk2 : zpi k < zLC.length := by
        rw [hlen]
        unfold zpi
        split <;> (try split) <;> omega
      exact ⟨_, zw_at (List.getElem?_eq_getElem hk2), rfl⟩
    refine ⟨fun i j x y hi hj hxy => ?_, fun k q hk => ?_⟩
    · obtain ⟨x2, g1, g2⟩ := key i x hi
      obtain ⟨y2, g3, g4⟩ := key j y hj
      have := hD0.1 _ _ x2 y2 g1 g3 (g2.trans (hxy.trans g4.symm))
      rw [← zpi_zpi i, this, zpi_zpi]
    · obtain ⟨q2, g1, g2⟩ := key k q hk
      rw [← g2]
      exact hD0.2 _ q2 g1
  have k2 := k p e s m args below meth c D cA ad0 (fun i => ad (zpi i)) A T'.heap (locs ++ L) ls (hE.ad (fun i hi => by show ad (zpi i) = ad i; rw [zpi_ge i (by omega)])) (fun i hi => by
      show ad (zpi i) = ad0 i
      rw [zpi_ge i (by omega)]
      exact hag i hi) hini hex hP1 hD1
    ⟨Nat.le_trans hS.1 (by rw [e1]; exact hz), fun q h1 h2 => by rw [e1, hkk q (Nat.lt_of_lt_of_le h1 hS.1) (fun z => h2 (hF q z))]; exact hS.2.1 q h1 h2, fun q hq => by
      rcases List.mem_append.mp hq with h | h
      · exact hS.2.2 q h
      · exact hF _ (hL q h)⟩ (by rw [hlo]; exact hl)
  obtain ⟨t2, a1, b1⟩ := k2 T' rfl X'
  exact ⟨t2, hgo t2 a1, b1⟩
/-- a call of the reference -/
theorem gl_M {y : MethodName} {cc' : ByteArray} {nL' n kd' idx : Nat} {ret' : Option FieldType} {x : Int32} (as : List Value) (hd : decode cc pc = .ok (.invokevirtual idx, 3)) (hl0 : Cond.methodLink own idx y ∈ ztbl) (hm : zMv y cc' nL' ret' n) (hk : kd' + 1 ≤ R.frames ∧ 8 + (nL' + 11) + 40 * kd' ≤ R.locals) (hcs : nc ≤ R.cells ∧ ns ≤ R.slots) (hC : vwCl[12]? = some (y.cls, TX12, 79)) (has : as.all (fun v => match v with | .ref _ => false | _ => true) = true)
    (hc : zMet zLM l y cc' nL' ret' kd' (.ref 0 :: as) Sm (some (.int x)) Sm') (hn : as.length = n) (hst : st0 = as.reverse ++ .ref 67 :: st) (hw : (st.map fun v => v.category).sum ≤ 8) (k : WG zLC l own cc nL ret R n0 ini EX Qf nc ns (pc + 3) lo (.int x :: st) (zcat 67 Sx Sm')) : WG zLC l own cc nL ret R n0 ini EX Qf nc ns pc lo st0 (zcat 67 Sx Sm) := by
  intro p e s m args below meth c D cA ad0 ad A H locs ls hE hag hini hex hP hD hS hl
  obtain ⟨m1, m2, m3, m4, m5, m6⟩ := hm
  have hts := hE.2.2.2.2.2.1
  have hK := hE.2.2.2.2.2.2.2.1
  have hD0 := hD
  rw [zwC] at hP hD
  have hr : ∀ (k : Nat) (q : Nat × va_E), (zw zLM cA (zml ad) Sm)[k]? = some q → (zw zLX cA ad Sx ++ zw zLM cA (zml ad) Sm)[67 + k]? = some q := fun k q hq => by
    have hl67 : (zw zLX cA ad Sx).length = 67 := by simp [zw, zLXl]
    rw [List.getElem?_append_right (by omega), hl67, show 67 + k - 67 = k by omega]
    exact hq
  have hPm : va_P D vwCl (zw zLM cA (zml ad) Sm) H := fun k q hq => hP _ q (hr k q hq)
  have hDm : va_D A (zw zLM cA (zml ad) Sm) := ⟨fun i j p q hi hj e => by have := hD.1 _ _ p q (hr i p hi) (hr j q hj) e; omega, fun k q hq => hD.2 _ q (hr k q hq)⟩
  have hF : ∀ q, va_A (zw zLM cA (zml ad) Sm) H.size q → A q := fun q h => by
    rcases h with ⟨k, e, h⟩ | h
    · exact hDm.2 k _ h
    · exact hE.2.2.2.2.2.2.2.2.1 q (Nat.le_trans hS.1 h)
  have hg : GoodIn ztbl (wsV own idx y.cls y (Cond.code y cc' nL' ret' :: ztbl)) := zgood fun w h => by
    simp only [wsV, List.cons_append, List.nil_append, List.mem_cons] at h
    rcases h with rfl | rfl | rfl | rfl | rfl | h
    · exact hl0
    · exact m1
    · exact m2
    · exact m3
    · exact m4
    · exact h
  have hEm : zX (zml ad) A s s.heap := hE.2.2.2.2.2.2.2.2.2.congr (fun i hi => by show (if i < 800 then _ else ad i) = ad i; rw [if_neg (by omega)])
  have ha : as.map (zv (zml ad)) = as.map (zv ad) := List.map_congr_left fun v hv => by
    have h1 := List.all_eq_true.mp has v hv
    cases v <;> first | rfl | cases h1
  have hcall := va_runV (l := l) (e := e) (R := R) (below := below) (meth := meth) (H := H) (locs := locs) (cells := nc) (slots := ns) (g := F0 m pc ls (st0.map (zv ad))) (As := as.map (zv (zml ad))) (rest := st.map (zv ad)) (b := zml ad 0) ⟨hE.1, hE.2.1, hE.2.2.2.1, hE.2.2.2.2.1, hts⟩ (hc D cA (zml ad) H.size)
    (cwV n hts hg rfl rfl rfl ⟨rfl, m5⟩ hk) ⟨zblind, va_recv hK hPm hC (zw_at oM_0), fun U hU hW => ⟨rfl, by rw [hU], ⟨by rw [hU]; exact hPm, va_K.moved hW.alike hK, hDm.weaken (fun _ _ _ _ => trivial)⟩, by rw [hU]; exact zX.call hEm hS hW hF⟩⟩ rfl (by rw [List.length_map]; exact hn) hl.1 (by rw [hst, ha]; simp [zv, zml]) (lv_room (by rw [zcats]; exact hw)) hd hcs
  intro T hT X
  obtain ⟨v, st₀, t, T', L, h0, X', hL, e1, e2, ⟨⟨hv, hp, hk2⟩, hz, hkk⟩, hgo⟩ := hcall T hT X
  cases hv
  rw [h0] at hz hkk
  have hP1 := zsplit2 (H1 := T'.heap) hP hD (fun q h1 h2 => by rw [e1]; exact hkk q h1 h2) (by rw [e1]; exact hp)
  rw [← zwC] at hP1
  obtain ⟨t2, a1, b1⟩ := k p e s m args below meth c D cA ad0 ad A T'.heap (locs ++ L) ls hE hag hini hex hP1 (zw_D hD0)
    ⟨Nat.le_trans hS.1 (by rw [e1]; exact hz), fun q h1 h2 => by rw [e1, hkk q (Nat.lt_of_lt_of_le h1 hS.1) (fun z => h2 (hF q z))]; exact hS.2.1 q h1 h2, fun q hq => by
      rcases List.mem_append.mp hq with h | h
      · exact hS.2.2 q h
      · exact hF _ (hL q h)⟩ hl T' rfl X'
  exact ⟨t2, hgo t2 a1, b1⟩
end ZLW
