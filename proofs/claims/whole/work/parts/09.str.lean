/-! the String constants: cells 1000, 1001 (their bytes 1010, 1011), which nobody writes -/
section ZSTR
variable {Ly : List zC} {l : Launch} {own : String} {cc : ByteArray} {nL : Nat} {ret : Option FieldType} {kd : Nat} {r : Option Value} {S1 S S2 : zS} {pc : Nat} {lo lo' : List (Nat × Value)} {st st0 : List Value}
def zsby (i : Nat) (j : Int32) : Int32 := (zsb.getD i []).getD j.toNatClampNeg 0
theorem z_ldcS1000 (hd : decode cc pc = .ok (.ldc 243, 2)) (k : WA Ly l "HedgeRecord$Reader" cc nL ret kd r S1 (pc + 2) lo (.ref 1000 :: st) S) : WA Ly l "HedgeRecord$Reader" cc nL ret kd r S1 pc lo st S := by
  intro p e s m args below meth c D cA ad A H locs ls hE hP hD hS hl
  exact va_ldcS hE.1 hE.2.1 hE.2.2.2.2.1 hE.2.2.2.2.2.2.2.2.2.2.2.1 hd (k p e s m args below meth c D cA ad A H locs ls hE hP hD hS hl)
theorem z_ldcS1001 (hd : decode cc pc = .ok (.ldc 28, 2)) (k : WA Ly l "HedgeRecord$Reader" cc nL ret kd r S1 (pc + 2) lo (.ref 1001 :: st) S) : WA Ly l "HedgeRecord$Reader" cc nL ret kd r S1 pc lo st S := by
  intro p e s m args below meth c D cA ad A H locs ls hE hP hD hS hl
  exact va_ldcS hE.1 hE.2.1 hE.2.2.2.2.1 hE.2.2.2.2.2.2.2.2.2.2.2.2.1 hd (k p e s m args below meth c D cA ad A H locs ls hE hP hD hS hl)
theorem z_strV {idx : Nat} (i : Nat) (hd : decode cc pc = .ok (.getfield idx, 3)) (hl0 : Cond.fieldLink own idx "java/lang/String" "value" "[B" ∈ ztbl) (hi : i < 2) (k : WA Ly l own cc nL ret kd r S1 (pc + 3) lo (.ref (1010 + i) :: st) S) : WA Ly l own cc nL ret kd r S1 pc lo (.ref (1000 + i) :: st) S := by
  intro p e s m args below meth c D cA ad A H locs ls hE hP hD hS hl
  exact vk_getf hE.1 hE.2.1 (hE.2.2.2.2.2.2.2.2.2.1.1 i hi).2.2.1 hS hE.2.2.2.2.1 (hE.2.2.2.2.2.1 _ hl0) (fun _ h => h) hd (k p e s m args below meth c D cA ad A H locs ls hE hP hD hS hl)
theorem z_strC {idx : Nat} (i : Nat) (hd : decode cc pc = .ok (.getfield idx, 3)) (hl0 : Cond.fieldLink own idx "java/lang/String" "coder" "B" ∈ ztbl) (hi : i < 2) (k : WA Ly l own cc nL ret kd r S1 (pc + 3) lo (.int 0 :: st) S) : WA Ly l own cc nL ret kd r S1 pc lo (.ref (1000 + i) :: st) S := by
  intro p e s m args below meth c D cA ad A H locs ls hE hP hD hS hl
  exact vk_getf hE.1 hE.2.1 (hE.2.2.2.2.2.2.2.2.2.1.1 i hi).2.1 hS hE.2.2.2.2.1 (hE.2.2.2.2.2.1 _ hl0) (fun _ h => h) hd (k p e s m args below meth c D cA ad A H locs ls hE hP hD hS hl)
theorem z_strK {idx : Nat} (hd : decode cc pc = .ok (.getstatic idx, 3)) (hl0 : Cond.fieldLink own idx "java/lang/String" "COMPACT_STRINGS" "Z" ∈ ztbl) (k : WA Ly l own cc nL ret kd r S1 (pc + 3) lo (.int 1 :: st) S) : WA Ly l own cc nL ret kd r S1 pc lo st S := by
  intro p e s m args below meth c D cA ad A H locs ls hE hP hD hS hl
  exact va_gets hE.1 hE.2.1 hE.2.2.2.2.2.2.2.2.2.2.1 hS hE.2.2.2.2.1 (hE.2.2.2.2.2.1 _ hl0) (fun _ h => h) hd (k p e s m args below meth c D cA ad A H locs ls hE hP hD hS hl)
theorem z_strQ {idx : Nat} (hd : decode cc pc = .ok (.getstatic idx, 3)) (hl0 : Cond.fieldLink own idx "jdk/internal/util/Preconditions" "SIOOBE_FORMATTER" "Ljava/util/function/BiFunction;" ∈ ztbl) (k1 : WA Ly l own cc nL ret kd r S1 (pc + 3) lo (.null :: st) S) (k2 : WA Ly l own cc nL ret kd r S1 (pc + 3) lo (.ref 1020 :: st) S) : WA Ly l own cc nL ret kd r S1 pc lo st S := by
  intro p e s m args below meth c D cA ad A H locs ls hE hP hD hS hl
  rcases hE.2.2.2.2.2.2.2.2.2.2.2.2.2 with h | h
  · exact va_gets hE.1 hE.2.1 h hS hE.2.2.2.2.1 (hE.2.2.2.2.2.1 _ hl0) (fun _ h => h) hd (k1 p e s m args below meth c D cA ad A H locs ls hE hP hD hS hl)
  · exact va_gets hE.1 hE.2.1 h hS hE.2.2.2.2.1 (hE.2.2.2.2.2.1 _ hl0) (fun _ h => h) hd (k2 p e s m args below meth c D cA ad A H locs ls hE hP hD hS hl)
theorem z_strL {v : Int32} (i : Nat) (hd : decode cc pc = .ok (.arraylength, 1)) (hi : i < 2) (hv : Int32.ofNat (zsl.getD i 0) = v) (k : WA Ly l own cc nL ret kd r S1 (pc + 1) lo (.int v :: st) S) : WA Ly l own cc nL ret kd r S1 pc lo (.ref (1010 + i) :: st) S := by
  intro p e s m args below meth c D cA ad A H locs ls hE hP hD hS hl
  exact va_tlen hE.1 hE.2.1 (hE.2.2.2.2.2.2.2.2.2.1.1 i hi).2.2.2 hS hv hd (k p e s m args below meth c D cA ad A H locs ls hE hP hD hS hl)
theorem z_strB {j : Int32} (i : Nat) (hd : decode cc pc = .ok (.baload, 1)) (hi : i < 2) (hin : ¬ (j < 0 ∨ zsl.getD i 0 ≤ j.toNatClampNeg)) (k : WA Ly l own cc nL ret kd r S1 (pc + 1) lo (.int (zsby i j) :: st) S) : WA Ly l own cc nL ret kd r S1 pc lo (.int j :: .ref (1010 + i) :: st) S := by
  intro p e s m args below meth c D cA ad A H locs ls hE hP hD hS hl
  exact va_tb hE.1 hE.2.1 (hE.2.2.2.2.2.2.2.2.2.1.1 i hi).2.2.2 hS hin rfl hd (k p e s m args below meth c D cA ad A H locs ls hE hP hD hS hl)
theorem z_bret {x : Int32} {ty : FieldType} (hd : decode cc pc = .ok (.ireturn, 1)) (hn : narrow ty (.int x) = .int x) : WA Ly l own cc nL (some ty) kd (some (.int x)) S pc lo [.int x] S := by
  intro p e s m args below meth c D cA ad A H locs ls hE hP hD hS hl
  exact W.zret (v := x) hE.1 hE.2.1 hE.2.2.1 hn (fun t ht hW => ⟨⟨rfl, by rw [ht]; exact hP, va_K.moved hW.alike hE.2.2.2.2.2.2.2.1⟩, hS.F ht⟩) hS.2.2 hd hE.2.2.2.2.2.2.1
theorem z_callVS {y : MethodName} {cc' : ByteArray} {nL' n kd' idx : Nat} {ret' : Option FieldType} {x : Int32} (i : Nat) (as : List Value) (hd : decode cc pc = .ok (.invokevirtual idx, 3)) (hl0 : Cond.methodLink own idx y ∈ ztbl) (hm : zMv y cc' nL' ret' n) (hk : kd' + 1 ≤ kd) (hi : i < 2) (hC : y.cls = "java/lang/String")
    (hc : zMet Ly l y cc' nL' ret' kd' (.ref (1000 + i) :: as) S (some (.int x)) S2) (hn : as.length = n) (hst : st0 = as.reverse ++ .ref (1000 + i) :: st) (hw : (st.map fun v => v.category).sum ≤ 8) (k : WA Ly l own cc nL ret kd r S1 (pc + 3) lo (.int x :: st) S2) : WA Ly l own cc nL ret kd r S1 pc lo st0 S := by
  intro p e s m args below meth c D cA ad A H locs ls hE hP hD hS hl
  obtain ⟨m1, m2, m3, m4, m5, m6⟩ := hm
  have hts := hE.2.2.2.2.2.1
  have hK := hE.2.2.2.2.2.2.2.1
  have hF : ∀ q, va_A (zw Ly cA ad S) H.size q → A q := fun q h => by
    rcases h with ⟨k, e, h⟩ | h
    · exact hD.2 k _ h
    · exact hE.2.2.2.2.2.2.2.2.1 q (Nat.le_trans hS.1 h)
  have hg : GoodIn ztbl (wsV own idx y.cls y (Cond.code y cc' nL' ret' :: ztbl)) := zgood fun w h => by
    simp only [wsV, List.cons_append, List.nil_append, List.mem_cons] at h
    rcases h with rfl | rfl | rfl | rfl | rfl | h
    · exact hl0
    · exact m1
    · exact m2
    · exact m3
    · exact m4
    · exact h
  have hrec : ∃ cell : Cell, H[ad (1000 + i)]? = some cell ∧ cell.vm.isStatics = false ∧ s.vm.findClass y.cls = some cell.cls := by
    rw [hC]
    exact vk_recv (adK := fun i => ad (1000 + i)) (i := i) hE.2.2.2.2.2.2.2.2.2.1 hi hS
  have hcall := va_runV (l := l) (e := e) (R := zrm kd) (below := below) (meth := meth) (H := H) (locs := locs) (cells := 0) (slots := 0) (g := F0 m pc ls (st0.map (zv ad))) (As := as.map (zv ad)) (rest := st.map (zv ad)) (b := ad (1000 + i)) ⟨hE.1, hE.2.1, hE.2.2.2.1, hE.2.2.2.2.1, hts⟩ (hc D cA ad H.size)
    (cwV n hts hg rfl rfl rfl ⟨rfl, m5⟩ ⟨hk, by show 8 + (nL' + 11) + 40 * kd' ≤ 40 * kd; omega⟩) ⟨zblind, hrec, fun U hU hW => ⟨rfl, by rw [hU], ⟨by rw [hU]; exact hP, va_K.moved hW.alike hK, hD.weaken (fun _ _ _ _ => trivial)⟩, by rw [hU]; exact zX.call hE.2.2.2.2.2.2.2.2.2 hS hW hF⟩⟩ rfl (by rw [List.length_map]; exact hn) hl.1 (by rw [hst]; simp [zv]) (lv_room (by rw [zcats]; exact hw)) hd ⟨Nat.le_refl _, Nat.le_refl _⟩
  refine z_run hcall hS (fun q _ h => hF q h) hF (fun H1 locs1 hP1 hS1 => ?_)
  exact k p e s m args below meth c D cA ad A H1 locs1 ls hE hP1 (zw_D hD) hS1 hl
end ZSTR
abbrev zchr (x : Int32) : Prop := x.toUInt32.toUInt16.toUInt32.toInt32 = x
abbrev zbyt (x : Int32) : Prop := x.toInt8.toInt32 = x
theorem zchr_n {x : Int32} (h : zchr x) : narrow .char (.int x) = .int x := by
  show Value.int (x.toUInt32.toUInt16.toUInt32.toInt32) = _
  rw [h]
theorem zbyt_n {x : Int32} (h : zbyt x) : narrow .byte (.int x) = .int x := by
  show Value.int (x.toInt8.toInt32) = _
  rw [h]
