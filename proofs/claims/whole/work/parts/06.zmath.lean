/-! Math.max, min, abs and System.arraycopy -/
section ZM
variable {Ly : List zC} {l : Launch} {own : String} {cc : ByteArray} {nL : Nat} {ret : Option FieldType} {kd : Nat} {r : Option Value} {S1 S S2 : zS} {pc : Nat} {lo lo' : List (Nat × Value)} {st st0 : List Value}
def zmax (x y : Int32) : Int32 := if x < y then y else x
def zmin (x y : Int32) : Int32 := if y < x then y else x
def zabs (x : Int32) : Int32 := if 0 ≤ x then x else 0 - x
theorem z_max {idx : Nat} {x y : Int32} (hd : decode cc pc = .ok (.invokestatic idx, 3)) (h1 : Cond.methodLink own idx Lib.Math.max.name ∈ ztbl) (h2 : Cond.static Lib.Math.max.name ∈ ztbl) (h3 : Cond.initialized "java/lang/Math" ∈ ztbl) (h4 : Cond.code Lib.Math.max.name Lib.Math.max.code 2 (some .int) ∈ ztbl) (hk : 1 ≤ kd) (hw : (st.map fun v => v.category).sum ≤ 8)
    (k : WA Ly l own cc nL ret kd r S1 (pc + 3) lo (.int (zmax x y) :: st) S) : WA Ly l own cc nL ret kd r S1 pc lo (.int y :: .int x :: st) S := by
  intro p e s m args below meth c D cA ad A H locs ls hE hP hD hS hl
  have hts := hE.2.2.2.2.2.1
  exact va_mmax hE.1 hE.2.1 (hE.2.2.2.1.trans hl.1.symm) hE.2.2.2.2.1 (hts _ h1) (hts _ h2) (hts _ h3) (hts _ h4) hk (by rw [zcats]; show _ ≤ 40 * kd; omega) (Nat.zero_le _) (Nat.zero_le _) hd (k p e s m args below meth c D cA ad A H locs ls hE hP hD hS hl)
theorem z_min {idx : Nat} {x y : Int32} (hd : decode cc pc = .ok (.invokestatic idx, 3)) (h1 : Cond.methodLink own idx Lib.Math.min.name ∈ ztbl) (h2 : Cond.static Lib.Math.min.name ∈ ztbl) (h3 : Cond.initialized "java/lang/Math" ∈ ztbl) (h4 : Cond.code Lib.Math.min.name Lib.Math.min.code 2 (some .int) ∈ ztbl) (hk : 1 ≤ kd) (hw : (st.map fun v => v.category).sum ≤ 8)
    (k : WA Ly l own cc nL ret kd r S1 (pc + 3) lo (.int (zmin x y) :: st) S) : WA Ly l own cc nL ret kd r S1 pc lo (.int y :: .int x :: st) S := by
  intro p e s m args below meth c D cA ad A H locs ls hE hP hD hS hl
  have hts := hE.2.2.2.2.2.1
  exact va_mmin hE.1 hE.2.1 (hE.2.2.2.1.trans hl.1.symm) hE.2.2.2.2.1 (hts _ h1) (hts _ h2) (hts _ h3) (hts _ h4) hk (by rw [zcats]; show _ ≤ 40 * kd; omega) (Nat.zero_le _) (Nat.zero_le _) hd (k p e s m args below meth c D cA ad A H locs ls hE hP hD hS hl)
theorem z_abs {idx : Nat} {x : Int32} (hd : decode cc pc = .ok (.invokestatic idx, 3)) (h1 : Cond.methodLink own idx Lib.Math.abs.name ∈ ztbl) (h2 : Cond.static Lib.Math.abs.name ∈ ztbl) (h3 : Cond.initialized "java/lang/Math" ∈ ztbl) (h4 : Cond.code Lib.Math.abs.name Lib.Math.abs.code 1 (some .int) ∈ ztbl) (hk : 1 ≤ kd) (hw : (st.map fun v => v.category).sum ≤ 8)
    (k : WA Ly l own cc nL ret kd r S1 (pc + 3) lo (.int (zabs x) :: st) S) : WA Ly l own cc nL ret kd r S1 pc lo (.int x :: st) S := by
  intro p e s m args below meth c D cA ad A H locs ls hE hP hD hS hl
  have hts := hE.2.2.2.2.2.1
  exact va_mabs hE.1 hE.2.1 (hE.2.2.2.1.trans hl.1.symm) hE.2.2.2.2.1 (hts _ h1) (hts _ h2) (hts _ h3) (hts _ h4) hk (by rw [zcats]; show _ ≤ 40 * kd; omega) (Nat.zero_le _) (Nat.zero_le _) hd (k p e s m args below meth c D cA ad A H locs ls hE hP hD hS hl)
/-- the places of a copy are there -/
def zcin (sp dp n : Int32) (n0 n1 : Nat) : Prop := ¬ sp < 0 ∧ ¬ dp < 0 ∧ ¬ n < 0 ∧ sp.toNatClampNeg + n.toNatClampNeg ≤ n0 ∧ dp.toNatClampNeg + n.toNatClampNeg ≤ n1
theorem z_copy {idx k0 k1 n0 n1 : Nat} {sp dp n : Int32} (hd : decode cc pc = .ok (.invokestatic idx, 3)) (h1 : Cond.methodLink own idx arraycopyName ∈ ztbl) (h2 : Cond.native arraycopyName ∈ ztbl) (h3 : Cond.static arraycopyName ∈ ztbl) (h4 : Cond.initialized "java/lang/System" ∈ ztbl) (g0 : Ly[k0]? = some (.inl (0, n0))) (g1 : Ly[k1]? = some (.inl (0, n1))) (hc : zcin sp dp n n0 n1) (hk : 1 ≤ kd) (hw : (st.map fun v => v.category).sum ≤ 8)
    (hS2 : S2 = zcpy S k0 k1 sp.toNatClampNeg dp.toNatClampNeg n.toNatClampNeg) (kk : WA Ly l own cc nL ret kd r S1 (pc + 3) lo st S2) : WA Ly l own cc nL ret kd r S1 pc lo (.int n :: .int dp :: .ref k1 :: .int sp :: .ref k0 :: st) S := by
  intro p e s m args below meth c D cA ad A H locs ls hE hP hD hS hl
  have hts := hE.2.2.2.2.2.1
  subst hS2
  refine va_copyi hE.1 hE.2.1 (hE.2.2.2.1.trans hl.1.symm) hE.2.2.2.2.1 (hts _ h1) (hts _ h2) (hts _ h3) (hts _ h4) hE.2.2.2.2.2.2.2.1 hP hD hS k0 k1 0 0 (zw_at g0) (zw_at g1) rfl rfl rfl hc.1 hc.2.1 hc.2.2.1 hc.2.2.2.1 hc.2.2.2.2 (fun _ _ => rfl) hk (by rw [zcats]; show _ + (5 + 11) ≤ 40 * kd; omega) hd (fun H1 locs1 hP1 hD1 hS1 => ?_)
  have e2 : (zw Ly cA ad S).set k1 (ad k1, .inl (cA 0, n1, .inl (va_cpy (S.1 k0) (S.1 k1) sp.toNatClampNeg dp.toNatClampNeg n.toNatClampNeg))) = zw Ly cA ad (zcpy S k0 k1 sp.toNatClampNeg dp.toNatClampNeg n.toNatClampNeg) := zw_set g1 (by rw [zcpy_s]; rfl) (zcpy_o S k0 k1 _ _ _)
  have hP2 : va_P D vwCl ((zw Ly cA ad S).set k1 (ad k1, .inl (cA 0, n1, .inl (va_cpy (S.1 k0) (S.1 k1) sp.toNatClampNeg dp.toNatClampNeg n.toNatClampNeg)))) H1 := hP1
  have hD2 : va_D A ((zw Ly cA ad S).set k1 (ad k1, .inl (cA 0, n1, .inl (va_cpy (S.1 k0) (S.1 k1) sp.toNatClampNeg dp.toNatClampNeg n.toNatClampNeg)))) := hD1
  rw [e2] at hP2 hD2
  exact kk p e s m args below meth c D cA ad A H1 locs1 ls hE hP2 hD2 hS1 hl
end ZM
