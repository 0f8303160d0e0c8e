/-- all that is owed of the two systems' methods -/
def zOps (Rel : zS → zS → Prop) : Prop := zSt5 Rel f_X11_feed f_X12_feed ∧ zSt1 Rel f_X11_end f_X12_end ∧ zStH Rel ∧ zSt1 Rel f_X11_fault f_X12_fault ∧ zSt2 Rel f_X11_bill f_X12_bill ∧ zSt2 Rel f_X11_stake f_X12_stake ∧ zSt1 Rel f_X11_law f_X12_law ∧ zSt0 Rel f_X11_stands f_X12_stands ∧ zSt1 Rel f_X11_falls f_X12_falls ∧ zSt5 Rel f_X11_lay f_X12_lay ∧ zSt3 Rel f_X11_repeal f_X12_repeal ∧ zSt1 Rel f_X11_pull f_X12_pull ∧ zSt2 Rel f_X11_trim f_X12_trim ∧ zSt0 Rel f_X11_year f_X12_year ∧ zSt0 Rel f_X11_undo f_X12_undo ∧ zSt0 Rel f_X11_redo f_X12_redo ∧ zSt2 Rel f_X11_will f_X12_will ∧ zSt1 Rel f_X11_lapse f_X12_lapse ∧ zSt1 Rel f_X11_dies f_X12_dies ∧ zSt1 Rel f_X11_living f_X12_living ∧ zSt0 Rel f_X11_clashes f_X12_clashes ∧ zSt1 Rel f_X11_weed f_X12_weed ∧ zSt3 Rel f_X11_places f_X12_places ∧ zSt0 Rel f_X11_gaps f_X12_gaps ∧ zSt0 Rel f_X11_widest f_X12_widest ∧ zSt1 Rel f_X11_closes f_X12_closes ∧ zSt2 Rel f_X11_walk f_X12_walk ∧ zSt2 Rel f_X11_plan f_X12_plan ∧ zSt1 Rel f_X11_joy f_X12_joy ∧ zSt0 Rel f_X11_saddest f_X12_saddest ∧ zSt0 Rel f_X11_game f_X12_game ∧ zSt1 Rel f_X11_lies f_X12_lies ∧ zStR Rel ∧ zSt1 Rel f_X11_untell f_X12_untell ∧ zSt1 Rel f_X11_later f_X12_later ∧ zSt1 Rel f_X11_orders f_X12_orders ∧ zSt2 Rel f_X11_sure f_X12_sure ∧ zSt2 Rel f_X11_ask f_X12_ask ∧ zSt1 Rel f_X11_image f_X12_image ∧ zSt1 Rel f_X11_back f_X12_back ∧ zSt1 Rel f_X11_about f_X12_about
set_option maxRecDepth 100000 in
/-- THE LAW'S LOOP -/
theorem law_loop (l : Launch) {b L : Nat} {xs : Nat → Int32} {Rel : zS → zS → Prop} (ho : zOps Rel) (hL : L ≤ 3072) : ∀ (n i : Nat), i ≤ L + 6 → L < i + n → ∀ (Sx Sm : zS), Rel Sx Sm → WL l b L xs 18 (nI i) [] (zcat 67 Sx Sm) := by
  intro n
  induction n with
  | zero =>
    intro i h1 h2 Sx Sm hR
    have hgt : nI L - nI 6 < nI i := by
      rw [Int32.lt_iff_toInt_lt, pk_sub_toInt (by omega) (by omega), nI_toInt (by omega)]
      omega
    refine g_iload_n (pc := 18) (q := 3) dL_law_18 rfl rfl ?_
    refine g_aload_n (pc := 19) (q := 0) dL_law_19 rfl rfl ?_
    refine gl_slen (pc := 20) dL_law_20 ?_
    refine g_bipush (pc := 21) (v := 6) dL_law_21 zcb_6 ?_
    refine g_isub (pc := 23) dL_law_23 ?_
    refine g_icmp_gt (pc := 24) (tgt := 1297) dL_law_24 (by decide) (fun _ => ?_) (fun c => absurd hgt c)
    refine g_iconst (pc := 1297) (v := 1) dL_law_1297 zci_1 ?_
    exact gl_ret dL_law_1298 (by decide) (by decide)
  | succ n ih =>
    intro i h1 h2 Sx Sm hR
    refine g_iload_n (pc := 18) (q := 3) dL_law_18 rfl rfl ?_
    refine g_aload_n (pc := 19) (q := 0) dL_law_19 rfl rfl ?_
    refine gl_slen (pc := 20) dL_law_20 ?_
    refine g_bipush (pc := 21) (v := 6) dL_law_21 zcb_6 ?_
    refine g_isub (pc := 23) dL_law_23 ?_
    refine g_icmp_gt (pc := 24) (tgt := 1297) dL_law_24 (by decide) (fun _ => ?_) (fun c => ?_)
    · refine g_iconst (pc := 1297) (v := 1) dL_law_1297 zci_1 ?_
      exact gl_ret dL_law_1298 (by decide) (by decide)
    · have hi : i + 6 ≤ L := by
        have c2 : ¬ nI L - nI 6 < nI i := c
        rw [Int32.lt_iff_toInt_lt, pk_sub_toInt (by omega) (by omega), nI_toInt (by omega)] at c2
        omega
      have hb0 : zin (nI i) L := vp_in_nI (by omega) (by omega)
      have hbk : ∀ k : Nat, k < 6 → zin (nI i + nI k) L := fun k hk => by
        rw [nI_add]
        exact vp_in_nI (by omega) (by omega)
      have hb1 : zin (nI i + 1) L := hbk 1 (by omega)
      have hb2 : zin (nI i + 2) L := hbk 2 (by omega)
      have hb3 : zin (nI i + 3) L := hbk 3 (by omega)
      have hb4 : zin (nI i + 4) L := hbk 4 (by omega)
      have hb5 : zin (nI i + 5) L := hbk 5 (by omega)
      have hK : ∀ Sx' Sm', Rel Sx' Sm' → WL l b L xs 1291 (nI i) [] (zcat 67 Sx' Sm') := by
        intro Sx' Sm' hR'
        refine g_iinc (pc := 1291) (q := 3) (v := nI (i + 6)) (lo' := [(3, .int (nI (i + 6))), (0, .ref 950), (1, .ref 0), (2, .ref 67)]) dL_law_1291 rfl (by rw [show Int32.ofInt 6 = nI 6 by decide]; exact nI_add i 6) (by decide) rfl ?_
        refine g_goto (pc := 1294) (tgt := 18) dL_law_1294 (by decide) ?_
        exact g_sub [1, 2, 3, 0] rfl (ih (i + 6) (by omega) (by omega) Sx' Sm' hR')
      refine g_aload_n (pc := 27) (q := 0) dL_law_27 rfl rfl ?_
      refine g_iload_n (pc := 28) (q := 3) dL_law_28 rfl rfl ?_
      refine gl_sld (pc := 29) dL_law_29 hb0 ?_
      refine g_bipush (pc := 30) (v := 63) dL_law_30 zcb_63 ?_
      refine g_iand (pc := 32) dL_law_32 ?_
      refine g_tsw (pc := 33) 1291 [(0, 212), (1, 275), (2, 298), (3, 311), (4, 334), (5, 367), (6, 400), (7, 423), (8, 436), (9, 459), (10, 522), (11, 565), (12, 588), (13, 621), (14, 634), (15, 647), (16, 660), (17, 693), (18, 716), (19, 739), (20, 762), (21, 775), (22, 798), (23, 841), (24, 854), (25, 867), (26, 890), (27, 923), (28, 956), (29, 979), (30, 992), (31, 1005), (32, 1028), (33, 1087), (34, 1110), (35, 1133), (36, 1156), (37, 1189), (38, 1222), (39, 1245), (40, 1268)] dL_law_33 (by decide) (by decide +kernel) (by decide +kernel) ?_
      refine zsw_c (fun _ => lawc_0 l ho.1 hb1 hb2 hb3 hb4 hb5 hR hK) (fun _ => ?_)
      refine zsw_c (fun _ => lawc_1 l ho.2.1 hb1 hR hK) (fun _ => ?_)
      refine zsw_c (fun _ => lawc_2 l ho.2.2.1  hR hK) (fun _ => ?_)
      refine zsw_c (fun _ => lawc_3 l ho.2.2.2.1 hb1 hR hK) (fun _ => ?_)
      refine zsw_c (fun _ => lawc_4 l ho.2.2.2.2.1 hb1 hb2 hR hK) (fun _ => ?_)
      refine zsw_c (fun _ => lawc_5 l ho.2.2.2.2.2.1 hb1 hb2 hR hK) (fun _ => ?_)
      refine zsw_c (fun _ => lawc_6 l ho.2.2.2.2.2.2.1 hb1 hR hK) (fun _ => ?_)
      refine zsw_c (fun _ => lawc_7 l ho.2.2.2.2.2.2.2.1  hR hK) (fun _ => ?_)
      refine zsw_c (fun _ => lawc_8 l ho.2.2.2.2.2.2.2.2.1 hb1 hR hK) (fun _ => ?_)
      refine zsw_c (fun _ => lawc_9 l ho.2.2.2.2.2.2.2.2.2.1 hb1 hb2 hb3 hb4 hb5 hR hK) (fun _ => ?_)
      refine zsw_c (fun _ => lawc_10 l ho.2.2.2.2.2.2.2.2.2.2.1 hb1 hb2 hb3 hR hK) (fun _ => ?_)
      refine zsw_c (fun _ => lawc_11 l ho.2.2.2.2.2.2.2.2.2.2.2.1 hb1 hR hK) (fun _ => ?_)
      refine zsw_c (fun _ => lawc_12 l ho.2.2.2.2.2.2.2.2.2.2.2.2.1 hb1 hb2 hR hK) (fun _ => ?_)
      refine zsw_c (fun _ => lawc_13 l ho.2.2.2.2.2.2.2.2.2.2.2.2.2.1  hR hK) (fun _ => ?_)
      refine zsw_c (fun _ => lawc_14 l ho.2.2.2.2.2.2.2.2.2.2.2.2.2.2.1  hR hK) (fun _ => ?_)
      refine zsw_c (fun _ => lawc_15 l ho.2.2.2.2.2.2.2.2.2.2.2.2.2.2.2.1  hR hK) (fun _ => ?_)
      refine zsw_c (fun _ => lawc_16 l ho.2.2.2.2.2.2.2.2.2.2.2.2.2.2.2.2.1 hb1 hb2 hR hK) (fun _ => ?_)
      refine zsw_c (fun _ => lawc_17 l ho.2.2.2.2.2.2.2.2.2.2.2.2.2.2.2.2.2.1 hb1 hR hK) (fun _ => ?_)
      refine zsw_c (fun _ => lawc_18 l ho.2.2.2.2.2.2.2.2.2.2.2.2.2.2.2.2.2.2.1 hb1 hR hK) (fun _ => ?_)
      refine zsw_c (fun _ => lawc_19 l ho.2.2.2.2.2.2.2.2.2.2.2.2.2.2.2.2.2.2.2.1 hb1 hR hK) (fun _ => ?_)
      refine zsw_c (fun _ => lawc_20 l ho.2.2.2.2.2.2.2.2.2.2.2.2.2.2.2.2.2.2.2.2.1  hR hK) (fun _ => ?_)
      refine zsw_c (fun _ => lawc_21 l ho.2.2.2.2.2.2.2.2.2.2.2.2.2.2.2.2.2.2.2.2.2.1 hb1 hR hK) (fun _ => ?_)
      refine zsw_c (fun _ => lawc_22 l ho.2.2.2.2.2.2.2.2.2.2.2.2.2.2.2.2.2.2.2.2.2.2.1 hb1 hb2 hb3 hR hK) (fun _ => ?_)
      refine zsw_c (fun _ => lawc_23 l ho.2.2.2.2.2.2.2.2.2.2.2.2.2.2.2.2.2.2.2.2.2.2.2.1  hR hK) (fun _ => ?_)
      refine zsw_c (fun _ => lawc_24 l ho.2.2.2.2.2.2.2.2.2.2.2.2.2.2.2.2.2.2.2.2.2.2.2.2.1  hR hK) (fun _ => ?_)
      refine zsw_c (fun _ => lawc_25 l ho.2.2.2.2.2.2.2.2.2.2.2.2.2.2.2.2.2.2.2.2.2.2.2.2.2.1 hb1 hR hK) (fun _ => ?_)
      refine zsw_c (fun _ => lawc_26 l ho.2.2.2.2.2.2.2.2.2.2.2.2.2.2.2.2.2.2.2.2.2.2.2.2.2.2.1 hb1 hb2 hR hK) (fun _ => ?_)
      refine zsw_c (fun _ => lawc_27 l ho.2.2.2.2.2.2.2.2.2.2.2.2.2.2.2.2.2.2.2.2.2.2.2.2.2.2.2.1 hb1 hb2 hR hK) (fun _ => ?_)
      refine zsw_c (fun _ => lawc_28 l ho.2.2.2.2.2.2.2.2.2.2.2.2.2.2.2.2.2.2.2.2.2.2.2.2.2.2.2.2.1 hb1 hR hK) (fun _ => ?_)
      refine zsw_c (fun _ => lawc_29 l ho.2.2.2.2.2.2.2.2.2.2.2.2.2.2.2.2.2.2.2.2.2.2.2.2.2.2.2.2.2.1  hR hK) (fun _ => ?_)
      refine zsw_c (fun _ => lawc_30 l ho.2.2.2.2.2.2.2.2.2.2.2.2.2.2.2.2.2.2.2.2.2.2.2.2.2.2.2.2.2.2.1  hR hK) (fun _ => ?_)
      refine zsw_c (fun _ => lawc_31 l ho.2.2.2.2.2.2.2.2.2.2.2.2.2.2.2.2.2.2.2.2.2.2.2.2.2.2.2.2.2.2.2.1 hb1 hR hK) (fun _ => ?_)
      refine zsw_c (fun _ => lawc_32 l ho.2.2.2.2.2.2.2.2.2.2.2.2.2.2.2.2.2.2.2.2.2.2.2.2.2.2.2.2.2.2.2.2.1 hb1 hb2 hb3 hR hK) (fun _ => ?_)
      refine zsw_c (fun _ => lawc_33 l ho.2.2.2.2.2.2.2.2.2.2.2.2.2.2.2.2.2.2.2.2.2.2.2.2.2.2.2.2.2.2.2.2.2.1 hb1 hR hK) (fun _ => ?_)
      refine zsw_c (fun _ => lawc_34 l ho.2.2.2.2.2.2.2.2.2.2.2.2.2.2.2.2.2.2.2.2.2.2.2.2.2.2.2.2.2.2.2.2.2.2.1 hb1 hR hK) (fun _ => ?_)
      refine zsw_c (fun _ => lawc_35 l ho.2.2.2.2.2.2.2.2.2.2.2.2.2.2.2.2.2.2.2.2.2.2.2.2.2.2.2.2.2.2.2.2.2.2.2.1 hb1 hR hK) (fun _ => ?_)
      refine zsw_c (fun _ => lawc_36 l ho.2.2.2.2.2.2.2.2.2.2.2.2.2.2.2.2.2.2.2.2.2.2.2.2.2.2.2.2.2.2.2.2.2.2.2.2.1 hb1 hb2 hR hK) (fun _ => ?_)
      refine zsw_c (fun _ => lawc_37 l ho.2.2.2.2.2.2.2.2.2.2.2.2.2.2.2.2.2.2.2.2.2.2.2.2.2.2.2.2.2.2.2.2.2.2.2.2.2.1 hb1 hb2 hR hK) (fun _ => ?_)
      refine zsw_c (fun _ => lawc_38 l ho.2.2.2.2.2.2.2.2.2.2.2.2.2.2.2.2.2.2.2.2.2.2.2.2.2.2.2.2.2.2.2.2.2.2.2.2.2.2.1 hb1 hR hK) (fun _ => ?_)
      refine zsw_c (fun _ => lawc_39 l ho.2.2.2.2.2.2.2.2.2.2.2.2.2.2.2.2.2.2.2.2.2.2.2.2.2.2.2.2.2.2.2.2.2.2.2.2.2.2.2.1 hb1 hR hK) (fun _ => ?_)
      refine zsw_c (fun _ => lawc_40 l ho.2.2.2.2.2.2.2.2.2.2.2.2.2.2.2.2.2.2.2.2.2.2.2.2.2.2.2.2.2.2.2.2.2.2.2.2.2.2.2.2 hb1 hR hK) (fun _ => ?_)
      refine zsw_n ?_
      exact hK _ _ hR
theorem zarr_of {s : State} {args : Array Value} {ty : FieldType} (h : (Cond.arrayClass ty).before args s = true) : ∃ cA : ClassId, ArrOfT s cA ty ∧ s.vm.findClass ("[" ++ ty.toString) = some cA := by
  obtain ⟨cA, kA, comp, h1, h2, h3⟩ := Cond.arrayClass_spec h
  exact ⟨cA, fun n z => ⟨fun k h => (by cases h), kA, h2, comp, h3⟩, h1⟩

/-! the start: what the Statement gives, in the walk's words -/
def ztm (i : Nat) : Term := if i = 0 then .string "HedgeRecord$Reader" 243 else .string "HedgeRecord$Reader" 28
theorem zpre_len : ∀ i : Nat, i < 2 → zsl.getD i 0 < 2 ^ 31 := by decide
theorem zpre_ex : ∀ i : Nat, i < 2 → Cond.exactly (ztm i) "java/lang/String" ∈ flatC (Jvm.Cond.and given_1 narrow_1) := by decide +kernel
theorem zpre_co : ∀ i : Nat, i < 2 → Cond.eq (.field (ztm i) "java/lang/String" "coder" "B") (.int 0) ∈ flatC (Jvm.Cond.and given_1 narrow_1) := by decide +kernel
theorem zpre_ar : ∀ i : Nat, i < 2 → Cond.arrayOf (.field (ztm i) "java/lang/String" "value" "[B") .byte ∈ flatC (Jvm.Cond.and given_1 narrow_1) := by decide +kernel
theorem zpre_le : ∀ i : Nat, i < 2 → Cond.eq (.length (.field (ztm i) "java/lang/String" "value" "[B")) (.int (Int32.ofNat (zsl.getD i 0))) ∈ flatC (Jvm.Cond.and given_1 narrow_1) := by decide +kernel
theorem zpre_el : ∀ i : Nat, i < 2 → ∀ j : Nat, j < zsl.getD i 0 → Cond.eq (.elem (.field (ztm i) "java/lang/String" "value" "[B") (.int (Int32.ofNat j))) (.int ((zsb.getD i []).getD j 0)) ∈ flatC (Jvm.Cond.and given_1 narrow_1) := by decide +kernel
theorem zpre_ne : Cond.not (Cond.eq (ztm 1) (ztm 0)) ∈ flatC (Jvm.Cond.and given_1 narrow_1) := by decide +kernel
theorem zpre_cs : Cond.eq (.static "java/lang/String" "COMPACT_STRINGS" "Z") (.int 1) ∈ flatC (Jvm.Cond.and given_1 narrow_1) := by decide +kernel
theorem zpre_si : Cond.isRef (.static "jdk/internal/util/Preconditions" "SIOOBE_FORMATTER" "Ljava/util/function/BiFunction;") ∈ flatC (Jvm.Cond.and given_1 narrow_1) := by decide +kernel
theorem ztw0 : Cond.laysStatic "java/lang/String" "COMPACT_STRINGS" "Z" ∈ lw_tbl := List.mem_append_right _ (List.mem_append_left _ (List.mem_of_getElem? (i := 46) (by decide +kernel)))
theorem ztw1 : Cond.laysStatic "jdk/internal/util/Preconditions" "SIOOBE_FORMATTER" "Ljava/util/function/BiFunction;" ∈ lw_tbl := List.mem_append_right _ (List.mem_append_left _ (List.mem_of_getElem? (i := 62) (by decide +kernel)))
theorem ztw2 : Cond.initialized "java/lang/String" ∈ lw_tbl := List.mem_append_right _ (List.mem_append_left _ (List.mem_of_getElem? (i := 3) (by decide +kernel)))
theorem ztw3 : Cond.initialized "jdk/internal/util/Preconditions" ∈ lw_tbl := List.mem_append_right _ (List.mem_append_left _ (List.mem_of_getElem? (i := 5) (by decide +kernel)))
theorem ztw4 : Cond.stringRef "HedgeRecord$Reader" 243 zst0 ∈ lw_tbl := List.mem_append_right _ (List.mem_append_right _ (List.mem_append_right _ (List.mem_append_left _ (List.mem_of_getElem? (i := 70) (by decide +kernel)))))
theorem ztw5 : Cond.stringRef "HedgeRecord$Reader" 28 zst1 ∈ lw_tbl := List.mem_append_right _ (List.mem_append_left _ (List.mem_of_getElem? (i := 36) (by decide +kernel)))
theorem zstart_X {s : State} {b : Nat} (hts : ∀ w ∈ lw_tbl, w.before #[Value.ref b] s = true) (hgv : (Jvm.Cond.and given_1 narrow_1).before #[Value.ref b] s = true) {A : Nat → Prop} (hA : ∀ a : Nat, a < s.heap.size → ¬ A a) : ∃ ad : Nat → Nat, ad 950 = b ∧ zX ad A s s.heap := by
  have hf := flat_of_before _ hgv
  obtain ⟨adK, adV, hv, htm⟩ := vk_Sof (s := s) (args := #[Value.ref b]) (N := 2) (tm := ztm) (len := zsl) (byt := zsb) (A := A) zpre_len (fun i hi => hf _ (zpre_ex i hi)) (fun i hi => hf _ (zpre_co i hi)) (fun i hi => hf _ (zpre_ar i hi)) (fun i hi => hf _ (zpre_le i hi)) (fun i hi j hj => hf _ (zpre_el i hi j hj)) (fun i j hi hj hne => by
    match i, j, hi, hj, hne with
    | 0, 0, _, _, h => exact absurd rfl h
    | 1, 1, _, _, h => exact absurd rfl h
    | 0, 1, _, _, _ => exact Or.inr (hf _ zpre_ne)
    | 1, 0, _, _, _ => exact Or.inl (hf _ zpre_ne)) hA
  have hcs := va_Zof (hts _ ztw0) (hts _ ztw2) (va_eqt (hf _ zpre_cs)) hA
  have hsi := va_Zqof (hts _ ztw1) (hts _ ztw3) (hf _ zpre_si) hA
  obtain ⟨t, ht⟩ : ∃ t : Nat, va_Z "jdk/internal/util/Preconditions" "SIOOBE_FORMATTER" "Ljava/util/function/BiFunction;" .null A s s.heap ∨ va_Z "jdk/internal/util/Preconditions" "SIOOBE_FORMATTER" "Ljava/util/function/BiFunction;" (.ref t) A s s.heap := by
    rcases hsi with h | ⟨t, h⟩
    · exact ⟨0, Or.inl h⟩
    · exact ⟨t, Or.inr h⟩
  refine ⟨fun i => if i = 950 then b else if i = 1020 then t else if i < 1010 then adK (i - 1000) else adV (i - 1010), rfl, ?_, hcs, vk_R.of (hts _ ztw4) ?_, vk_R.of (hts _ ztw5) ?_, ht⟩
  · obtain ⟨g1, g2⟩ := hv
    refine ⟨fun i hi => ?_, fun i j hi hj e => ?_⟩
    · have e1 : (if 1000 + i = 950 then b else if 1000 + i = 1020 then t else if 1000 + i < 1010 then adK (1000 + i - 1000) else adV (1000 + i - 1010)) = adK i := by
        rw [if_neg (by omega), if_neg (by omega), if_pos (by omega), show 1000 + i - 1000 = i by omega]
      have e2 : (if 1010 + i = 950 then b else if 1010 + i = 1020 then t else if 1010 + i < 1010 then adK (1010 + i - 1000) else adV (1010 + i - 1010)) = adV i := by
        rw [if_neg (by omega), if_neg (by omega), if_neg (by omega), show 1010 + i - 1010 = i by omega]
      show va_O _ (if 1000 + i = 950 then b else if 1000 + i = 1020 then t else if 1000 + i < 1010 then adK (1000 + i - 1000) else adV (1000 + i - 1010)) _ _ _ ∧ va_OF _ _ _ _ (if 1000 + i = 950 then b else if 1000 + i = 1020 then t else if 1000 + i < 1010 then adK (1000 + i - 1000) else adV (1000 + i - 1010)) _ _ _ ∧ va_OF _ _ _ (.ref (if 1010 + i = 950 then b else if 1010 + i = 1020 then t else if 1010 + i < 1010 then adK (1010 + i - 1000) else adV (1010 + i - 1010))) (if 1000 + i = 950 then b else if 1000 + i = 1020 then t else if 1000 + i < 1010 then adK (1000 + i - 1000) else adV (1000 + i - 1010)) _ _ _ ∧ va_T _ (if 1010 + i = 950 then b else if 1010 + i = 1020 then t else if 1010 + i < 1010 then adK (1010 + i - 1000) else adV (1010 + i - 1010)) _ _ _ _ _
      rw [e1, e2]
      exact g1 i hi
    · refine g2 i j hi hj ?_
      have e : (if 1000 + i = 950 then b else if 1000 + i = 1020 then t else if 1000 + i < 1010 then adK (1000 + i - 1000) else adV (1000 + i - 1010)) = (if 1000 + j = 950 then b else if 1000 + j = 1020 then t else if 1000 + j < 1010 then adK (1000 + j - 1000) else adV (1000 + j - 1010)) := e
      rw [if_neg (by omega), if_neg (by omega), if_pos (by omega), if_neg (by omega), if_neg (by omega), if_pos (by omega), show 1000 + i - 1000 = i by omega, show 1000 + j - 1000 = j by omega] at e
      exact e
  · exact htm 0 (by omega)
  · exact htm 1 (by omega)
set_option maxRecDepth 100000 in
set_option maxHeartbeats 4000000 in
/-- the law from its entry, given what ties the two stores together -/
theorem whole_open (Rel : zS → zS → Prop) (ho : zOps Rel) (h0 : Rel zSX2 zI_X12_init_3) {p : Program} {e : Env} {s : State} {m : MethodId} {below : List Frame} {meth : Method} {c : Code} (l : Launch) {b L : Nat} {xs : Nat → Int32} (hL : L ≤ 3072) (C0 : lw_At p s m meth c b L xs) : W p l e room_1 s m #[Value.ref b] below meth c s.heap [] 0 0 (lw_Z below #[Value.ref b] s) (entryFrame m ([Value.ref b] : List Value).toArray 4) := by
  obtain ⟨hx, hb, hr, hml, hown, hts, hX, hbl, hlocks, hgv⟩ := id C0
  have hA : ∀ q : Nat, s.heap.size ≤ q → (fun q : Nat => s.heap.size ≤ q) q := fun _ h => h
  have hbA : ¬ (fun q : Nat => s.heap.size ≤ q) b := Nat.not_le.mpr hbl
  obtain ⟨ad, had, hzX⟩ := zstart_X hts hgv (A := fun q : Nat => s.heap.size ≤ q) (fun a h => Nat.not_le.mpr h)
  have hts2 : ∀ w ∈ ztbl, w.before #[Value.ref b] s = true := fun w hw => hts w (List.mem_filter.mp hw).1
  obtain ⟨c0, iS0, hKn0⟩ := u_known (C := RX0) (T := TX0) (N := 4) (n := 4) hts2 zcw_X0 (hts2 _ zin_X0)
  obtain ⟨c1, iS1, hKn1⟩ := u_known (C := RX1) (T := TX1) (N := 7) (n := 7) hts2 zcw_X1 (hts2 _ zin_X1)
  obtain ⟨c2, iS2, hKn2⟩ := u_known (C := RX2) (T := TX2) (N := 5) (n := 5) hts2 zcw_X2 (hts2 _ zin_X2)
  obtain ⟨c3, iS3, hKn3⟩ := u_known (C := RX3) (T := TX3) (N := 5) (n := 5) hts2 zcw_X3 (hts2 _ zin_X3)
  obtain ⟨c4, iS4, hKn4⟩ := u_known (C := RX4) (T := TX4) (N := 14) (n := 14) hts2 zcw_X4 (hts2 _ zin_X4)
  obtain ⟨c5, iS5, hKn5⟩ := u_known (C := RX5) (T := TX5) (N := 2) (n := 2) hts2 zcw_X5 (hts2 _ zin_X5)
  obtain ⟨c6, iS6, hKn6⟩ := u_known (C := RX6) (T := TX6) (N := 5) (n := 5) hts2 zcw_X6 (hts2 _ zin_X6)
  obtain ⟨c7, iS7, hKn7⟩ := u_known (C := RX7) (T := TX7) (N := 14) (n := 14) hts2 zcw_X7 (hts2 _ zin_X7)
  obtain ⟨c8, iS8, hKn8⟩ := u_known (C := RX8) (T := TX8) (N := 6) (n := 6) hts2 zcw_X8 (hts2 _ zin_X8)
  obtain ⟨c9, iS9, hKn9⟩ := u_known (C := RX9) (T := TX9) (N := 8) (n := 8) hts2 zcw_X9 (hts2 _ zin_X9)
  obtain ⟨c10, iS10, hKn10⟩ := u_known (C := RX10) (T := TX10) (N := 1) (n := 1) hts2 zcw_X10 (hts2 _ zin_X10)
  obtain ⟨c11, iS11, hKn11⟩ := u_known (C := RX11) (T := TX11) (N := 16) (n := 16) hts2 zcw_X11 (hts2 _ zin_X11)
  obtain ⟨c12, iS12, hKn12⟩ := u_known (C := RX12) (T := TX12) (N := 79) (n := 79) hts2 zcw_X12 (hts2 _ zin_X12)
  obtain ⟨dC, dI, hKc⟩ : ∃ (dC : Nat → ClassId) (dI : Nat → Nat → Nat), ∀ (k : Nat) (q : vw_C), vwCl[k]? = some q → u_Kn s q.1 q.2.1 q.2.2 (dC k) (dI k) := by
    refine ⟨fun k => if k = 0 then c0 else if k = 1 then c1 else if k = 2 then c2 else if k = 3 then c3 else if k = 4 then c4 else if k = 5 then c5 else if k = 6 then c6 else if k = 7 then c7 else if k = 8 then c8 else if k = 9 then c9 else if k = 10 then c10 else if k = 11 then c11 else c12, fun k => if k = 0 then iS0 else if k = 1 then iS1 else if k = 2 then iS2 else if k = 3 then iS3 else if k = 4 then iS4 else if k = 5 then iS5 else if k = 6 then iS6 else if k = 7 then iS7 else if k = 8 then iS8 else if k = 9 then iS9 else if k = 10 then iS10 else if k = 11 then iS11 else iS12, ?_⟩
    intro k q hq
    match k, hq with
    | 0, hq => cases hq; exact hKn0
    | 1, hq => cases hq; exact hKn1
    | 2, hq => cases hq; exact hKn2
    | 3, hq => cases hq; exact hKn3
    | 4, hq => cases hq; exact hKn4
    | 5, hq => cases hq; exact hKn5
    | 6, hq => cases hq; exact hKn6
    | 7, hq => cases hq; exact hKn7
    | 8, hq => cases hq; exact hKn8
    | 9, hq => cases hq; exact hKn9
    | 10, hq => cases hq; exact hKn10
    | 11, hq => cases hq; exact hKn11
    | 12, hq => cases hq; exact hKn12
    | k + 13, hq => simp [vwCl] at hq
  have har : ∀ (ty : FieldType), Cond.arrayClass ty ∈ ztbl → ∃ cA : ClassId, ArrOfT s cA ty ∧ s.vm.findClass ("[" ++ ty.toString) = some cA := fun ty hty => zarr_of (hts2 _ hty)
  obtain ⟨a0, g0, f0⟩ := har .int zarr_int
  obtain ⟨a1, g1, f1⟩ := har .long zarr_long
  obtain ⟨a2, g2, f2⟩ := har .byte zarr_byte
  obtain ⟨a3, g3, f3⟩ := har .boolean zarr_boolean
  have hK : va_K (dC, dI) vwCl (ztys (fun t => if t = 0 then a0 else if t = 1 then a1 else if t = 2 then a2 else a3)) s := by
    refine ⟨hKc, fun k q h => ?_⟩
    match k, h with
    | 0, h => cases h; exact ⟨g0, f0⟩
    | 1, h => cases h; exact ⟨g1, f1⟩
    | 2, h => cases h; exact ⟨g2, f2⟩
    | 3, h => cases h; exact ⟨g3, f3⟩
    | k + 4, h => simp [ztys] at h
  have hl := lv_entry ([.ref b]) (n := 4) (Nat.le_of_ble_eq_true rfl)
  rw [lg_entry_eq]
  have hw : WG [] l RL cL_law 4 ret room_1 0 false (zEX b L xs) zLZ 0 0 0 [(0, .ref 950)] [] zS0 := by
    refine g_new (pc := 0) (ci := 11) (ks := zk_X11_init_0) (k := 0) (st := []) tyX11 dL_law_0 rfl zcw_X11 tyX11_ok zcl_L_7 zin_X11 zini_X11 (by decide +kernel) rfl (Nat.le_of_ble_eq_true rfl) (Nat.le_of_ble_eq_true rfl) rfl rfl rfl rfl (by decide) (by decide) (zclr_id rfl rfl).symm ?_
    refine g_ly (Ly2 := [.inr (11, zk_X11_init_0)]) rfl ?_
    refine g_dup (pc := 3) dL_law_3 rfl ?_
    refine g_ctor (pc := 4) (ext := 0) (k := 0) (Lp := []) (Ly2 := [] ++ zLX.map (zshC 0 0)) (st := [.ref 0]) (S2 := zcat 0 zS0 zSX2) [] dL_law_4 zm_L_9 zMc_X11_init ⟨by decide, by decide⟩ ⟨by decide, by decide⟩ (c_X11_init l) rfl rfl rfl ⟨rfl, rfl⟩ rfl rfl rfl rfl rfl (by decide) (Or.inr rfl) (by decide) rfl rfl (Nat.le_of_ble_eq_true rfl) rfl rfl ?_
    rw [zcat_0]
    refine g_ly (Ly2 := zLX) rfl ?_
    refine g_astore_n (pc := 7) (lo' := [(1, .ref 0), (0, .ref 950)]) dL_law_7 rfl (by decide) rfl ?_
    refine g_new (pc := 8) (ci := 12) (ks := zk_X12_init_0) (k := 67) (st := []) tyX12 dL_law_8 rfl zcw_X12 tyX12_ok zcl_L_10 zin_X12 zini_X12 (by decide +kernel) rfl (Nat.le_of_ble_eq_true rfl) (Nat.le_of_ble_eq_true rfl) rfl rfl rfl rfl (by decide) (by decide) rfl ?_
    refine g_dup (pc := 11) dL_law_11 rfl ?_
    refine g_ctor (pc := 12) (ext := 0) (k := 67) (Lp := zLX) (Ly2 := zLC) (st := [.ref 67]) (S2 := zcat 67 (zclr zSX2 67) zI_X12_init_3) [] dL_law_12 zm_L_12 zMc_X12_init ⟨by decide, by decide⟩ ⟨by decide, by decide⟩ (c_X12_init l) rfl rfl rfl ⟨rfl, rfl⟩ rfl rfl rfl rfl rfl (by decide) (Or.inl (by decide)) (by decide) rfl rfl (Nat.le_of_ble_eq_true rfl) rfl rfl ?_
    rw [zcat_clr]
    refine g_astore_n (pc := 15) (lo' := [(2, .ref 67), (1, .ref 0), (0, .ref 950)]) dL_law_15 rfl (by decide) rfl ?_
    refine g_iconst (pc := 16) (v := 0) dL_law_16 zci_0 ?_
    refine g_istore_n (pc := 17) (lo' := [(3, .int 0), (2, .ref 67), (1, .ref 0), (0, .ref 950)]) dL_law_17 rfl (by decide) rfl ?_
    exact g_sub [3, 2, 1, 0] rfl (law_loop l ho hL (L + 1) 0 (by omega) (by omega) zSX2 zI_X12_init_3 h0)
  have hlo : zlo ad [(0, .ref 950)] = [(0, .ref b)] := by simp [zlo, zv, had]
  exact hw p e s m #[Value.ref b] below meth c (dC, dI) (fun t => if t = 0 then a0 else if t = 1 then a1 else if t = 2 then a2 else a3) ad ad (fun q : Nat => s.heap.size ≤ q) s.heap [] _ ⟨hx, hb, hr, hml, hown, hts2, hlocks, hK, hA, hzX⟩ (fun _ _ => rfl) (fun h => nomatch h) ⟨hX, hbl, hbA, had, fun _ h => h⟩ (fun k q h => by simp [zw] at h) ⟨fun i j p q h => by simp [zw] at h, fun k q h => by simp [zw] at h⟩ va_S.rf (by rw [hlo]; exact hl)
