/-! ===== names, on both sides ===== -/
def nmOk (base cnt : Nat) (X M : zS) : Prop := base + cnt ≤ 19 ∧ (∀ i, i < cnt → wr (X.2 3 (base + i)) (M.2 2 (base + i))) ∧ ∀ i j, i < j → j < cnt → ¬ M.2 2 (base + i) = M.2 2 (base + j)
theorem nmOk_y {base cnt : Nat} {X M X' M' : zS} (h : nmOk base cnt X M) (h1 : yX X X') (h2 : yM M M') : nmOk base cnt X' M' := by
  obtain ⟨a, b, c⟩ := h
  refine ⟨a, fun i hi => ?_, fun i j hi hj => ?_⟩
  · rw [h1.2.2 3 _ (Or.inl rfl), h2.2.2]; exact b i hi
  · rw [h2.2.2, h2.2.2]; exact c i j hi hj
theorem fnX0 {base cnt : Nat} {X : zS} (hb : base + cnt ≤ 19) : ∀ (m k q : Nat), k + m = cnt → m < q → (∀ i, k ≤ i → i < cnt → ¬ X.2 3 (base + i) = X.2 2 8) → f_X7_findName_2_L2 q (nI base) (nI cnt) (nI k) X = some (-1, X) := by
  intro m
  induction m with
  | zero =>
    intro k q hk hq _
    obtain ⟨q, rfl⟩ : ∃ k, q = k + 1 := ⟨q - 1, by omega⟩
    rw [f_X7_findName_2_L2, if_neg (nI_nlt (by omega) (by omega))]
  | succ m ih =>
    intro k q hk hq h
    obtain ⟨q, rfl⟩ : ∃ k, q = k + 1 := ⟨q - 1, by omega⟩
    rw [f_X7_findName_2_L2, if_pos (nI_lt (by omega) (by omega)), zlet_def, nI_add, if_neg (nI_not_neg (by omega)), if_pos (show nI (base + k) < 19 from nI_lt (b := 19) (by omega) (by omega)), if_pos (zinN (by omega) (by omega)), nI_clamp (by omega), if_neg (fun z => h k (by omega) (by omega) ((lg_cmp_eq _ _).mp z)), zlet_def, nI_1]
    exact ih (k + 1) q (by omega) (by omega) (fun i h1 h2 => h i (by omega) h2)
theorem fnX1 {base cnt i : Nat} {X : zS} (hb : base + cnt ≤ 19) (hi : i < cnt) (he : X.2 3 (base + i) = X.2 2 8) : ∀ (m k q : Nat), k + m = i → m < q → (∀ j, k ≤ j → j < i → ¬ X.2 3 (base + j) = X.2 2 8) → f_X7_findName_2_L2 q (nI base) (nI cnt) (nI k) X = some (nI i, X) := by
  intro m
  induction m with
  | zero =>
    intro k q hk hq _
    obtain ⟨q, rfl⟩ : ∃ k, q = k + 1 := ⟨q - 1, by omega⟩
    have : k = i := by omega
    subst this
    rw [f_X7_findName_2_L2, if_pos (nI_lt (by omega) (by omega)), zlet_def, nI_add, if_neg (nI_not_neg (by omega)), if_pos (show nI (base + k) < 19 from nI_lt (b := 19) (by omega) (by omega)), if_pos (zinN (by omega) (by omega)), nI_clamp (by omega), if_pos ((lg_cmp_eq _ _).mpr he)]
  | succ m ih =>
    intro k q hk hq h
    obtain ⟨q, rfl⟩ : ∃ k, q = k + 1 := ⟨q - 1, by omega⟩
    rw [f_X7_findName_2_L2, if_pos (nI_lt (by omega) (by omega)), zlet_def, nI_add, if_neg (nI_not_neg (by omega)), if_pos (show nI (base + k) < 19 from nI_lt (b := 19) (by omega) (by omega)), if_pos (zinN (by omega) (by omega)), nI_clamp (by omega), if_neg (fun z => h k (by omega) (by omega) ((lg_cmp_eq _ _).mp z)), zlet_def, nI_1]
    exact ih (k + 1) q (by omega) (by omega) (fun i h1 h2 => h i (by omega) h2)
theorem fnM0 {base cnt : Nat} {M : zS} (hb : base + cnt ≤ 19) {x3 : Int32} : ∀ (m k q : Nat), k + m = cnt → m < q → (∀ i, k ≤ i → i < cnt → ¬ M.2 2 (base + i) = M.2 0 9) → f_X12_find_L5 q (nI base) (nI cnt) x3 (nI k) M = some (x3, M) := by
  intro m
  induction m with
  | zero =>
    intro k q hk hq _
    obtain ⟨q, rfl⟩ : ∃ k, q = k + 1 := ⟨q - 1, by omega⟩
    rw [f_X12_find_L5, if_neg (nI_nlt (by omega) (by omega))]
  | succ m ih =>
    intro k q hk hq h
    obtain ⟨q, rfl⟩ : ∃ k, q = k + 1 := ⟨q - 1, by omega⟩
    rw [f_X12_find_L5, if_pos (nI_lt (by omega) (by omega)), nI_add, if_pos (zinN (by omega) (by omega)), nI_clamp (by omega), if_neg (fun z => h k (by omega) (by omega) ((lg_cmp_eq _ _).mp z)), zlet_def, nI_1]
    exact ih (k + 1) q (by omega) (by omega) (fun i h1 h2 => h i (by omega) h2)
theorem fnM1 {base cnt i : Nat} {M : zS} (hb : base + cnt ≤ 19) (hi : i < cnt) (he : M.2 2 (base + i) = M.2 0 9) (hu : ∀ j, j < cnt → j ≠ i → ¬ M.2 2 (base + j) = M.2 0 9) {x3 : Int32} : ∀ (m k q : Nat), k + m = i → m + 20 < q → f_X12_find_L5 q (nI base) (nI cnt) x3 (nI k) M = some (nI i, M) := by
  intro m
  induction m with
  | zero =>
    intro k q hk hq
    obtain ⟨q, rfl⟩ : ∃ k, q = k + 1 := ⟨q - 1, by omega⟩
    have : k = i := by omega
    subst this
    rw [f_X12_find_L5, if_pos (nI_lt (by omega) (by omega)), nI_add, if_pos (zinN (by omega) (by omega)), nI_clamp (by omega), if_pos ((lg_cmp_eq _ _).mpr he), zlet_def, nI_1]
    exact fnM0 hb (cnt - (k + 1)) (k + 1) q (by omega) (by omega) (fun j h1 h2 => hu j h2 (by omega))
  | succ m ih =>
    intro k q hk hq
    obtain ⟨q, rfl⟩ : ∃ k, q = k + 1 := ⟨q - 1, by omega⟩
    rw [f_X12_find_L5, if_pos (nI_lt (by omega) (by omega)), nI_add, if_pos (zinN (by omega) (by omega)), nI_clamp (by omega), if_neg (fun z => hu k (by omega) (by omega) ((lg_cmp_eq _ _).mp z)), zlet_def, nI_1]
    exact ih (k + 1) q (by omega) (by omega)
theorem findC {base cnt : Nat} {X M : zS} (h : nmOk base cnt X M) (hw : wr (X.2 2 8) (M.2 0 9)) : (f_X7_findName_2 (nI base) (nI cnt) X = some (-1, X) ∧ f_X12_find (nI base) (nI cnt) M = some (-1, M) ∧ ∀ i, i < cnt → ¬ M.2 2 (base + i) = M.2 0 9) ∨ ∃ i, i < cnt ∧ f_X7_findName_2 (nI base) (nI cnt) X = some (nI i, X) ∧ f_X12_find (nI base) (nI cnt) M = some (nI i, M) := by
  obtain ⟨hb, h1, h2⟩ := h
  have hzN : zN = 10000 := rfl
  have hiff : ∀ i, i < cnt → (X.2 3 (base + i) = X.2 2 8 ↔ M.2 2 (base + i) = M.2 0 9) := fun i hi => wr_eq (h1 i hi) hw
  by_cases hex : ∃ i, i < cnt ∧ M.2 2 (base + i) = M.2 0 9
  · right
    obtain ⟨i, hi, he⟩ := hex
    have hu : ∀ j, j < cnt → j ≠ i → ¬ M.2 2 (base + j) = M.2 0 9 := fun j hj hne z => by
      rcases Nat.lt_or_gt_of_ne hne with hlt | hlt
      · exact h2 j i hlt hi (z.trans he.symm)
      · exact h2 i j hlt hj (he.trans z.symm)
    refine ⟨i, hi, ?_, ?_⟩
    · exact fnX1 hb hi ((hiff i hi).mpr he) i 0 zN (by omega) (by omega) (fun j _ hj z => hu j (by omega) (by omega) ((hiff j (by omega)).mp z))
    · exact fnM1 hb hi he hu i 0 zN (by omega) (by omega)
  · left
    have hno : ∀ i, i < cnt → ¬ M.2 2 (base + i) = M.2 0 9 := fun i hi z => hex ⟨i, hi, z⟩
    exact ⟨fnX0 hb cnt 0 zN (by omega) (by omega) (fun i _ hi z => hno i hi ((hiff i hi).mp z)), fnM0 hb cnt 0 zN (by omega) (by omega) (fun i _ hi => hno i hi), hno⟩
/-- a name that was told before; ahead of the token behind it -/
theorem oldC {cb : Nat → Nat} {n q base cnt : Nat} {X M : zS} (h : cur cb n q X M) (hn : nmOk base cnt X M) : (∃ X' M' q' i, f_X7_takeKnown_2 (nI base) (nI cnt) X = some (1, X') ∧ f_X12_oldName (nI base) (nI cnt) M = some (nI i, M) ∧ f_X12_token M = some M' ∧ i < cnt ∧ X'.1 2 11 = nI i ∧ yX X X' ∧ yM M M' ∧ cur cb n q' X' M' ∧ q < q') ∨ ∃ X' M', f_X7_takeKnown_2 (nI base) (nI cnt) X = some (0, X') ∧ f_X12_oldName (nI base) (nI cnt) M = some (0, M') ∧ bad X M X' M' := by
  have hb := hn.1
  unfold f_X7_takeKnown_2 f_X12_oldName
  rw [nameBX, zb_def, z01, if_neg (cur_nf h), nameBM h.2.1, zb_def, z01]
  by_cases hw : X.1 2 6 = 1 ∧ X.1 2 7 = -1
  · rw [if_pos hw, if_pos hw]
    obtain ⟨hwr, -⟩ := (tk_word h.2.1).2 hw.1
    rcases findC hn hwr with ⟨g1, g2, -⟩ | ⟨i, hi, g1, g2⟩
    · right
      rw [g1, zb_def, zlet_def, g2, zb_def, if_pos (show (-1 : Int32) < 0 by decide)]
      have h' : cur cb n q (zput X 2 11 (-1)) M := cur_11 h
      obtain ⟨X', M', e1, e2, e3⟩ := refuseK h' (by rw [zput1_eq, upd_ne _ _ _ _ (by decide), hw.1]; decide) (e := 5) (by omega)
      unfold f_X12_oldName_B38
      rw [show (zput X 2 11 (-1)).1 2 11 = -1 by rw [zput1_eq, upd_at], if_pos rfl, show f_X7_refuse_2 5 ((zput X 2 11 (-1)).1 2 4) (zput X 2 11 (-1)) = _ from e1, zb_def, if_pos znb0, show f_X12_wrong 5 M = _ from e2, zu_def, if_pos (flt_pos e3.1).1]
      exact ⟨X', M', rfl, rfl, bad_y yX_11 (yM_rfl M) e3⟩
    · left
      have h' : cur cb n q (zput X 2 11 (nI i)) M := cur_11 h
      obtain ⟨X', M', q', e1, e2, e3, e4, e5, -, e6, e7⟩ := stepC h' (by rw [zput1_eq, upd_ne _ _ _ _ (by decide), hw.1]; decide)
      unfold f_X12_oldName_B38
      rw [g1, zb_def, zlet_def, g2, zb_def, if_neg (nI_not_neg (by omega)), show (zput X 2 11 (nI i)).1 2 11 = nI i by rw [zput1_eq, upd_at], if_neg (nI_neg1 (by omega)), e1, zu_def, if_neg (cur_nf h), g2, zb_def]
      exact ⟨X', M', q', i, rfl, rfl, e2, hi, by rw [e7, zput1_eq, upd_at], yX_trans yX_11 e3, e4, e5, e6 (by rw [zput1_eq, upd_ne _ _ _ _ (by decide), hw.1]; decide)⟩
  · right
    obtain ⟨X', M', e1, e2, e3⟩ := refuseC h
    unfold f_X12_oldName_B38
    rw [if_neg hw, if_neg hw, e1, zb_def, if_pos znb0, e2, zu_def, if_pos (flt_pos e3.1).1]
    exact ⟨X', M', rfl, rfl, e3⟩
/-- a word, and a name behind it, if the word is there -/
theorem behC {cb : Nat → Nat} {n q k base cnt : Nat} {X M : zS} (h : cur cb n q X M) (hk : k < 24) (hn : nmOk base cnt X M) : (¬ (X.1 2 6 = 1 ∧ X.1 2 7 = nI k) ∧ f_X12_nameBehind (rwM.getD k 0) (nI base) (nI cnt) M = some (-1, M)) ∨ ((X.1 2 6 = 1 ∧ X.1 2 7 = nI k) ∧ ∃ X1, f_X7_step_2 X = some X1 ∧ yX X X1 ∧ ((∃ X' M' q' i, f_X7_takeKnown_2 (nI base) (nI cnt) X1 = some (1, X') ∧ f_X12_nameBehind (rwM.getD k 0) (nI base) (nI cnt) M = some (nI i, M') ∧ i < cnt ∧ X'.1 2 11 = nI i ∧ yX X X' ∧ yM M M' ∧ cur cb n q' X' M' ∧ q < q') ∨ ∃ X' M' r, f_X7_takeKnown_2 (nI base) (nI cnt) X1 = some (0, X') ∧ f_X12_nameBehind (rwM.getD k 0) (nI base) (nI cnt) M = some (r, M') ∧ bad X M X' M')) := by
  unfold f_X12_nameBehind
  rw [if_neg (cur_nf h), wordBM h.2.1 hk, zb_def, z01]
  by_cases hw : X.1 2 6 = 1 ∧ X.1 2 7 = nI k
  · right
    rw [if_pos hw]
    obtain ⟨X1, M1, q1, e1, e2, e3, e4, e5, -, e6, -⟩ := stepC h (by rw [hw.1]; decide)
    have hq := e6 (by rw [hw.1]; decide)
    refine ⟨hw, X1, e1, e3, ?_⟩
    rw [e2, zu_def]
    rcases oldC e5 (nmOk_y hn e3 e4) with ⟨X', M', q', i, g1, g2, g3, g4, g5, g6, g7, g8, g9⟩ | ⟨X', M', g1, g2, g3⟩
    · left
      rw [g2, zb_def, if_pos e5.2.2.2.2.1, g3, zu_def]
      exact ⟨X', M', q', i, g1, rfl, g4, g5, yX_trans e3 g6, yM_trans e4 g7, g8, by omega⟩
    · right
      rw [g2, zb_def, if_neg (flt_pos g3.1).2]
      exact ⟨X', M', 0, g1, rfl, bad_y e3 e4 g3⟩
  · left
    rw [if_neg hw]
    exact ⟨hw, rfl⟩
/-- a new name: the line's first word, the name, the token behind it -/
theorem newC {cb : Nat → Nat} {n q base cnt most : Nat} {X M : zS} (h : cur cb n q X M) (hg : X.1 2 6 = 1) (hn : nmOk base cnt X M) (hc : cnt < most) (hm : most ≤ 8) (hb : base + cnt < 19) : (∃ X' M' q' x m, f_X7_beginSort_2 (nI base) (nI cnt) (nI most) X = some (1, X') ∧ f_X12_newName (nI base) (nI cnt) M = some M' ∧ wr x m ∧ (∀ i, i < cnt → ¬ M.2 2 (base + i) = m) ∧ yX (zputL X 3 (base + cnt) x) X' ∧ yM (zputL M 2 (base + cnt) m) M' ∧ cur cb n q' X' M' ∧ q < q') ∨ ∃ X' M', f_X7_beginSort_2 (nI base) (nI cnt) (nI most) X = some (0, X') ∧ f_X12_newName (nI base) (nI cnt) M = some M' ∧ bad X M X' M' := by
  obtain ⟨X1, M1, q1, e1, e2, e3, e4, e5, -, e6, -⟩ := stepC h (by rw [hg]; decide)
  have hq := e6 (by rw [hg]; decide)
  have hn1 := nmOk_y hn e3 e4
  unfold f_X7_beginSort_2 f_X12_newName
  rw [if_pos (nI_lt hc (by omega)), e1, zu_def, nameBX, zb_def, z01, e2, zu_def, nameBM e5.2.1, zb_def, z01]
  by_cases hw : X1.1 2 6 = 1 ∧ X1.1 2 7 = -1
  · rw [if_pos hw, if_pos hw]
    obtain ⟨hwr, -⟩ := (tk_word e5.2.1).2 hw.1
    rcases findC hn1 hwr with ⟨g1, g2, g3⟩ | ⟨i, hi, g1, g2⟩
    · left
      have h2 : cur cb n q1 (zputL X1 3 (base + cnt) (X1.2 2 8)) (zputL M1 2 (base + cnt) (M1.2 0 9)) := by
        obtain ⟨⟨t1, t2, t3, t4, t5⟩, ⟨b, hk⟩, h0, h1, h2, h3⟩ := e5
        refine ⟨⟨t1, t2, t3, t4, fun i hi => ?_⟩, ⟨b, ?_⟩, h0, h1, h2, h3⟩
        · rw [zputL2, if_neg (by omega)]; exact t5 i hi
        · rw [zputL2, zputL2, if_neg (by omega), if_neg (by omega)]; exact hk
      obtain ⟨X', M', q', a1, a2, a3, a4, a5, -, a6, -⟩ := stepC h2 (by show ¬ X1.1 2 6 = 4; rw [hw.1]; decide)
      have hq2 := a6 (by show ¬ X1.1 2 6 = 0; rw [hw.1]; decide)
      unfold f_X7_beginSort_2_B77 f_X12_newName_B33
      rw [g1, zb_def, if_pos rfl, zlet_def, nI_add, if_neg (nI_not_neg (by omega)), if_pos (show nI (base + cnt) < 19 from nI_lt (b := 19) hb (by omega)), if_pos (zinN (by omega) (by omega)), zlet_def]
      simp only [nI_clamp (show base + cnt < 2 ^ 31 by omega)]
      rw [a1, zu_def, g2, zb_def, if_pos (show (-1 : Int32) < 0 by decide), if_neg (cur_nf e5), if_pos (zinN (by omega) (by omega)), zlet_def, a2, zu_def]
      refine ⟨X', M', q', X1.2 2 8, M1.2 0 9, rfl, rfl, hwr, fun i hi => ?_, ?_, ?_, a5, by omega⟩
      · rw [← e4.2.2]; exact g3 i hi
      · refine yX_trans (T := zputL X1 3 (base + cnt) (X1.2 2 8)) ⟨e3.1, e3.2.1, fun k i hk => ?_⟩ a3
        rw [zputL2, zputL2]
        by_cases hki : k = 3 ∧ i = base + cnt
        · rw [if_pos hki, if_pos hki]
        · rw [if_neg hki, if_neg hki]; exact e3.2.2 k i hk
      · refine yM_trans (T := zputL M1 2 (base + cnt) (M1.2 0 9)) ⟨e4.1, e4.2.1, fun i => ?_⟩ a4
        rw [zputL2, zputL2]
        by_cases hki : (2 : Nat) = 2 ∧ i = base + cnt
        · rw [if_pos hki, if_pos hki]
        · rw [if_neg hki, if_neg hki]; exact e4.2.2 i
    · right
      obtain ⟨X', M', a1, a2, a3⟩ := refuseK e5 (by rw [hw.1]; decide) (e := 3) (by omega)
      unfold f_X12_newName_B33
      rw [g1, zb_def, if_neg (nI_neg1 (by omega)), show f_X7_refuse_2 3 (X1.1 2 4) X1 = _ from a1, zb_def, if_pos znb0, g2, zb_def, if_neg (nI_not_neg (by omega)), show f_X12_wrong 3 M1 = _ from a2, zu_def, if_pos (flt_pos a3.1).1]
      exact ⟨X', M', rfl, rfl, bad_y e3 e4 a3⟩
  · right
    obtain ⟨X', M', a1, a2, a3⟩ := refuseC e5
    unfold f_X12_newName_B33
    rw [if_neg hw, if_neg hw, a1, zb_def, if_pos znb0, a2, zu_def, if_pos (flt_pos a3.1).1]
    exact ⟨X', M', rfl, rfl, bad_y e3 e4 a3⟩
