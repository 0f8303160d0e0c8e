/-! ===== reading along the hedge ===== -/
theorem foldN_shift {α : Type} (g : α → Nat → α) : ∀ (m b : Nat) (a : α), foldN g (b + 1) m a = foldN (fun acc i => g acc (i + 1)) b m a
  | 0, _, _ => rfl
  | m + 1, b, a => foldN_shift g m (b + 1) (g a (b + 1))
theorem foldN_getD {α : Type} (G : α → Nat → α) : ∀ (l : List Nat) (a : α), foldN (fun acc i => G acc (l.getD i 0)) 0 l.length a = l.foldl G a
  | [], _ => rfl
  | x :: l, a => by
    show foldN (fun acc i => G acc ((x :: l).getD i 0)) 1 l.length (G a ((x :: l).getD 0 0)) = l.foldl G (G a x)
    rw [foldN_shift]
    exact foldN_getD G l (G a x)
theorem foldN_range {α : Type} (g : α → Nat → α) : ∀ (n : Nat) (a : α), (List.range n).foldl g a = foldN g 0 n a
  | 0, _ => rfl
  | n + 1, a => by
    rw [List.range_succ, List.foldl_append, foldN_range g n a, foldN_snoc, Nat.zero_add]
    rfl
theorem filter_or {α : Type} (p q : α → Bool) : ∀ (l : List α), (∀ x ∈ l, ¬ (p x = true ∧ q x = true)) → (l.filter (fun x => p x || q x)).length = (l.filter p).length + (l.filter q).length
  | [], _ => rfl
  | x :: l, h => by
    have ih := filter_or p q l (fun y hy => h y (List.mem_cons_of_mem _ hy))
    have hx := h x List.mem_cons_self
    cases hp : p x <;> cases hq : q x
    · simp [List.filter_cons, hp, hq, ih]
    · simp [List.filter_cons, hp, hq, ih]; omega
    · simp [List.filter_cons, hp, hq, ih]; omega
    · exact absurd ⟨hp, hq⟩ hx
theorem ordF_len {sk : Nat → Int32} (h : ∀ b, b < 12 → ∃ s : Nat, s < 12 ∧ sk b = nI s) : (ordF sk).length = 12 := by
  have key : ∀ m, m ≤ 12 → ((List.range m).flatMap (fun s => (List.range 12).filter (fun b => sk b = nI s))).length = ((List.range 12).filter (fun b => (List.range m).any (fun s => decide (sk b = nI s)))).length := by
    intro m
    induction m with
    | zero =>
      intro _
      rw [List.filter_eq_nil_iff.mpr (fun b _ => by simp)]
      rfl
    | succ m ih =>
      intro hm
      rw [List.range_succ (n := m), List.flatMap_append, List.length_append, ih (by omega)]
      have e : (fun b => (List.range m ++ [m]).any (fun s => decide (sk b = nI s))) = fun b => ((List.range m).any (fun s => decide (sk b = nI s)) || decide (sk b = nI m)) := by
        funext b
        simp
      rw [e, filter_or]
      · simp
      · rintro b hb ⟨h1, h2⟩
        simp only [List.any_eq_true, List.mem_range, decide_eq_true_eq] at h1 h2
        obtain ⟨s, hs, h1⟩ := h1
        have := (nI_eq (by omega) (by omega)).mp (h1.symm.trans h2)
        omega
  rw [ordF, key 12 (Nat.le_refl _), List.filter_eq_self.mpr]
  · exact List.length_range
  · intro b hb
    obtain ⟨s, hs, e⟩ := h b (List.mem_range.mp hb)
    simp only [List.any_eq_true, List.mem_range, decide_eq_true_eq]
    exact ⟨s, hs, e⟩
theorem ordF_lt (sk : Nat → Int32) (i : Nat) : (ordF sk).getD i 0 < 12 := by
  by_cases h : i < (ordF sk).length
  · rw [List.getD_eq_getElem?_getD, List.getElem?_eq_getElem h]
    show (ordF sk)[i] < 12
    have := List.getElem_mem h
    simp only [ordF, List.mem_flatMap, List.mem_filter, List.mem_range] at this
    obtain ⟨s, -, hb, -⟩ := this
    exact hb
  · rw [List.getD_eq_getElem?_getD, List.getElem?_eq_none (by omega)]
    decide
/-- reading the hedge: stake by stake, bill by bill -/
def rd {α : Type} (sk : Nat → Int32) (G : α → Nat → α) (a : α) : α := foldN (fun acc s => foldN (fun acc b => if sk b = nI s then G acc b else acc) 0 12 acc) 0 12 a
theorem ord_fold {α : Type} {sk : Nat → Int32} (h : ∀ b, b < 12 → ∃ s : Nat, s < 12 ∧ sk b = nI s) (G : α → Nat → α) (a : α) : foldN (fun acc i => G acc ((ordF sk).getD i 0)) 0 12 a = rd sk G a := by
  have := foldN_getD G (ordF sk) a
  rw [ordF_len h] at this
  rw [this, ordF, List.foldl_flatMap, foldN_range]
  unfold rd
  refine foldN_congr 12 0 a fun acc s _ _ => ?_
  rw [List.foldl_filter, foldN_range]
  refine foldN_congr 12 0 acc fun acc b _ _ => ?_
  simp
theorem rd_id {α : Type} {sk : Nat → Int32} {G : α → Nat → α} (h : ∀ acc b, b < 12 → G acc b = acc) (a : α) : rd sk G a = a := foldN_id 12 0 a fun acc s _ _ => foldN_id 12 0 acc fun acc b _ hb => by
  rw [h acc b (by omega), ite_self]
def rdN {α : Type} (N : Nat → Int32) (st c : Nat) (G : α → Nat → α) (a : α) : α := foldN (fun acc s => foldN (fun acc b => if N (8 * b + 2) = nI s then G acc b else acc) 0 c acc) 0 st a
theorem rd_eq {α : Type} {sk N : Nat → Int32} {st c : Nat} {G : α → Nat → α} (hst : st ≤ 12) (hc : c ≤ 12) (h1 : ∀ b, b < c → sk b = N (8 * b + 2)) (h2 : ∀ b, b < c → ∃ s : Nat, s < st ∧ N (8 * b + 2) = nI s) (hG : ∀ acc b, c ≤ b → b < 12 → G acc b = acc) (a : α) : rd sk G a = rdN N st c G a := by
  unfold rd rdN
  have e : (12 : Nat) = st + (12 - st) := by omega
  have hin : ∀ (s : Nat) (acc : α), foldN (fun acc b => if sk b = nI s then G acc b else acc) 0 12 acc = foldN (fun acc b => if N (8 * b + 2) = nI s then G acc b else acc) 0 c acc := fun s acc => by
    have e : (12 : Nat) = c + (12 - c) := by omega
    conv => lhs; rw [e]
    rw [foldN_add, Nat.zero_add, foldN_id (12 - c) c]
    · exact foldN_congr c 0 acc fun acc b _ hb => by rw [h1 b (by omega)]
    · intro acc b hb hb2
      rw [hG acc b hb (by omega), ite_self]
  conv => lhs; rw [foldN_congr 12 0 a (fun acc s _ _ => hin s acc)]
  conv => lhs; rw [e]
  rw [foldN_add, Nat.zero_add, foldN_id (12 - st) st]
  intro acc s hs hs2
  refine foldN_id c 0 acc fun acc b _ hb => if_neg fun z => ?_
  obtain ⟨s', hs', e'⟩ := h2 b (by omega)
  have := (nI_eq (by omega) (by omega)).mp (e'.symm.trans z)
  omega
theorem rdN_congr {α : Type} {N N' : Nat → Int32} {st c : Nat} {G G' : α → Nat → α} (h1 : ∀ b, b < c → N (8 * b + 2) = N' (8 * b + 2)) (hG : ∀ acc b, b < c → G acc b = G' acc b) (a : α) : rdN N st c G a = rdN N' st c G' a := foldN_congr st 0 a fun acc s _ _ => foldN_congr c 0 acc fun acc b _ hb => by
  rw [h1 b (by omega), hG acc b (by omega)]
/-- one bill read: what the law of topic t is then -/
def lwF (x : Int32) (tp am sy : Nat → Int32) (t : Int32) (acc : Int32) (b : Nat) : Int32 := if bt x b = true ∧ tp b = t then (if am b < 0 then sy b else acc + sy b) else acc
/-- the law of topic t in a state, x standing -/
def lwN (N : Nat → Int32) (st c : Nat) (x t : Int32) : Int32 := rdN N st c (lwF x (fun b => N (8 * b + 4)) (fun b => N (8 * b + 6)) (fun b => N (8 * b + 5)) t) 0
theorem lawX {S : zS} {x : Int32} (hO : ∀ b, b < 12 → ∃ s : Nat, s < 12 ∧ S.1 14 b = nI s) (ho : (∀ i, i < 12 → S.1 20 i = nI ((ordF (S.1 14)).getD i 0)) ∨ x = 0) (t : Int32) : f_X1_lawOf_13 t x S = some (rd (S.1 14) (lwF x (S.1 16) (S.1 18) (S.1 17) t) 0, S) := by
  unfold f_X1_lawOf_13 f_X1_lawWithNew_13
  rw [if_pos (by decide)]
  rcases ho with ho | ho
  · have hh : f_X1_lawWithNew_13_L17 zN t x (-1) 0 0 1 0 S = _ := (loopN (f := fun n acc i S => f_X1_lawWithNew_13_L17 n t x (-1) 0 acc 1 i S) (S := S) (c := 12) (g := fun acc i => lwF x (S.1 16) (S.1 18) (S.1 17) t acc ((ordF (S.1 14)).getD i 0)) (fun n acc i hi => by
      have h12 : nI i < 12 := nI_lt (b := 12) hi (by omega)
      have hz : zin (nI i) 12 = True := zin_T hi (by omega)
      show f_X1_lawWithNew_13_L17 (n + 1) t x (-1) 0 acc 1 (nI i) S = _
      rw [f_X1_lawWithNew_13_L17]
      simp only [h12, hz, ↓reduceIte, zlet_def, nI_1, nI_clamp (show i < 2 ^ 31 by omega), ho i hi]
      have hb := ordF_lt (S.1 14) i
      generalize (ordF (S.1 14)).getD i 0 = b at hb ⊢
      have hb0 : ¬ nI b < 0 := nI_not_neg (by omega)
      have hb12 : nI b < 12 := nI_lt (b := 12) hb (by omega)
      have hzb : zin (nI b) 12 = True := zin_T hb (by omega)
      simp only [hb0, hb12, hzb, ↓reduceIte, b_ask0 x (show b < 31 by omega), nI_clamp (show b < 2 ^ 31 by omega), show ¬ (1 : Int32) = 0 by decide, f_X1_lawWithNew_13_B91, zlet_def, nI_1, lwF]
      by_cases hx : bt x b = true
      · by_cases ht : S.1 16 b = t
        · by_cases ha : S.1 18 b < 0
          · simp [hx, ht, ha]
          · simp [hx, ht, ha]
        · simp [hx, ht]
      · simp [hx]) (fun n acc => by
      show f_X1_lawWithNew_13_L17 (n + 1) t x (-1) 0 acc 1 (nI 12) S = _
      rw [f_X1_lawWithNew_13_L17, if_neg (by decide), if_neg (by decide)]) 12 0 zN 0 rfl (by decide))
    rw [hh, zb_def, ord_fold hO]
  · subst ho
    have hh : f_X1_lawWithNew_13_L17 zN t 0 (-1) 0 0 1 0 S = _ := (loopN (f := fun n acc i S => f_X1_lawWithNew_13_L17 n t 0 (-1) 0 acc 1 i S) (S := S) (c := 12) (g := fun acc i => acc) (fun n acc i hi => by
      have h12 : nI i < 12 := nI_lt (b := 12) hi (by omega)
      have hz : zin (nI i) 12 = True := zin_T hi (by omega)
      show f_X1_lawWithNew_13_L17 (n + 1) t 0 (-1) 0 acc 1 (nI i) S = _
      rw [f_X1_lawWithNew_13_L17]
      simp only [h12, hz, ↓reduceIte, zlet_def, nI_1, nI_clamp (show i < 2 ^ 31 by omega)]
      have e0 : ∀ y : Int32, ((0 : Int32) >>> (y &&& 31)) &&& 1 = 0 := fun y => by
        have : (0 : Int32) >>> (y &&& 31) = 0 := by
          rw [← Int32.toBitVec_inj, Int32.toBitVec_shiftRight]
          exact BitVec.zero_sshiftRight
        rw [this]
        decide
      simp only [e0, ↓reduceIte, ite_self]) (fun n acc => by
      show f_X1_lawWithNew_13_L17 (n + 1) t 0 (-1) 0 acc 1 (nI 12) S = _
      rw [f_X1_lawWithNew_13_L17, if_neg (by decide), if_neg (by decide)]) 12 0 zN 0 rfl (by decide))
    rw [hh, zb_def, foldN_id 12 0 0 (fun _ _ _ _ => rfl), rd_id (fun acc b _ => by unfold lwF; rw [b_0]; simp)]
theorem lawM {S : zS} {st c : Nat} (hst : st ≤ 12) (p2 : S.1 0 42 = nI st) (hc : c ≤ 12) (e : S.1 20 96 = nI c) (t : Int32) : f_X12_lawOf t S = some (lwN (S.1 20) st c (stdN (S.1 20) c) t, S) := by
  unfold f_X12_lawOf
  rw [stdM hc e, zb_def]
  generalize stdN (S.1 20) c = x
  have hin : ∀ (K : Int32 → Int32 → Int32 → Int32 → zS → Option (Int32 × zS)) (s : Nat) (acc : Int32), f_X12_lawOf_L22 K zN t x acc (nI s) 0 S = K t x (foldN (fun acc b => if S.1 20 (8 * b + 2) = nI s then lwF x (fun b => S.1 20 (8 * b + 4)) (fun b => S.1 20 (8 * b + 6)) (fun b => S.1 20 (8 * b + 5)) t acc b else acc) 0 c acc) (nI (s + 1)) S := by
    intro K s acc
    refine loopP (f := fun n acc b => f_X12_lawOf_L22 K n t x acc (nI s) (nI b) S) (out := fun acc => K t x acc (nI (s + 1)) S) (c := c) (fun n acc b hb => ?_) (fun n acc => ?_) c 0 zN acc (by omega) (by show c < 10000; omega)
    · have h1 : nI b < nI c := nI_lt hb (by omega)
      show f_X12_lawOf_L22 K (n + 1) t x acc (nI s) (nI b) S = _
      rw [f_X12_lawOf_L22, billsM e, zb_def, if_pos h1]
      simp only [b_ask0 x (show b < 31 by omega), of2 (S := S) (show b < 12 by omega), of4 (S := S) (show b < 12 by omega), of5 (S := S) (show b < 12 by omega), of6 (S := S) (show b < 12 by omega), zb_def, zlet_def, nI_1, lwF]
      by_cases hx : bt x b = true
      · by_cases hs : S.1 20 (8 * b + 2) = nI s
        · by_cases ht : S.1 20 (8 * b + 4) = t
          · by_cases ha : S.1 20 (8 * b + 6) < 0
            · simp [hx, hs, ht, ha]
            · simp [hx, hs, ht, ha]
          · simp [hx, hs, ht]
        · simp [hx, hs]
      · simp [hx]
    · show f_X12_lawOf_L22 K (n + 1) t x acc (nI s) (nI c) S = _
      rw [f_X12_lawOf_L22, billsM e, zb_def, if_neg (nI_nlt (Nat.le_refl c) (by omega)), zlet_def, nI_1]
  refine loopP (f := fun n acc s => f_X12_lawOf_L10 n t x acc (nI s) S) (out := fun acc => some (acc, S)) (c := st) (fun n acc s hs => ?_) (fun n acc => ?_) st 0 zN 0 (by omega) (by show st < 10000; omega)
  · show f_X12_lawOf_L10 (n + 1) t x acc (nI s) S = _
    rw [f_X12_lawOf_L10, p2, if_pos (nI_lt hs (by omega))]
    exact hin _ s acc
  · show f_X12_lawOf_L10 (n + 1) t x acc (nI st) S = _
    rw [f_X12_lawOf_L10, p2, if_neg (nI_nlt (Nat.le_refl st) (by omega))]
/-- the class's reading is the reference's -/
theorem law_rd {X14 X15 X16 X17 X18 X19 N : Nat → Int32} {st pl tp c : Nat} (hst : st ≤ 12) (hN : okN st pl tp c N) (hB : rB c N X14 X15 X16 X17 X18 X19) {x : Int32} (hx : ∀ i, i < 32 → c ≤ i → bt x i = false) (t : Int32) : rd X14 (lwF x X16 X18 X17 t) 0 = lwN N st c x t := by
  have hc := hN.1
  rw [rd_eq (N := N) hst hc (fun b hb => (hB b hb).1) (fun b hb => (hN.2.2.2.2 b hb).2.1) (fun acc b h1 h2 => by unfold lwF; rw [hx b (by omega) h1]; simp)]
  refine rdN_congr (fun b hb => rfl) (fun acc b hb => ?_) 0
  obtain ⟨b1, b2, b3, b4, b5, b6⟩ := hB b hb
  unfold lwF
  rw [b3, b4, b5]
theorem lwN_congr {N N' : Nat → Int32} {st c : Nat} (h : ∀ i, i < 99 → N i = N' i) (hc : c ≤ 12) (x t : Int32) : lwN N st c x t = lwN N' st c x t := rdN_congr (fun b hb => h _ (by omega)) (fun acc b hb => by
  simp only [lwF]
  rw [h (8 * b + 4) (by omega), h (8 * b + 5) (by omega), h (8 * b + 6) (by omega)]) 0
theorem isTopicX {tp : Nat} {S : zS} (ht : tp ≤ 4) (e : S.1 5 2 = nI tp) (x : Int32) : f_X11_isTopic x S = some (if ¬ x < 0 ∧ x < nI tp then 1 else 0, S) := by
  unfold f_X11_isTopic
  rw [e]
  by_cases c1 : x < 0
  · simp only [c1, not_true_eq_false, false_and, ↓reduceIte]
  · by_cases c2 : x < nI tp
    · have c3 : x < 4 := by
        obtain ⟨m, hm, rfl⟩ := nI_of c1
        have := (nI_ltI hm (by omega)).mp c2
        exact nI_lt (b := 4) (by omega) (by omega)
      simp only [c1, c2, c3, not_false_eq_true, and_self, ↓reduceIte]
    · simp only [c1, c2, and_false, ↓reduceIte]
theorem isPlantX {pl : Nat} {S : zS} (ht : pl ≤ 4) (e : S.1 5 1 = nI pl) (x : Int32) : f_X11_isPlant x S = some (if ¬ x < 0 ∧ x < nI pl then 1 else 0, S) := by
  unfold f_X11_isPlant
  rw [e]
  by_cases c1 : x < 0
  · simp only [c1, not_true_eq_false, false_and, ↓reduceIte]
  · by_cases c2 : x < nI pl
    · have c3 : x < 4 := by
        obtain ⟨m, hm, rfl⟩ := nI_of c1
        have := (nI_ltI hm (by omega)).mp c2
        exact nI_lt (b := 4) (by omega) (by omega)
      simp only [c1, c2, c3, not_false_eq_true, and_self, ↓reduceIte]
    · simp only [c1, c2, and_false, ↓reduceIte]
theorem isPartyX {pa : Nat} {S : zS} (ht : pa ≤ 3) (e : S.1 5 3 = nI pa) (x : Int32) : f_X11_isParty x S = some (if ¬ x < 0 ∧ x < nI pa then 1 else 0, S) := by
  unfold f_X11_isParty
  rw [e]
  by_cases c1 : x < 0
  · simp only [c1, not_true_eq_false, false_and, ↓reduceIte]
  · by_cases c2 : x < nI pa
    · have c3 : x < 3 := by
        obtain ⟨m, hm, rfl⟩ := nI_of c1
        have := (nI_ltI hm (by omega)).mp c2
        exact nI_lt (b := 3) (by omega) (by omega)
      simp only [c1, c2, c3, not_false_eq_true, and_self, ↓reduceIte]
    · simp only [c1, c2, and_false, ↓reduceIte]
theorem isTopicM {tp : Nat} {S : zS} (h : tp ≤ 4) (e : S.1 0 44 = nI tp) (x : Int32) : f_X12_isTopic x S = some (if ¬ x < 0 ∧ x < nI tp then 1 else 0, S) := by
  unfold f_X12_isTopic
  rw [e, isIn_n (by omega), zb_def, if_pos (znb_01 _)]
theorem isPlantM {pl : Nat} {S : zS} (h : pl ≤ 4) (e : S.1 0 43 = nI pl) (x : Int32) : f_X12_isPlant x S = some (if ¬ x < 0 ∧ x < nI pl then 1 else 0, S) := by
  unfold f_X12_isPlant
  rw [e, isIn_n (by omega), zb_def, if_pos (znb_01 _)]
theorem isPartyM {pa : Nat} {S : zS} (h : pa ≤ 3) (e : S.1 0 45 = nI pa) (x : Int32) : f_X12_isParty x S = some (if ¬ x < 0 ∧ x < nI pa then 1 else 0, S) := by
  unfold f_X12_isParty
  rw [e, isIn_n (by omega), zb_def, if_pos (znb_01 _)]
/-- sorted, or nothing to read -/
theorem ac_ord {st pl tp : Nat} {X37 X38 X39 X14 X15 X16 X17 X18 X19 X20 X43 X44 M19 M21 : Nat → Int32} {ma mu : Int32} (h : rA st pl tp X37 X38 X39 X14 X15 X16 X17 X18 X19 X20 X43 X44 M19 M21 ma mu) : (∀ i, i < 12 → X20 i = nI ((ordF X14).getD i 0)) ∨ M19 96 = 0 := by
  obtain ⟨d, u, f, h, c, hdu, hf, -, -, -, -, -, hall, hmono, hnow, -, -, -, ho⟩ := h
  rcases ho with ho | ho
  · exact Or.inl ho
  · right
    obtain ⟨⟨-, k2, -⟩, -, -⟩ := hall d (by omega)
    rw [hnow 96 (by omega), k2]
    have := hmono d (d + u) (by omega) (Nat.le_refl _)
    rw [show c d = 0 by omega]
    rfl
theorem stdN_0 (N : Nat → Int32) : stdN N 0 = 0 := rfl
theorem op_law : zSt1 zRel f_X11_law f_X12_law := by
  intro t Sx Sm h
  obtain ⟨-, -, -, -, -, -, hO, st, pl, tp, pa, hH, hA, hI⟩ := id h
  obtain ⟨c, hN, hB, e0, e1, e2, hl⟩ := ac_now hA
  obtain ⟨-, hst, -, htp, -, p1, p2, -, -, p5, p6, -⟩ := hH
  have hc := hN.1
  show zSame _ _
  unfold f_X11_law f_X12_law
  rw [loadM, zu_def, isTopicX htp p5, isTopicM (S := zld Sm 0) htp p6, zb_def, zb_def, z01, z01]
  by_cases ca : ¬ t < 0 ∧ t < nI tp
  · rw [if_pos ca, if_pos ca, (stdNowX hN hB e0 (fun b hb => (hl b hb).1)).1, zb_def]
    have ho : (∀ i, i < 12 → Sx.1 20 i = nI ((ordF (Sx.1 14)).getD i 0)) ∨ stdN (Sm.1 19) c = 0 := by
      rcases ac_ord hA with h | h
      · exact Or.inl h
      · right
        have : c = 0 := (nI_eq (a := c) (b := 0) (by omega) (by omega)).mp (hN.2.1.symm.trans h)
        subst this
        exact stdN_0 _
    rw [lawX hO.1 ho, zb_def, lawM (S := zld Sm 0) hst p2 hc ((zld_at Sm (by omega)).trans hN.2.1), zb_def, law_rd hst hN hB (stdN_hi _ (by omega))]
    refine zsame' (zld_rel h) ?_
    rw [lwN_congr (N := (zld Sm 0).1 20) (N' := Sm.1 19) (fun i hi => zld_at Sm hi) hc, stdN_congr (fun i hi => zld_at Sm hi) hc]
  · rw [if_neg ca, if_neg ca]
    exact zsame (zld_rel h)
