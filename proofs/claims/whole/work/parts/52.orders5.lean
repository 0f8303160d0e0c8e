/-! ===== orders, sure, ask ===== -/
theorem gall_iff (g : List Nat → Nat → Bool) : ∀ (l pre : List Nat), gall g pre l = true ↔ ∀ k, k < l.length → g (pre ++ l.take k) (l.getD k 0) = true := by
  intro l
  induction l with
  | nil => intro pre; exact ⟨fun _ k hk => absurd hk (by simp), fun _ => rfl⟩
  | cons b l ih =>
    intro pre
    show (g pre b && gall g (pre ++ [b]) l) = true ↔ _
    rw [Bool.and_eq_true, ih]
    constructor
    · rintro ⟨h1, h2⟩ k hk
      cases k with
      | zero => simpa using h1
      | succ k =>
        have := h2 k (by simpa using hk)
        simpa using this
    · intro h
      refine ⟨by simpa using h 0 (by simp), fun k hk => ?_⟩
      have := h (k + 1) (by simpa using hk)
      simpa using this
theorem take_mem {n : Nat} {l : List Nat} (hn : n ≤ 5) (hl : l ∈ prm n) {i k : Nat} (hi : i < n) : (l.take k).contains i = true ↔ l.idxOf i < k := by
  obtain ⟨l1, l2, l3⟩ := prm_ok n (by omega) l hl
  rw [List.contains_iff_mem]
  constructor
  · intro h
    obtain ⟨p, hp, e⟩ := List.getElem_of_mem h
    rw [List.length_take] at hp
    rw [List.getElem_take] at e
    have h2 := (l2 p (by omega)).2
    rw [List.getD_eq_getElem?_getD, List.getElem?_eq_getElem (by omega)] at h2
    simp only [Option.getD_some] at h2
    rw [e] at h2
    omega
  · intro h
    obtain ⟨h1, h2⟩ := l3 i hi
    rw [List.getD_eq_getElem?_getD, List.getElem?_eq_getElem (by omega)] at h2
    simp only [Option.getD_some] at h2
    refine List.mem_of_getElem? (i := l.idxOf i) ?_
    rw [List.getElem?_take_of_lt h, List.getElem?_eq_getElem (by omega), h2]
theorem valid_iff {W : Nat → Int32} {n : Nat} {l : List Nat} (hn : n ≤ 5) (hl : l ∈ prm n) (hW : ∀ b, b < n → ∀ i, i < 32 → bt (W b) i = true → i < n) : gall (gW W) [] l = true ↔ ∀ b, b < n → ∀ i, i < 32 → bt (W b) i = true → l.idxOf i < l.idxOf b := by
  obtain ⟨l1, l2, l3⟩ := prm_ok n (by omega) l hl
  have hmem : ∀ x, x ∈ l → x < 32 := fun x hx => by
    obtain ⟨p, hp, e⟩ := List.getElem_of_mem hx
    have h2 := (l2 p (by omega)).1
    rw [List.getD_eq_getElem?_getD, List.getElem?_eq_getElem (by omega)] at h2
    simp only [Option.getD_some] at h2
    rw [e] at h2
    omega
  rw [gall_iff]
  constructor
  · intro h b hb i hi hbt
    obtain ⟨h1, h2⟩ := l3 b hb
    have h3 := h (l.idxOf b) (by omega)
    rw [h2, List.nil_append, gW_iff (fun x hx => hmem x (List.mem_of_mem_take hx))] at h3
    exact (take_mem hn hl (hW b hb i hi hbt)).mp (h3 i hi hbt)
  · intro h k hk
    obtain ⟨h1, h2⟩ := l2 k (by omega)
    rw [List.nil_append, gW_iff (fun x hx => hmem x (List.mem_of_mem_take hx))]
    intro i hi hbt
    rw [take_mem hn hl (hW _ h1 i hi hbt)]
    have := h _ h1 i hi hbt
    rw [h2] at this
    exact this
def addM (S T : zS) (Ls : List (List Nat)) : Prop := ∀ i, i < 25 → T.1 35 i = S.1 35 i + nI (tl i Ls)
theorem addM_trans {S T U : zS} {A B : List (List Nat)} (h : addM S T A) (h' : addM T U B) : addM S U (A ++ B) := fun i hi => by
  rw [h' i hi, h i hi, Int32.add_assoc, nI_add, tl_app]
theorem addM_nil (S : zS) : addM S S [] := fun i _ => by
  show _ = _ + nI 0
  rw [nI_z, Int32.add_zero]
theorem lay71 {S : zS} {n : Nat} {l : List Nat} {kk tot : Int32} (K : Int32 → Int32 → Int32 → Int32 → zS → Option (Int32 × zS)) (hn : n ≤ 5) (hl : l ∈ prm n) (hS : ∀ p, p < n → S.1 33 p = nI (l.getD p 0)) : ∃ T, f_X12_layOrders_L71 K zN kk (nI n) tot 0 S = f_X12_layOrders_B104 K kk (nI n) tot T ∧ kp [35] S T ∧ addM S T [l] := by
  obtain ⟨l1, l2, l3⟩ := prm_ok n (by omega) l hl
  have e9 : ∀ p, p < n → l.getD p 9 = l.getD p 0 := fun p hp => by
    rw [List.getD_eq_getElem?_getD, List.getD_eq_getElem?_getD, List.getElem?_eq_getElem (by omega)]
    rfl
  refine loopI (f := fun q (T : zS) p => f_X12_layOrders_L71 K q kk (nI n) tot (nI p) T) (fun p T => kp [35] S T ∧ ∀ i, i < 25 → T.1 35 i = S.1 35 i + (if i % 5 < p ∧ l.getD (i % 5) 9 = i / 5 then 1 else 0)) (fun o => ∃ T, o = f_X12_layOrders_B104 K kk (nI n) tot T ∧ kp [35] S T ∧ addM S T [l]) (c := n) ?_ ?_ n 0 zN S (by omega) (by show n < 10000; omega) ⟨kp_rfl _ _, fun i hi => by rw [if_neg (by omega), Int32.add_zero]⟩
  · intro q T p hp ⟨kT, hT⟩
    have s1 := (l2 p hp).1
    have e33 : T.1 33 p = nI (l.getD p 0) := by rw [kT.2 33 (by decide)]; exact hS p hp
    have hx9 := e9 p hp
    generalize hx : l.getD p 0 = x at s1 e33 hx9
    have ev : 5 * nI x + nI p = nI (5 * x + p) := by rw [show (5 : Int32) = nI 5 from rfl, pk_mul, nI_add]
    refine ⟨zput T 35 (5 * x + p) (T.1 35 (5 * x + p) + 1), ?_, kp_trans kT (kp_put (by decide)), fun i hi => ?_⟩
    · show f_X12_layOrders_L71 K (q + 1) kk (nI n) tot (nI p) T = _
      rw [f_X12_layOrders_L71, if_pos (nI_lt hp (by omega)), if_pos (zinN (show p < 5 by omega) (by omega)), nI_clamp (show p < 2 ^ 31 by omega), e33, ev, if_pos (zinN (show 5 * x + p < 25 by omega) (by omega)), if_pos (zinN (show 5 * x + p < 25 by omega) (by omega)), zlet_def, zlet_def, nI_1, nI_clamp (show 5 * x + p < 2 ^ 31 by omega)]
    · rw [zput1_eq]
      by_cases hi2 : i = 5 * x + p
      · subst hi2
        rw [upd_at, hT _ hi, if_neg (by omega), Int32.add_zero, if_pos (by
          rw [show (5 * x + p) % 5 = p by omega, show (5 * x + p) / 5 = x by omega]
          exact ⟨by omega, hx9⟩)]
      · rw [upd_ne _ _ _ _ hi2, hT i hi]
        congr 1
        by_cases h1 : i % 5 < p ∧ l.getD (i % 5) 9 = i / 5
        · rw [if_pos h1, if_pos ⟨by omega, h1.2⟩]
        · rw [if_neg h1, if_neg (fun z => h1 ⟨by
            by_cases hip : i % 5 = p
            · exfalso
              have := z.2
              rw [hip, hx9] at this
              omega
            · omega, z.2⟩)]
  · intro q T ⟨kT, hT⟩
    refine ⟨T, ?_, kT, fun i hi => ?_⟩
    · show f_X12_layOrders_L71 K (q + 1) kk (nI n) tot (nI n) T = _
      rw [f_X12_layOrders_L71, if_neg (nI_nlt (Nat.le_refl n) (by omega))]
    · rw [hT i hi]
      congr 1
      unfold tl
      by_cases h1 : l.getD (i % 5) 9 = i / 5
      · have h2 : i % 5 < n := by
          by_cases h3 : i % 5 < n
          · exact h3
          · exfalso
            rw [List.getD_eq_getElem?_getD, List.getElem?_eq_none (by omega)] at h1
            simp at h1
            omega
        rw [if_pos ⟨h2, h1⟩]
        have hb : (l.getD (i % 5) 9 == i / 5) = true := by rw [h1]; simp
        rw [List.filter_cons, if_pos hb]
        rfl
      · rw [if_neg (fun z => h1 z.2)]
        have hb : ¬ (l.getD (i % 5) 9 == i / 5) = true := by simpa using h1
        rw [List.filter_cons, if_neg hb]
        rfl
theorem layM {S0 : zS} {n : Nat} {kk : Int32} {v : List Nat → Bool} (hn : n ≤ 5) (hv : ∀ (l : List Nat) (S : zS), l ∈ prm n → kp [33, 34, 35] S0 S → (∀ p, p < n → S.1 33 p = nI (l.getD p 0)) → ∃ r T, f_X12_isOrder (nI n) kk S = some (r, T) ∧ kp [34] S T ∧ (¬ r = 0 ↔ v l = true)) : ∀ (Ls : List (List Nat)) (l : List Nat) (fu : Nat) (S : zS) (tot : Int32), chn n (l :: Ls) = true → (∀ l', l' ∈ l :: Ls → l' ∈ prm n) → Ls.length + 1 < fu → kp [33, 34, 35] S0 S → (∀ p, p < n → S.1 33 p = nI (l.getD p 0)) → ∃ T, f_X12_layOrders_L51 fu kk (nI n) tot 1 S = some (tot + nI ((l :: Ls).filter v).length, T) ∧ kp [33, 34, 35] S0 T ∧ addM S T ((l :: Ls).filter v) := by
  -- one order is looked at; then the next
  have one : ∀ (l : List Nat) (fu : Nat) (S : zS) (tot : Int32), l ∈ prm n → kp [33, 34, 35] S0 S → (∀ p, p < n → S.1 33 p = nI (l.getD p 0)) → ∃ T, f_X12_layOrders_L51 (fu + 1) kk (nI n) tot 1 S = f_X12_layOrders_B104 (f_X12_layOrders_L51 fu) kk (nI n) (tot + nI ([l].filter v).length) T ∧ kp [33, 34, 35] S0 T ∧ (∀ p, p < n → T.1 33 p = nI (l.getD p 0)) ∧ addM S T ([l].filter v) := by
    intro l fu S tot hl hk hS
    obtain ⟨r, T, er, kT, hr⟩ := hv l S hl hk hS
    have hT33 : ∀ p, p < n → T.1 33 p = nI (l.getD p 0) := by rw [kT.2 33 (by decide)]; exact hS
    have a35 : T.1 35 = S.1 35 := kT.2 35 (by decide)
    rw [f_X12_layOrders_L51, if_neg (by decide), er, zb_def]
    by_cases hr0 : r = 0
    · have hvl : ¬ v l = true := fun z => hr.mpr z hr0
      rw [if_pos hr0, List.filter_cons, if_neg hvl, List.filter_nil]
      refine ⟨T, ?_, kp_trans hk (kp_in kT (by decide)), hT33, ?_⟩
      · show _ = f_X12_layOrders_B104 _ _ _ (tot + nI 0) _
        rw [nI_z, Int32.add_zero]
      · intro i hi
        rw [a35]
        exact addM_nil S i hi
    · have hvl : v l = true := hr.mp hr0
      rw [if_neg hr0, zlet_def, List.filter_cons, if_pos hvl, List.filter_nil]
      obtain ⟨U, eU, kU, hU⟩ := lay71 (S := T) (kk := kk) (tot := tot + 1) (f_X12_layOrders_L51 fu) hn hl hT33
      refine ⟨U, ?_, kp_trans hk (kp_trans (kp_in kT (by decide)) (kp_in kU (by decide))), by rw [kU.2 33 (by decide)]; exact hT33, ?_⟩
      · rw [eU]; rfl
      · intro i hi
        rw [hU i hi, a35]
  have qlt : ∀ (l : List Nat), l ∈ prm n → ∀ i, i < n → l.getD i 0 < 5 := fun l hl i hi => by
    have := ((prm_ok n (by omega) l hl).2.1 i hi).1
    omega
  intro Ls
  induction Ls with
  | nil =>
    intro l fu S tot hch hmem hfu hk hS
    obtain ⟨fu, rfl⟩ : ∃ k, fu = k + 2 := ⟨fu - 2, by simp only [List.length_nil] at hfu; omega⟩
    obtain ⟨T, e1, kT, hT, hA⟩ := one l (fu + 1) S tot (hmem l List.mem_cons_self) hk hS
    have hnone : nxl n l = none := of_decide_eq_true hch
    refine ⟨T, ?_, kT, hA⟩
    rw [e1]
    unfold f_X12_layOrders_B104
    rcases nextM (q := fun i => l.getD i 0) hn (qlt l (hmem l List.mem_cons_self)) hT with ⟨a1, a2⟩ | ⟨q', U, a1, -⟩
    · rw [a2, zb_def, f_X12_layOrders_L51, if_pos rfl]
    · exfalso
      unfold nxl at hnone
      rw [a1] at hnone
      cases hnone
  | cons l' Ls ih =>
    intro l fu S tot hch hmem hfu hk hS
    rw [List.length_cons] at hfu
    obtain ⟨fu, rfl⟩ : ∃ k, fu = k + 1 := ⟨fu - 1, by omega⟩
    obtain ⟨T, e1, kT, hT, hA⟩ := one l fu S tot (hmem l List.mem_cons_self) hk hS
    obtain ⟨hsome, hch'⟩ := (Bool.and_eq_true _ _).mp (show (decide (nxl n l = some l') && chn n (l' :: Ls)) = true from hch)
    have hsome := of_decide_eq_true hsome
    rcases nextM (q := fun i => l.getD i 0) hn (qlt l (hmem l List.mem_cons_self)) hT with ⟨a1, a2⟩ | ⟨q', U, a1, a2, kU, hU⟩
    · exfalso
      unfold nxl at hsome
      rw [a1] at hsome
      cases hsome
    · unfold nxl at hsome
      rw [a1] at hsome
      have el : (List.range n).map q' = l' := Option.some.inj hsome
      have hU' : ∀ p, p < n → U.1 33 p = nI (l'.getD p 0) := fun p hp => by
        rw [hU p hp, ← el, List.getD_eq_getElem?_getD, List.getElem?_map, List.getElem?_range hp]
        rfl
      obtain ⟨V, eV, kV, hV⟩ := ih l' fu U (tot + nI ([l].filter v).length) hch' (fun x hx => hmem x (List.mem_cons_of_mem _ hx)) (by omega) (kp_trans kT (kp_in kU (by decide))) hU'
      have ea : (l :: l' :: Ls).filter v = [l].filter v ++ (l' :: Ls).filter v := by
        rw [show l :: l' :: Ls = [l] ++ (l' :: Ls) from rfl, List.filter_append]
      refine ⟨V, ?_, kV, ?_⟩
      · rw [e1]
        unfold f_X12_layOrders_B104
        rw [a2, zb_def, eV, Int32.add_assoc, nI_add, ea, List.length_append]
      · rw [ea]
        refine addM_trans hA ?_
        intro i hi
        rw [hV i hi, kU.2 35 (by decide)]
theorem lay28 {S : zS} {n : Nat} {kk : Int32} (hn : n ≤ 5) : ∃ T, f_X12_layOrders_L28 zN kk (nI n) 0 S = f_X12_layOrders_L51 zN kk (nI n) 0 1 T ∧ kp [33] S T ∧ ∀ p, p < n → T.1 33 p = nI p := by
  refine loopI (f := fun q (T : zS) p => f_X12_layOrders_L28 q kk (nI n) (nI p) T) (fun p T => kp [33] S T ∧ ∀ i, i < p → T.1 33 i = nI i) (fun o => ∃ T, o = f_X12_layOrders_L51 zN kk (nI n) 0 1 T ∧ kp [33] S T ∧ ∀ p, p < n → T.1 33 p = nI p) (c := n) ?_ ?_ n 0 zN S (by omega) (by show n < 10000; omega) ⟨kp_rfl _ _, fun i hi => absurd hi (by omega)⟩
  · intro q T p hp ⟨kT, hT⟩
    refine ⟨zput T 33 p (nI p), ?_, kp_trans kT (kp_put (by decide)), fun i hi => ?_⟩
    · show f_X12_layOrders_L28 (q + 1) kk (nI n) (nI p) T = _
      rw [f_X12_layOrders_L28, if_pos (nI_lt hp (by omega)), if_pos (zinN (show p < 5 by omega) (by omega)), zlet_def, zlet_def, nI_1, nI_clamp (show p < 2 ^ 31 by omega)]
    · rw [zput1_eq]
      by_cases h : i = p
      · subst h; exact upd_at _ _ _
      · rw [upd_ne _ _ _ _ h]; exact hT i (by omega)
  · intro q T ⟨kT, hT⟩
    refine ⟨T, ?_, kT, hT⟩
    show f_X12_layOrders_L28 (q + 1) kk (nI n) (nI n) T = _
    rw [f_X12_layOrders_L28, if_neg (nI_nlt (Nat.le_refl n) (by omega))]
theorem lay7 {S : zS} {n : Nat} {kk : Int32} : ∃ T, f_X12_layOrders_L7 zN kk (nI n) 0 S = f_X12_layOrders_L28 zN kk (nI n) 0 T ∧ kp [35] S T ∧ ∀ i, i < 25 → T.1 35 i = 0 := by
  refine loopI (f := fun q (T : zS) p => f_X12_layOrders_L7 q kk (nI n) (nI p) T) (fun p T => kp [35] S T ∧ ∀ i, i < p → T.1 35 i = 0) (fun o => ∃ T, o = f_X12_layOrders_L28 zN kk (nI n) 0 T ∧ kp [35] S T ∧ ∀ i, i < 25 → T.1 35 i = 0) (c := 25) ?_ ?_ 25 0 zN S (by omega) (by decide) ⟨kp_rfl _ _, fun i hi => absurd hi (by omega)⟩
  · intro q T p hp ⟨kT, hT⟩
    refine ⟨zput T 35 p 0, ?_, kp_trans kT (kp_put (by decide)), fun i hi => ?_⟩
    · show f_X12_layOrders_L7 (q + 1) kk (nI n) (nI p) T = _
      rw [f_X12_layOrders_L7, if_pos (show nI p < 25 from nI_lt (b := 25) hp (by omega)), if_pos (zinN hp (by omega)), zlet_def, zlet_def, nI_1, nI_clamp (show p < 2 ^ 31 by omega)]
    · rw [zput1_eq]
      by_cases h : i = p
      · subst h; exact upd_at _ _ _
      · rw [upd_ne _ _ _ _ h]; exact hT i (by omega)
  · intro q T ⟨kT, hT⟩
    refine ⟨T, ?_, kT, hT⟩
    show f_X12_layOrders_L7 (q + 1) kk (nI n) (nI 25) T = _
    rw [f_X12_layOrders_L7, if_neg (by decide)]
/-- both sides lay the same orders -/
theorem ord_both {Sx Sm : zS} (h : zRel Sx Sm) (kk : Int32) : ∃ (c : Nat) (L : List (List Nat)) (T U : zS), c ≤ 12 ∧ Sx.1 37 0 = nI c ∧ Sm.1 19 96 = nI c ∧ f_X6_gather_52_47_13 kk (nI c) Sx = some T ∧ f_X12_layOrders kk Sm = some (nI L.length, U) ∧ kp [52, 53, 54, 55] Sx T ∧ kp [33, 34, 35] Sm U ∧ T.1 52 1 = nI (min c 5) ∧ T.1 52 0 = nI L.length ∧ (∀ i, i < 25 → T.1 55 i = nI (tl i L)) ∧ (∀ i, i < 25 → U.1 35 i = nI (tl i L)) ∧ L.length ≤ 120 ∧ (∀ i, i < 25 → tl i L ≤ 120) ∧ ∀ i, i < 25 → min c 5 ≤ i % 5 → tl i L = 0 := by
  obtain ⟨st, pl, tp, pa, c, hH, hA, hI, hN, hB, hg, hO, ho⟩ := rel_all h
  obtain ⟨-, -, -, ⟨-, rn, hrn, x47, m72, hrg⟩, -⟩ := id h
  have hc := hN.1
  have ham : ∀ b : Nat, b < c → isI (-1) (b - 1) (Sx.1 18 b) := fun b hb => by rw [(hB b hb).2.2.2.2.1]; exact (hN.2.2.2.2 b hb).2.2.2.2.2.1
  have hrp : ∀ b : Nat, b < c → isI (-1) (b - 1) (Sx.1 19 b) := fun b hb => by rw [(hB b hb).2.2.2.2.2]; exact (hN.2.2.2.2 b hb).2.2.2.2.2.2
  obtain ⟨W, T, eT, kT, t1, hW, hT0, hT1⟩ := gatherX (S := Sx) (kk := kk) hc hrn x47 ham hrp (fun j hj => by
    obtain ⟨a, b, ah, t, u, ⟨r1, r2, -⟩, -, -, -, -, -, g6, g7, -⟩ := hrg j hj
    cases ah
    · exact ⟨b, a, r2, r1, g6, g7⟩
    · exact ⟨a, b, r1, r2, g6, g7⟩)
  have hn : min c 5 ≤ 5 := by omega
  have hnc : min c 5 ≤ c := by omega
  have hfb := firstM hc hN.2.1
  generalize hmn : min c 5 = n at *
  have hWn : ∀ b, b < n → ∀ i, i < 32 → bt (W b) i = true → i < n := fun b hb i hi hbt => by
    have lt_of : ∀ x : Int32, isI (-1) (b - 1) x → x = nI i → i < n := fun x hx e => by
      have h2 := (isI_toInt hx (by omega) (by omega)).2
      rw [e, nI_toInt (by omega)] at h2
      omega
    rcases (hW b hb i hi).mp hbt with h1 | h1 | ⟨j, -, -, -, -, -, h5, -⟩
    · exact lt_of _ (ham b (by omega)) h1
    · exact lt_of _ (hrp b (by omega)) h1
    · exact h5
  have hv : ∀ (l : List Nat) (S : zS), l ∈ prm n → kp [33, 34, 35] Sm S → (∀ p, p < n → S.1 33 p = nI (l.getD p 0)) → ∃ r T, f_X12_isOrder (nI n) kk S = some (r, T) ∧ kp [34] S T ∧ (¬ r = 0 ↔ gall (gW W) [] l = true) := by
    intro l S hl hk hS
    obtain ⟨l1, l2, l3⟩ := prm_ok n (by omega) l hl
    obtain ⟨r, T, er, kT, -, hr⟩ := isOrdM (S := S) (kk := kk) hn hrn hl hS (fun b hb => by rw [hk.2 19 (by decide)]; exact (hN.2.2.2.2 b (by omega)).2.2.2.2.2.1) (fun b hb => by rw [hk.2 19 (by decide)]; exact (hN.2.2.2.2 b (by omega)).2.2.2.2.2.2) (by rw [hk.2 0 (by decide)]; exact m72) (fun j hj => by
      rw [hk.2 28 (by decide), hk.2 29 (by decide), hk.2 32 (by decide)]
      obtain ⟨a, b, ah, t, u, ⟨r1, r2, -⟩, g1, g2, g3, -⟩ := hrg j hj
      refine ⟨a, b, r1, r2, g1, g2, ?_⟩
      rw [g3]
      cases ah
      · exact Or.inl rfl
      · exact Or.inr rfl)
    refine ⟨r, T, er, kT, ?_⟩
    rw [hr, valid_iff hn hl hWn]
    unfold okRg
    rw [hk.2 19 (by decide), hk.2 28 (by decide), hk.2 29 (by decide), hk.2 30 (by decide), hk.2 31 (by decide), hk.2 32 (by decide)]
    constructor
    · rintro ⟨h1, h2⟩ b hb i hi hbt
      rcases (hW b hb i hi).mp hbt with e | e | ⟨j, hj, q1, q2, q3, q4, q5, q6⟩
      · rw [(hB b (by omega)).2.2.2.2.1] at e
        exact h1 b hb i hi (Or.inl e)
      · rw [(hB b (by omega)).2.2.2.2.2] at e
        exact h1 b hb i hi (Or.inr e)
      · obtain ⟨x, y, ah, t, u, ⟨r1, r2, r3, r4, r5⟩, g1, g2, g3, g4, g5, g6, g7, g8, g9⟩ := hrg j hj
        have hold := h2 j hj (by rw [g4, ← g8]; exact q1) (by
          rw [g5]
          rw [g9] at q2
          rcases q2 with q2 | q2
          · left; rw [q2]; decide
          · exact Or.inr q2) x y r1 r2 g1 g2
        cases ah with
        | true =>
          have g6 : Sx.1 48 j = nI x := g6
          have g7 : Sx.1 49 j = nI y := g7
          have e1 : x = i := by rw [q3] at g6; exact ((nI_eq (by omega) (by omega)).mp g6).symm
          have e2 : y = b := by rw [q4] at g7; exact ((nI_eq (by omega) (by omega)).mp g7).symm
          subst e1
          subst e2
          exact (hold q5 q6).mpr g3
        | false =>
          have g6 : Sx.1 48 j = nI y := g6
          have g7 : Sx.1 49 j = nI x := g7
          have e1 : y = i := by rw [q3] at g6; exact ((nI_eq (by omega) (by omega)).mp g6).symm
          have e2 : x = b := by rw [q4] at g7; exact ((nI_eq (by omega) (by omega)).mp g7).symm
          subst e1
          subst e2
          have hno : ¬ l.idxOf x < l.idxOf y := fun z => by
            have := (hold q6 q5).mp z
            rw [g3] at this
            exact absurd this (by decide)
          have hne : l.idxOf x ≠ l.idxOf y := fun z => by
            have h3 := (l3 x q6).2
            have h4 := (l3 y q5).2
            rw [z, h4] at h3
            exact r3 h3.symm
          omega
    · intro hall
      refine ⟨fun b hb i hi e => ?_, fun j hj q1 q2 x y hx hy e1 e2 hxn hyn => ?_⟩
      · refine hall b hb i hi ((hW b hb i hi).mpr ?_)
        unfold ndP
        rw [(hB b (by omega)).2.2.2.2.1, (hB b (by omega)).2.2.2.2.2]
        rcases e with e | e
        · exact Or.inl e
        · exact Or.inr (Or.inl e)
      · obtain ⟨x', y', ah, t, u, ⟨r1, r2, r3, r4, r5⟩, g1, g2, g3, g4, g5, g6, g7, g8, g9⟩ := hrg j hj
        have f1 : x' = x := by rw [e1] at g1; exact ((nI_eq (by omega) (by omega)).mp g1).symm
        have f2 : y' = y := by rw [e2] at g2; exact ((nI_eq (by omega) (by omega)).mp g2).symm
        subst f1
        subst f2
        have k1 : ¬ kk < Sx.1 50 j := by rw [g8, ← g4]; exact q1
        have k2 : Sx.1 51 j = -1 ∨ kk < Sx.1 51 j := by
          rw [g9]
          rw [g5] at q2
          rcases q2 with q2 | q2
          · left
            rcases r5 with r5 | ⟨v, r5, r6⟩
            · exact r5
            · rw [r6] at q2; exact absurd q2 (nI_not_neg (by omega))
          · exact Or.inr q2
        cases ah with
        | true =>
          refine ⟨fun _ => g3, fun _ => ?_⟩
          exact hall y' hyn x' (by omega) ((hW y' hyn x' (by omega)).mpr (Or.inr (Or.inr ⟨j, hj, k1, k2, g6, g7, hxn, hyn⟩)))
        | false =>
          have := hall x' hxn y' (by omega) ((hW x' hxn y' (by omega)).mpr (Or.inr (Or.inr ⟨j, hj, k1, k2, g6, g7, hyn, hxn⟩)))
          refine ⟨fun z => by omega, fun z => ?_⟩
          rw [g3] at z
          exact absurd z (by decide)
  obtain ⟨U1, e1, k1, z1⟩ := lay7 (S := Sm) (n := n) (kk := kk)
  obtain ⟨U2, e2, k2, z2⟩ := lay28 (S := U1) (kk := kk) hn
  have hhead := prm_head n (by omega)
  have hchain := prm_chain n (by omega)
  have hlen := prm_len n (by omega)
  have hL120 : ((prm n).filter (gall (gW W) [])).length ≤ 120 := Nat.le_trans (List.length_filter_le _ _) hlen
  cases hp : prm n with
  | nil => rw [hp] at hhead; cases hhead
  | cons l Ls =>
    rw [hp] at hhead hchain hlen
    have el : l = List.range n := Option.some.inj hhead
    obtain ⟨U, eU, kU, hU⟩ := layM (S0 := Sm) (kk := kk) (v := gall (gW W) []) hn hv Ls l zN U2 0 hchain (fun x hx => by rw [hp]; exact hx) (by rw [List.length_cons] at hlen; show Ls.length + 1 < 10000; omega) (kp_trans (kp_in k1 (by decide)) (kp_in k2 (by decide))) (fun p hp' => by
      rw [z2 p hp', el, List.getD_eq_getElem?_getD, List.getElem?_range hp']
      rfl)
    have ht : ∀ i, i < 25 → tl i ((prm n).filter (gall (gW W) [])) ≤ 120 := fun i _ => Nat.le_trans (List.length_filter_le _ _) hL120
    refine ⟨c, (prm n).filter (gall (gW W) []), T, U, hc, hg.1, hN.2.1, eT, ?_, kT, kU, by rw [hmn]; exact t1, hT0, hT1, fun i hi => ?_, hL120, ht, fun i hi hin => ?_⟩
    · unfold f_X12_layOrders
      rw [hfb, zb_def, e1, e2, eU, Int32.zero_add, hp]
    · rw [hU i hi, k2.2 35 (by decide), z1 i hi, Int32.zero_add, hp]
    · rw [hmn] at hin
      unfold tl
      rw [List.length_eq_zero_iff, List.filter_eq_nil_iff]
      intro x hx
      have hxl := (prm_ok n (by omega) x (List.mem_filter.mp hx).1).1
      rw [List.getD_eq_getElem?_getD, List.getElem?_eq_none (by omega)]
      simp
      omega
theorem op_orders : zSt1 zRel f_X11_orders f_X12_orders := by
  intro kk Sx Sm h
  obtain ⟨c, L, T, U, hc, x37, m96, eT, eU, kT, kU, t1, t0, -⟩ := ord_both h kk
  show zSame _ _
  unfold f_X11_orders f_X12_orders
  rw [x37, eT, zu_def, eU, zb_def, t0]
  exact zsame (zRel_x (kp_in kT (by decide)) (zRel_m (kp_in kU (by decide)) h))
theorem talX {T : zS} {b p : Nat} {L : List (List Nat)} (hb : b < 5) (hp : p < 5) (h : ∀ i, i < 25 → T.1 55 i = nI (tl i L)) : f_X6_tallied_52 (nI b) (nI p) T = some (nI (tl (5 * b + p) L), T) := by
  unfold f_X6_tallied_52
  have ev : nI b * 5 + nI p = nI (5 * b + p) := by rw [show (5 : Int32) = nI 5 from rfl, pk_mul, nI_add, Nat.mul_comm]
  rw [zlet_def, ev, if_neg (nI_not_neg (by omega)), if_pos (show nI (5 * b + p) < 25 from nI_lt (b := 25) (by omega) (by omega)), if_pos (zinN (show 5 * b + p < 25 by omega) (by omega)), nI_clamp (show 5 * b + p < 2 ^ 31 by omega), h _ (by omega)]
theorem op_sure : zSt2 zRel f_X11_sure f_X12_sure := by
  intro x kk Sx Sm h
  obtain ⟨c, L, T, U, hc, x37, m96, eT, eU, kT, kU, t1, t0, hT, hU, hL, htl, htz⟩ := ord_both h kk
  have hR : zRel T U := zRel_x (kp_in kT (by decide)) (zRel_m (kp_in kU (by decide)) h)
  show zSame _ _
  unfold f_X11_sure f_X12_sure
  rw [isOrdX hc x37, zb_def, z01, isFirstM hc m96, zb_def, z01]
  by_cases cx : ¬ x < 0 ∧ x < nI (min c 5)
  · rw [if_pos cx, if_pos cx, x37, eT, zu_def, eU, zb_def, t0]
    obtain ⟨b, hb2, rfl⟩ := nI_of cx.1
    have hb : b < min c 5 := (nI_ltI hb2 (by omega)).mp cx.2
    by_cases hL0 : L.length = 0
    · rw [hL0, if_pos (show nI 0 = 0 from rfl), show zN = 9999 + 1 from rfl, f_X12_sure_L19, if_pos (by decide), if_neg (by decide)]
      unfold f_X12_sure_B53
      rw [if_pos (show nI 0 = 0 from rfl)]
      exact zsame hR
    · have hne : ¬ nI L.length = 0 := nI_ne0 (by omega) (by omega)
      have hpos : (0 : Int32) < nI L.length := nI_lt (a := 0) (by omega) (by omega)
      rw [if_neg hne]
      have hB : f_X12_sure_B53 (nI L.length) U = some (-2, U) := by
        unfold f_X12_sure_B53
        rw [if_neg hne]
      -- behind the last seat the reference finds nothing any more
      have rest : ∀ (m p fu : Nat), p + m = 5 → min c 5 ≤ p → m < fu → f_X12_sure_L19 fu (nI b) (nI L.length) (nI p) U = some (-2, U) := by
        intro m
        induction m with
        | zero =>
          intro p fu hp _ hfu
          obtain ⟨g, rfl⟩ : ∃ g, fu = g + 1 := ⟨fu - 1, by omega⟩
          have : p = 5 := by omega
          subst this
          rw [f_X12_sure_L19, if_neg (by decide), hB]
        | succ m ih =>
          intro p fu hp hcp hfu
          obtain ⟨g, rfl⟩ : ∃ g, fu = g + 1 := ⟨fu - 1, by omega⟩
          have ev : 5 * nI b + nI p = nI (5 * b + p) := by rw [show (5 : Int32) = nI 5 from rfl, pk_mul, nI_add]
          rw [f_X12_sure_L19, if_pos (show nI p < 5 from nI_lt (b := 5) (by omega) (by omega)), if_pos hpos, ev, if_pos (zinN (show 5 * b + p < 25 by omega) (by omega)), nI_clamp (show 5 * b + p < 2 ^ 31 by omega), hU _ (by omega), htz _ (by omega) (by omega), if_neg (fun z => hne z.symm), zlet_def, nI_1]
          exact ih (p + 1) g (by omega) (by omega) (by omega)
      have key : zSame (f_X6_surePlace_52 (nI b) T) (f_X12_sure_L19 zN (nI b) (nI L.length) 0 U) := by
        unfold f_X6_surePlace_52
        refine loopE (f := fun q (_ : Unit) p => f_X6_surePlace_52_L2 q (nI b) (nI p) T) (f' := fun q (_ : Unit) p => f_X12_sure_L19 (q + 6) (nI b) (nI L.length) (nI p) U) (fun _ _ _ => True) zSame (c := min c 5) ?_ ?_ (min c 5) 0 zN (zN - 6) () () (by omega) (by show min c 5 < 10000; omega) (by show min c 5 < 10000 - 6; omega) trivial
        · intro q q' _ _ p hp _
          have ev : 5 * nI b + nI p = nI (5 * b + p) := by rw [show (5 : Int32) = nI 5 from rfl, pk_mul, nI_add]
          have x1 : f_X6_surePlace_52_L2 (q + 1) (nI b) (nI p) T = if nI (tl (5 * b + p) L) = nI L.length then some (nI p, T) else f_X6_surePlace_52_L2 q (nI b) (nI (p + 1)) T := by
            rw [f_X6_surePlace_52_L2, t1, if_pos (nI_lt hp (by omega)), talX (by omega) (by omega) hT, zb_def, t0, zlet_def, nI_1]
          have x2 : f_X12_sure_L19 (q' + 1 + 6) (nI b) (nI L.length) (nI p) U = if nI (tl (5 * b + p) L) = nI L.length then some (nI p, U) else f_X12_sure_L19 (q' + 6) (nI b) (nI L.length) (nI (p + 1)) U := by
            rw [show q' + 1 + 6 = q' + 6 + 1 by omega, f_X12_sure_L19, if_pos (show nI p < 5 from nI_lt (b := 5) (by omega) (by omega)), if_pos hpos, ev, if_pos (zinN (show 5 * b + p < 25 by omega) (by omega)), nI_clamp (show 5 * b + p < 2 ^ 31 by omega), hU _ (by omega), zlet_def, nI_1]
          by_cases he : nI (tl (5 * b + p) L) = nI L.length
          · left
            rw [if_pos he] at x1 x2
            show zSame (f_X6_surePlace_52_L2 (q + 1) (nI b) (nI p) T) (f_X12_sure_L19 (q' + 1 + 6) (nI b) (nI L.length) (nI p) U)
            rw [x1, x2]
            exact zsame hR
          · right
            rw [if_neg he] at x1 x2
            exact ⟨(), (), x1, x2, trivial⟩
        · intro q q' _ _ _
          show zSame (f_X6_surePlace_52_L2 (q + 1) (nI b) (nI (min c 5)) T) (f_X12_sure_L19 (q' + 1 + 6) (nI b) (nI L.length) (nI (min c 5)) U)
          rw [f_X6_surePlace_52_L2, t1, if_neg (nI_nlt (Nat.le_refl _) (by omega)), rest (5 - min c 5) (min c 5) (q' + 1 + 6) (by omega) (Nat.le_refl _) (by omega)]
          exact zsame hR
      obtain ⟨r, T', U', k1, k2, k3⟩ := key
      rw [k1, zb_def, k2]
      exact zsame k3
  · rw [if_neg cx, if_neg cx]; exact zsame h
/-- the most that are left -/
def mlN (L : List (List Nat)) (b : Nat) : Nat → Nat
  | 0 => 0
  | p + 1 => max (mlN L b p) (tl (5 * b + p) L)
theorem mlN_le {L : List (List Nat)} {b : Nat} (hb : b < 5) (h : ∀ i, i < 25 → tl i L ≤ 120) : ∀ p, p ≤ 5 → mlN L b p ≤ 120 := by
  intro p
  induction p with
  | zero => intro _; exact Nat.zero_le _
  | succ p ih =>
    intro hp
    have h1 := ih (by omega)
    have h2 := h (5 * b + p) (by omega)
    show max (mlN L b p) (tl (5 * b + p) L) ≤ 120
    omega
theorem mlN_z {L : List (List Nat)} {b n : Nat} (hb : b < 5) (h : ∀ i, i < 25 → n ≤ i % 5 → tl i L = 0) : ∀ p, n ≤ p → p ≤ 5 → mlN L b p = mlN L b n := by
  intro p
  induction p with
  | zero => intro h1 _; rw [show n = 0 by omega]
  | succ p ih =>
    intro h1 h2
    by_cases hn : n = p + 1
    · rw [hn]
    · show max (mlN L b p) (tl (5 * b + p) L) = _
      rw [h (5 * b + p) (by omega) (by omega), ih (by omega) (by omega)]
      omega
theorem mostX {T : zS} {n b : Nat} {L : List (List Nat)} (hn : n ≤ 5) (hb : b < 5) (t1 : T.1 52 1 = nI n) (hT : ∀ i, i < 25 → T.1 55 i = nI (tl i L)) (ht : ∀ i, i < 25 → tl i L ≤ 120) : f_X6_mostLeft_52 (nI b) T = some (nI (mlN L b n), T) := by
  unfold f_X6_mostLeft_52
  refine loopI (f := fun q (a : Int32) p => f_X6_mostLeft_52_L4 q (nI b) a (nI p) T) (fun p a => a = nI (mlN L b p)) (fun o => o = some (nI (mlN L b n), T)) (c := n) ?_ ?_ n 0 zN 0 (by omega) (by show n < 10000; omega) rfl
  · intro q a p hp ha
    refine ⟨nI (mlN L b (p + 1)), ?_, rfl⟩
    show f_X6_mostLeft_52_L4 (q + 1) (nI b) a (nI p) T = _
    have h1 := mlN_le hb ht p (by omega)
    have h2 := ht (5 * b + p) (by omega)
    have em : zmax (nI (mlN L b p)) (nI (tl (5 * b + p) L)) = nI (mlN L b (p + 1)) := by
      unfold zmax
      show _ = nI (max (mlN L b p) (tl (5 * b + p) L))
      by_cases hlt : mlN L b p < tl (5 * b + p) L
      · rw [if_pos (nI_lt hlt (by omega)), Nat.max_eq_right (by omega)]
      · rw [if_neg (nI_nlt (by omega) (by omega)), Nat.max_eq_left (by omega)]
    rw [f_X6_mostLeft_52_L4, t1, if_pos (nI_lt hp (by omega)), talX hb (by omega) hT, zb_def, zlet_def, zlet_def, nI_1, ha, em]
  · intro q a ha
    show f_X6_mostLeft_52_L4 (q + 1) (nI b) a (nI n) T = _
    rw [f_X6_mostLeft_52_L4, t1, if_neg (nI_nlt (Nat.le_refl _) (by omega)), ha]
theorem mostM {U : zS} {n b : Nat} {L : List (List Nat)} (hn : n ≤ 5) (hb : b < 5) (hU : ∀ i, i < 25 → U.1 35 i = nI (tl i L)) (ht : ∀ i, i < 25 → tl i L ≤ 120) (hz : ∀ i, i < 25 → n ≤ i % 5 → tl i L = 0) : f_X12_mostOf (nI b) U = some (nI (mlN L b n), U) := by
  unfold f_X12_mostOf
  rw [← mlN_z hb hz 5 hn (Nat.le_refl _)]
  refine loopI (f := fun q (a : Int32) p => f_X12_mostOf_L4 q (nI b) a (nI p) U) (fun p a => a = nI (mlN L b p)) (fun o => o = some (nI (mlN L b 5), U)) (c := 5) ?_ ?_ 5 0 zN 0 (by omega) (by decide) rfl
  · intro q a p hp ha
    refine ⟨nI (mlN L b (p + 1)), ?_, rfl⟩
    show f_X12_mostOf_L4 (q + 1) (nI b) a (nI p) U = _
    have h1 := mlN_le hb ht p (by omega)
    have h2 := ht (5 * b + p) (by omega)
    have ev : 5 * nI b + nI p = nI (5 * b + p) := by rw [show (5 : Int32) = nI 5 from rfl, pk_mul, nI_add]
    have hz : zin (nI (5 * b + p)) 25 := zinN (by omega) (by omega)
    rw [f_X12_mostOf_L4, if_pos (show nI p < 5 from nI_lt (b := 5) (by omega) (by omega)), ev, if_pos hz, if_pos hz, zlet_def, zlet_def, zlet_def, nI_1, nI_clamp (show 5 * b + p < 2 ^ 31 by omega), hU _ (by omega), ha]
    show _ = f_X12_mostOf_L4 q (nI b) (nI (max (mlN L b p) (tl (5 * b + p) L))) (nI (p + 1)) U
    by_cases hlt : mlN L b p < tl (5 * b + p) L
    · rw [if_pos (nI_lt hlt (by omega)), Nat.max_eq_right (by omega)]
    · rw [if_neg (nI_nlt (by omega) (by omega)), Nat.max_eq_left (by omega)]
  · intro q a ha
    show f_X12_mostOf_L4 (q + 1) (nI b) a (nI 5) U = _
    rw [f_X12_mostOf_L4, if_neg (by decide), ha]
/-- the bill to ask, of the first p -/
def bsN (L : List (List Nat)) (n : Nat) : Nat → Nat
  | 0 => 0
  | p + 1 => if mlN L (p + 1) n < mlN L (bsN L n p) n then p + 1 else bsN L n p
theorem bsN_le (L : List (List Nat)) (n : Nat) : ∀ p, bsN L n p ≤ p := by
  intro p
  induction p with
  | zero => exact Nat.le_refl _
  | succ p ih =>
    show (if mlN L (p + 1) n < mlN L (bsN L n p) n then p + 1 else bsN L n p) ≤ p + 1
    by_cases h : mlN L (p + 1) n < mlN L (bsN L n p) n
    · rw [if_pos h]; exact Nat.le_refl _
    · rw [if_neg h]; omega
theorem bestX {T : zS} {n : Nat} {L : List (List Nat)} (hn : n ≤ 5) (hn0 : 0 < n) (t1 : T.1 52 1 = nI n) (hT : ∀ i, i < 25 → T.1 55 i = nI (tl i L)) (ht : ∀ i, i < 25 → tl i L ≤ 120) : f_X6_bestToAsk_52 T = some (nI (bsN L n (n - 1)), T) := by
  unfold f_X6_bestToAsk_52
  rw [show zN = 9999 + 1 from rfl, f_X6_bestToAsk_52_L4, t1, if_pos (show (0 : Int32) < nI n from nI_lt (a := 0) hn0 (by omega)), if_pos rfl, zlet_def]
  show f_X6_bestToAsk_52_L4 9999 (nI 0) (nI 1) T = _
  refine loopI (f := fun q (a : Int32) p => f_X6_bestToAsk_52_L4 q a (nI p) T) (fun p a => 1 ≤ p ∧ a = nI (bsN L n (p - 1))) (fun o => o = some (nI (bsN L n (n - 1)), T)) (c := n) ?_ ?_ (n - 1) 1 9999 (nI 0) (by omega) (by omega) ⟨Nat.le_refl _, rfl⟩
  · intro q a p hp ⟨h1, ha⟩
    obtain ⟨p, rfl⟩ : ∃ k, p = k + 1 := ⟨p - 1, by omega⟩
    have hbp := bsN_le L n p
    refine ⟨nI (bsN L n (p + 1)), ?_, by omega, rfl⟩
    show f_X6_bestToAsk_52_L4 (q + 1) a (nI (p + 1)) T = _
    have g1 := mlN_le (b := p + 1) (by omega) ht n hn
    have g2 := mlN_le (b := bsN L n p) (by omega) ht n hn
    rw [ha, Nat.add_sub_cancel, f_X6_bestToAsk_52_L4, t1, if_pos (nI_lt hp (by omega)), if_neg (nI_neg1 (by omega)), mostX hn (by omega) t1 hT ht, zb_def, mostX hn (by omega) t1 hT ht, zb_def, zlet_def, zlet_def, nI_1]
    show _ = f_X6_bestToAsk_52_L4 q (nI (if mlN L (p + 1) n < mlN L (bsN L n p) n then p + 1 else bsN L n p)) (nI (p + 1 + 1)) T
    by_cases h : mlN L (p + 1) n < mlN L (bsN L n p) n
    · rw [if_pos (nI_lt h (by omega)), if_pos h]
    · rw [if_neg (nI_nlt (by omega) (by omega)), if_neg h]
  · intro q a ⟨h1, ha⟩
    show f_X6_bestToAsk_52_L4 (q + 1) a (nI n) T = _
    rw [f_X6_bestToAsk_52_L4, t1, if_neg (nI_nlt (Nat.le_refl _) (by omega)), ha]
theorem askM {U : zS} {c : Nat} {w : Int32} {L : List (List Nat)} (hc : c ≤ 12) (hc0 : 0 < c) (e96 : U.1 19 96 = nI c) (hU : ∀ i, i < 25 → U.1 35 i = nI (tl i L)) (ht : ∀ i, i < 25 → tl i L ≤ 120) (hz : ∀ i, i < 25 → min c 5 ≤ i % 5 → tl i L = 0) : f_X12_ask_L34 zN w 0 1 U = if w = 0 then some (nI (bsN L (min c 5) (min c 5 - 1)), U) else some (nI (mlN L (bsN L (min c 5) (min c 5 - 1)) (min c 5)), U) := by
  have hfb := firstM hc e96
  have hn : min c 5 ≤ 5 := by omega
  have hn0 : 0 < min c 5 := by omega
  generalize min c 5 = n at *
  refine loopI (f := fun q (a : Int32) p => f_X12_ask_L34 q w a (nI p) U) (fun p a => 1 ≤ p ∧ a = nI (bsN L n (p - 1))) (fun o => o = if w = 0 then some (nI (bsN L n (n - 1)), U) else some (nI (mlN L (bsN L n (n - 1)) n), U)) (c := n) ?_ ?_ (n - 1) 1 zN (nI 0) (by omega) (by show n - 1 < 10000; omega) ⟨Nat.le_refl _, rfl⟩
  · intro q a p hp ⟨h1, ha⟩
    obtain ⟨p, rfl⟩ : ∃ k, p = k + 1 := ⟨p - 1, by omega⟩
    have hbp := bsN_le L n p
    refine ⟨nI (bsN L n (p + 1)), ?_, by omega, rfl⟩
    show f_X12_ask_L34 (q + 1) w a (nI (p + 1)) U = _
    have g1 := mlN_le (b := p + 1) (by omega) ht n hn
    have g2 := mlN_le (b := bsN L n p) (by omega) ht n hn
    rw [ha, Nat.add_sub_cancel, f_X12_ask_L34, hfb, zb_def, if_pos (nI_lt hp (by omega)), mostM hn (by omega) hU ht hz, zb_def, mostM hn (by omega) hU ht hz, zb_def, zlet_def, zlet_def, nI_1]
    show _ = f_X12_ask_L34 q w (nI (if mlN L (p + 1) n < mlN L (bsN L n p) n then p + 1 else bsN L n p)) (nI (p + 1 + 1)) U
    by_cases h : mlN L (p + 1) n < mlN L (bsN L n p) n
    · rw [if_pos (nI_lt h (by omega)), if_pos h]
    · rw [if_neg (nI_nlt (by omega) (by omega)), if_neg h]
  · intro q a ⟨h1, ha⟩
    have hbp := bsN_le L n (n - 1)
    show f_X12_ask_L34 (q + 1) w a (nI n) U = _
    rw [f_X12_ask_L34, hfb, zb_def, if_neg (nI_nlt (Nat.le_refl _) (by omega)), ha, mostM hn (by omega) hU ht hz, zb_def]
theorem op_ask : zSt2 zRel f_X11_ask f_X12_ask := by
  intro w kk Sx Sm h
  obtain ⟨c, L, T, U, hc, x37, m96, eT, eU, kT, kU, t1, t0, hT, hU, hL, htl, htz⟩ := ord_both h kk
  have hR : zRel T U := zRel_x (kp_in kT (by decide)) (zRel_m (kp_in kU (by decide)) h)
  have hRx : zRel Sx U := zRel_m (kp_in kU (by decide)) h
  have u96 : U.1 19 96 = nI c := by rw [kU.2 19 (by decide)]; exact m96
  show zSame _ _
  unfold f_X11_ask f_X12_ask
  rw [eU, zb_def, isIn_spec, zb_def]
  by_cases c1 : w < 0
  · rw [if_pos c1, if_pos c1, if_pos rfl]; exact zsame hRx
  · rw [if_neg c1, if_neg c1]
    by_cases c2 : 1 < w
    · rw [if_pos c2, if_pos c2, if_pos rfl]; exact zsame hRx
    · rw [if_neg c2, if_neg c2, if_neg (show ¬ (1 : Int32) = 0 by decide), x37, eT, zu_def, t0]
      unfold f_X11_ask_B58
      by_cases hL0 : L.length = 0
      · rw [hL0, if_pos (show nI 0 = 0 from rfl), if_pos (show nI 0 = 0 from rfl), if_pos rfl, ite_self]
        exact zsame hR
      · have hne : ¬ nI L.length = 0 := nI_ne0 (by omega) (by omega)
        rw [if_neg hne, if_neg hne, firstM hc u96, zb_def]
        by_cases hc0 : c = 0
        · subst hc0
          have t1' : T.1 52 1 = nI 0 := t1
          have eb : f_X6_bestToAsk_52 T = some (-1, T) := by
            unfold f_X6_bestToAsk_52
            rw [show zN = 9999 + 1 from rfl, f_X6_bestToAsk_52_L4, t1', if_neg (by decide)]
          rw [if_pos (show nI (min 0 5) = 0 from rfl), eb, zb_def, if_pos rfl, ite_self]
          exact zsame hR
        · have hn0 : 0 < min c 5 := by omega
          have hb := bsN_le L (min c 5) (min c 5 - 1)
          rw [if_neg (nI_ne0 hn0 (by omega)), bestX (by omega) hn0 t1 hT htl, zb_def, askM hc (by omega) u96 hU htl htz, if_neg (nI_neg1 (by omega)), mostX (by omega) (by omega) t1 hT htl, zb_def]
          by_cases hw : w = 0
          · rw [if_pos hw, if_pos hw]; exact zsame hR
          · rw [if_neg hw, if_neg hw]; exact zsame hR
