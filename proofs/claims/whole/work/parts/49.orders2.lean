/-! ===== orders: the class ===== -/
def mask (pre : List Nat) : Int32 := pre.foldl (fun acc b => acc ||| (1 <<< (nI b &&& 31))) 0
theorem mask_snoc (pre : List Nat) (b : Nat) : mask (pre ++ [b]) = mask pre ||| (1 <<< (nI b &&& 31)) := by
  unfold mask
  rw [List.foldl_append]
  rfl
theorem bt_fold (pre : List Nat) : ∀ (acc : Int32), (∀ x, x ∈ pre → x < 32) → ∀ i, i < 32 → bt (pre.foldl (fun acc b => acc ||| (1 <<< (nI b &&& 31))) acc) i = (bt acc i || pre.contains i) := by
  induction pre with
  | nil => intro acc _ i _; simp
  | cons b l ih =>
    intro acc h i hi
    rw [List.foldl_cons, ih _ (fun x hx => h x (List.mem_cons_of_mem _ hx)) i hi, b_or, b_bit (h b List.mem_cons_self) hi, List.contains_cons, Bool.or_assoc]
    congr 2
theorem bt_mask {pre : List Nat} (h : ∀ x, x ∈ pre → x < 32) {i : Nat} (hi : i < 32) : bt (mask pre) i = pre.contains i := by
  unfold mask
  rw [bt_fold pre 0 h i hi, b_0, Bool.false_or]
def gW (W : Nat → Int32) (pre : List Nat) (b : Nat) : Bool := decide (W b &&& (mask pre ^^^ (-1)) = 0)
theorem gW_iff {W : Nat → Int32} {pre : List Nat} {b : Nat} (h : ∀ x, x ∈ pre → x < 32) : gW W pre b = true ↔ ∀ i, i < 32 → bt (W b) i = true → pre.contains i = true := by
  unfold gW
  rw [decide_eq_true_eq]
  constructor
  · intro e i hi hb
    have := congrArg (fun z => bt z i) e
    simp only [b_and, b_xor, b_0, b_m1 i hi, hb, bt_mask h hi] at this
    simpa using this
  · intro hall
    refine b_ext fun i hi => ?_
    rw [b_and, b_xor, b_0, b_m1 i hi, bt_mask h hi]
    cases hb : bt (W b) i with
    | false => rfl
    | true => rw [hall i hi hb]; rfl
def tl (i : Nat) (Ls : List (List Nat)) : Nat := (Ls.filter (fun l => l.getD (i % 5) 9 == i / 5)).length
theorem tl_app (i : Nat) (A B : List (List Nat)) : tl i (A ++ B) = tl i A + tl i B := by
  unfold tl
  rw [List.filter_append, List.length_append]
def added (S T : zS) (Ls : List (List Nat)) : Prop := T.1 52 0 = S.1 52 0 + nI Ls.length ∧ ∀ i, i < 25 → T.1 55 i = S.1 55 i + nI (tl i Ls)
theorem nI_z : nI 0 = 0 := rfl
theorem added_nil (S : zS) : added S S [] := ⟨by show _ = _ + nI 0; rw [nI_z, Int32.add_zero], fun i _ => by show _ = _ + nI 0; rw [nI_z, Int32.add_zero]⟩
theorem added_trans {S T U : zS} {A B : List (List Nat)} (h : added S T A) (h' : added T U B) : added S U (A ++ B) := by
  refine ⟨?_, fun i hi => ?_⟩
  · rw [h'.1, h.1, Int32.add_assoc, nI_add, List.length_append]
  · rw [h'.2 i hi, h.2 i hi, Int32.add_assoc, nI_add, tl_app]
theorem seatsX {S : zS} {n : Nat} {l : List Nat} (hn : n ≤ 5) (hl : l.length = n) (e : S.1 52 1 = nI n) (hs : ∀ p, p < n → l.getD p 9 < 5 ∧ S.1 54 p = nI (l.getD p 9)) : ∃ T, f_X6_countSeats_52 S = some T ∧ kp [52, 55] S T ∧ T.1 52 1 = nI n ∧ added S T [l] := by
  unfold f_X6_countSeats_52
  rw [zlet_def]
  generalize hV : zput S 52 0 (S.1 52 0 + 1) = V
  have v0 : V.1 52 0 = S.1 52 0 + 1 := by rw [← hV]; rfl
  have v1 : V.1 52 1 = nI n := by rw [← hV]; exact e
  have kV : kp [52] S V := by rw [← hV]; exact kp_put (by decide)
  refine loopI (f := fun q (T : zS) p => f_X6_countSeats_52_L12 q (nI p) T) (fun p T => kp [55] V T ∧ ∀ i, i < 25 → T.1 55 i = S.1 55 i + (if i % 5 < p ∧ l.getD (i % 5) 9 = i / 5 then 1 else 0)) (fun o => ∃ T, o = some T ∧ kp [52, 55] S T ∧ T.1 52 1 = nI n ∧ added S T [l]) (c := n) ?_ ?_ n 0 zN V (by omega) (by show n < 10000; omega) ⟨kp_rfl _ _, fun i hi => by rw [if_neg (by omega), kV.2 55 (by decide), Int32.add_zero]⟩
  · intro q T p hp ⟨kT, hT⟩
    obtain ⟨s1, s2⟩ := hs p hp
    have e52 : T.1 52 1 = nI n := by rw [kT.2 52 (by decide)]; exact v1
    have e54 : T.1 54 p = nI (l.getD p 9) := by rw [kT.2 54 (by decide), kV.2 54 (by decide)]; exact s2
    generalize hx : l.getD p 9 = x at s1 e54
    have ev : nI x * 5 + nI p = nI (x * 5 + p) := by rw [show (5 : Int32) = nI 5 from rfl, pk_mul, nI_add]
    refine ⟨zput T 55 (x * 5 + p) (T.1 55 (x * 5 + p) + 1), ?_, kp_trans kT (kp_put (by decide)), fun i hi => ?_⟩
    · show f_X6_countSeats_52_L12 (q + 1) (nI p) T = _
      rw [f_X6_countSeats_52_L12, e52, if_pos (nI_lt hp (by omega)), if_pos (zinN (show p < 5 by omega) (by omega)), zlet_def, nI_clamp (show p < 2 ^ 31 by omega), e54, ev, if_neg (nI_not_neg (by omega)), if_pos (show nI (x * 5 + p) < 25 from nI_lt (b := 25) (by omega) (by omega)), if_pos (zinN (show x * 5 + p < 25 by omega) (by omega)), if_pos (zinN (show x * 5 + p < 25 by omega) (by omega)), zlet_def, zlet_def, nI_1, nI_clamp (show x * 5 + p < 2 ^ 31 by omega)]
    · rw [zput1_eq]
      by_cases hi2 : i = x * 5 + p
      · subst hi2
        rw [upd_at, hT _ hi, if_neg (by omega), Int32.add_zero, if_pos (by
          rw [show (x * 5 + p) % 5 = p by omega, show (x * 5 + p) / 5 = x by omega]
          exact ⟨by omega, hx⟩)]
      · rw [upd_ne _ _ _ _ hi2, hT i hi]
        congr 1
        by_cases h1 : i % 5 < p ∧ l.getD (i % 5) 9 = i / 5
        · rw [if_pos h1, if_pos ⟨by omega, h1.2⟩]
        · rw [if_neg h1, if_neg (fun z => h1 ⟨by
            by_cases hip : i % 5 = p
            · exfalso
              have := z.2
              rw [hip, hx] at this
              omega
            · omega, z.2⟩)]
  · intro q T ⟨kT, hT⟩
    have e52 : T.1 52 1 = nI n := by rw [kT.2 52 (by decide)]; exact v1
    refine ⟨T, ?_, kp_trans (kp_in kV (by decide)) (kp_in kT (by decide)), e52, ?_, fun i hi => ?_⟩
    · show f_X6_countSeats_52_L12 (q + 1) (nI n) T = _
      rw [f_X6_countSeats_52_L12, e52, if_neg (nI_nlt (Nat.le_refl n) (by omega))]
    · rw [kT.2 52 (by decide), v0]
      rfl
    · rw [hT i hi]
      congr 1
      unfold tl
      by_cases h1 : l.getD (i % 5) 9 = i / 5
      · have h2 : i % 5 < n := by
          by_cases h3 : i % 5 < n
          · exact h3
          · exfalso
            rw [List.getD_eq_getElem?_getD, List.getElem?_eq_none (by omega)] at h1
            simp at h1
            omega
        rw [if_pos ⟨h2, h1⟩]
        have hb : (l.getD (i % 5) 9 == i / 5) = true := by rw [h1]; simp
        rw [List.filter_cons, if_pos hb]
        rfl
      · rw [if_neg (fun z => h1 z.2)]
        have hb : ¬ (l.getD (i % 5) 9 == i / 5) = true := by simpa using h1
        rw [List.filter_cons, if_neg hb]
        rfl
theorem getD9_l (l l' : List Nat) {i : Nat} (h : i < l.length) : (l ++ l').getD i 9 = l.getD i 9 := by
  simp [List.getD_eq_getElem?_getD, List.getElem?_append_left h]
theorem getD9_e (l : List Nat) (b : Nat) : (l ++ [b]).getD l.length 9 = b := by
  simp [List.getD_eq_getElem?_getD]
theorem getD9_mem {l : List Nat} {p : Nat} (h : p < l.length) : l.getD p 9 ∈ l := by
  rw [List.getD_eq_getElem?_getD, List.getElem?_eq_getElem h]
  exact List.getElem_mem h
theorem seatX {W : Nat → Int32} {n : Nat} (hn : n ≤ 5) : ∀ (m d : Nat) (pre : List Nat) (S : zS), pre.length + m = n → m < d → (∀ x, x ∈ pre → x < n) → S.1 52 1 = nI n → (∀ b, b < n → S.1 53 b = W b) → (∀ p, p < pre.length → S.1 54 p = nI (pre.getD p 9)) → ∃ T, f_X6_seatFrom_52 d (nI pre.length) (mask pre) S = some T ∧ kp [52, 54, 55] S T ∧ T.1 52 1 = nI n ∧ (∀ p, p < pre.length → T.1 54 p = nI (pre.getD p 9)) ∧ added S T ((dfs (fun p b => !p.contains b && gW W p b) n m pre).map (fun l => pre ++ l)) := by
  intro m
  induction m with
  | zero =>
    intro d pre S hm hd hpre e53 hW hs
    obtain ⟨d, rfl⟩ : ∃ k, d = k + 1 := ⟨d - 1, by omega⟩
    have hln : pre.length = n := by omega
    obtain ⟨T, eT, kT, t1, hT⟩ := seatsX (S := S) hn hln e53 (fun p hp => ⟨by
      have := hpre _ (getD9_mem (l := pre) (p := p) (by omega))
      omega, hs p (by omega)⟩)
    refine ⟨T, ?_, kp_in kT (by decide), t1, fun p hp => ?_, ?_⟩
    · show fb_X6_seatFrom_52 (f_X6_seatFrom_52 d) (nI pre.length) (mask pre) S = _
      unfold fb_X6_seatFrom_52 f_X6_seatFrom_52_B13
      rw [e53, hln, if_neg (nI_nlt (Nat.le_refl n) (by omega)), eT, zu_def]
    · rw [kT.2 54 (by decide)]; exact hs p hp
    · show added S T [pre ++ []]
      rw [List.append_nil]
      exact hT
  | succ m ih =>
    intro d pre S hm hd hpre e53 hW hs
    obtain ⟨d, rfl⟩ : ∃ k, d = k + 1 := ⟨d - 1, by omega⟩
    have hln : pre.length < n := by omega
    have h32 : ∀ x, x ∈ pre → x < 32 := fun x hx => by have := hpre x hx; omega
    have eF : f_X6_seatFrom_52 (d + 1) (nI pre.length) (mask pre) S = f_X6_seatFrom_52_L20 (f_X6_seatFrom_52 d) zN (nI pre.length) (mask pre) (nI 0) S := by
      show fb_X6_seatFrom_52 (f_X6_seatFrom_52 d) (nI pre.length) (mask pre) S = _
      unfold fb_X6_seatFrom_52
      rw [e53, if_pos (nI_lt hln (by omega)), if_pos (show nI pre.length < 5 from nI_lt (b := 5) (by omega) (by omega))]
      rfl
    rw [eF]
    refine loopI (f := fun q (T : zS) b => f_X6_seatFrom_52_L20 (f_X6_seatFrom_52 d) q (nI pre.length) (mask pre) (nI b) T) (fun b T => kp [52, 54, 55] S T ∧ T.1 52 1 = nI n ∧ (∀ p, p < pre.length → T.1 54 p = nI (pre.getD p 9)) ∧ added S T (((List.range b).flatMap (fun b => if (!pre.contains b && gW W pre b) then (dfs (fun p b => !p.contains b && gW W p b) n m (pre ++ [b])).map (fun l => b :: l) else [])).map (fun l => pre ++ l))) (fun o => ∃ T, o = some T ∧ kp [52, 54, 55] S T ∧ T.1 52 1 = nI n ∧ (∀ p, p < pre.length → T.1 54 p = nI (pre.getD p 9)) ∧ added S T ((dfs (fun p b => !p.contains b && gW W p b) n (m + 1) pre).map (fun l => pre ++ l))) (c := n) ?_ ?_ n 0 zN S (by omega) (by show n < 10000; omega) ⟨kp_rfl _ _, e53, hs, added_nil S⟩
    · intro q T b hb ⟨kT, t1, ts, hT⟩
      have e53T : T.1 53 b = W b := by rw [kT.2 53 (by decide)]; exact hW b hb
      have x1 : f_X6_seatFrom_52_L20 (f_X6_seatFrom_52 d) (q + 1) (nI pre.length) (mask pre) (nI b) T = if (!pre.contains b && gW W pre b) = true then zu (f_X6_seatFrom_52 d (nI (pre.length + 1)) (mask (pre ++ [b])) (zput T 54 pre.length (nI b))) fun T8 => f_X6_seatFrom_52_L20 (f_X6_seatFrom_52 d) q (nI pre.length) (mask pre) (nI (b + 1)) T8 else f_X6_seatFrom_52_L20 (f_X6_seatFrom_52 d) q (nI pre.length) (mask pre) (nI (b + 1)) T := by
        rw [f_X6_seatFrom_52_L20, t1, if_pos (nI_lt hb (by omega))]
        simp only [b_ask0 (mask pre) (show b < 31 by omega), bt_mask h32 (show b < 32 by omega), eq_true (zinN (show b < 5 by omega) (by omega)), eq_true (zinN (show pre.length < 5 by omega) (by omega)), ↓reduceIte, zlet_def, nI_1, nI_clamp (show b < 2 ^ 31 by omega), nI_clamp (show pre.length < 2 ^ 31 by omega), e53T, mask_snoc]
        cases hc : pre.contains b with
        | true => simp
        | false =>
          unfold gW
          by_cases hg : W b &&& (mask pre ^^^ (-1)) = 0
          · simp [hg]
          · simp [hg]
      have eR : (List.range (b + 1)) = List.range b ++ [b] := List.range_succ
      cases hok : (!pre.contains b && gW W pre b) with
      | true =>
        rw [hok, if_pos rfl] at x1
        obtain ⟨T8, e8, k8, t81, ts8, a8⟩ := ih d (pre ++ [b]) (zput T 54 pre.length (nI b)) (by rw [List.length_append]; show pre.length + 1 + m = n; omega) (by omega) (fun x hx => by
          rcases List.mem_append.mp hx with h | h
          · exact hpre x h
          · have : x = b := by simpa using h
            omega) t1 (fun b' hb' => by
          show T.1 53 b' = _
          rw [kT.2 53 (by decide)]; exact hW b' hb') (fun p hp => by
          rw [zput1_eq]
          by_cases hpl : p = pre.length
          · rw [hpl, upd_at, getD9_e]
          · rw [List.length_append] at hp
            have hp' : p < pre.length + 1 := hp
            rw [upd_ne _ _ _ _ hpl, getD9_l _ _ (by omega)]
            exact ts p (by omega))
        have el : (pre ++ [b]).length = pre.length + 1 := by rw [List.length_append]; rfl
        rw [el] at e8 ts8
        rw [e8, zu_def] at x1
        refine ⟨T8, x1, kp_trans kT (kp_trans (kp_put (by decide)) k8), t81, fun p hp => ?_, ?_⟩
        · rw [ts8 p (by omega), getD9_l _ _ hp]
        · rw [eR, List.flatMap_append, List.map_append]
          refine added_trans hT ?_
          have e1 : (([b].flatMap (fun b => if (!pre.contains b && gW W pre b) then (dfs (fun p b => !p.contains b && gW W p b) n m (pre ++ [b])).map (fun l => b :: l) else [])).map (fun l => pre ++ l)) = (dfs (fun p b => !p.contains b && gW W p b) n m (pre ++ [b])).map (fun l => pre ++ [b] ++ l) := by
            rw [List.flatMap_cons, List.flatMap_nil, List.append_nil, hok, if_pos rfl, List.map_map]
            refine List.map_congr_left fun l _ => ?_
            show pre ++ (b :: l) = pre ++ [b] ++ l
            rw [List.append_assoc]
            rfl
          rw [e1]
          exact a8
      | false =>
        rw [hok, if_neg (by decide)] at x1
        refine ⟨T, x1, kT, t1, ts, ?_⟩
        rw [eR, List.flatMap_append, List.map_append]
        have e1 : (([b].flatMap (fun b => if (!pre.contains b && gW W pre b) then (dfs (fun p b => !p.contains b && gW W p b) n m (pre ++ [b])).map (fun l => b :: l) else [])).map (fun l => pre ++ l)) = [] := by
          rw [List.flatMap_cons, List.flatMap_nil, List.append_nil, hok, if_neg (by decide)]
          rfl
        rw [e1, List.append_nil]
        exact hT
    · intro q T ⟨kT, t1, ts, hT⟩
      refine ⟨T, ?_, kT, t1, ts, hT⟩
      show f_X6_seatFrom_52_L20 (f_X6_seatFrom_52 d) (q + 1) (nI pre.length) (mask pre) (nI n) T = _
      rw [f_X6_seatFrom_52_L20, t1, if_neg (nI_nlt (Nat.le_refl n) (by omega))]
/-! what must be laid ahead of what -/
def ndR (E B Td Ud : Nat → Int32) (kk : Int32) (n J b i : Nat) : Prop := ∃ j, j < J ∧ ¬ kk < Td j ∧ (Ud j = -1 ∨ kk < Ud j) ∧ E j = nI i ∧ B j = nI b ∧ i < n ∧ b < n
def ndP (am rp E B Td Ud : Nat → Int32) (kk : Int32) (n J b i : Nat) : Prop := am b = nI i ∨ rp b = nI i ∨ ndR E B Td Ud kk n J b i
theorem bitX {x : Int32} {b : Nat} (h : isI (-1) (b - 1) x) (hb : b ≤ 30) (S : zS) : ∃ r, f_X6_bitOf x S = some (r, S) ∧ ∀ i, i < 32 → (bt r i = true ↔ x = nI i) := by
  unfold f_X6_bitOf
  by_cases h0 : x < 0
  · refine ⟨0, by rw [if_pos h0], fun i hi => ?_⟩
    rw [b_0]
    constructor
    · intro h; cases h
    · intro e; rw [e] at h0; exact absurd h0 (nI_not_neg (by omega))
  · obtain ⟨j, hj, rfl⟩ := nI_of h0
    have hj2 := (isI_toInt h (by omega) (by omega)).2
    rw [nI_toInt hj] at hj2
    refine ⟨_, by rw [if_neg h0], fun i hi => ?_⟩
    rw [b_bit (by omega) hi, decide_eq_true_eq, nI_eq hj (by omega)]
    exact ⟨fun z => z.symm, fun z => z.symm⟩
theorem knownX {S : zS} {rn j : Nat} (hr : rn ≤ 30) (hj : j < rn) (e : S.1 47 0 = nI rn) (kk : Int32) : ∃ r, f_X8_isKnown_47 (nI j) kk S = some (r, S) ∧ (r = 0 ∨ r = 1) ∧ (¬ r = 0 ↔ ¬ kk < S.1 50 j ∧ (S.1 51 j = -1 ∨ kk < S.1 51 j)) := by
  unfold f_X8_isKnown_47
  have hz : zin (nI j) 30 := zinN (by omega) (by omega)
  rw [if_neg (nI_not_neg (by omega)), e, if_pos (nI_lt hj (by omega)), if_pos (show nI j < 30 from nI_lt (b := 30) (by omega) (by omega)), if_pos hz, if_pos hz, if_pos hz, nI_clamp (show j < 2 ^ 31 by omega)]
  by_cases h1 : kk < S.1 50 j
  · rw [if_pos h1]
    exact ⟨0, rfl, Or.inl rfl, by simp [h1]⟩
  · rw [if_neg h1]
    by_cases h2 : S.1 51 j = -1
    · rw [if_pos h2]
      exact ⟨1, rfl, Or.inr rfl, by simp [h1, h2]⟩
    · rw [if_neg h2]
      by_cases h3 : kk < S.1 51 j
      · rw [if_pos h3]
        exact ⟨1, rfl, Or.inr rfl, by simp [h1, h3]⟩
      · rw [if_neg h3]
        exact ⟨0, rfl, Or.inl rfl, by simp [h2, h3]⟩
theorem seatedX {S : zS} {n x : Nat} (hn : n ≤ 5) (hx : x < 5) (e : S.1 52 1 = nI n) : f_X6_isSeated_52 (nI x) S = some (if x < n then 1 else 0, S) := by
  unfold f_X6_isSeated_52
  rw [if_neg (nI_not_neg (by omega)), e]
  by_cases h : x < n
  · rw [if_pos (nI_lt h (by omega)), if_pos (show nI x < 5 from nI_lt (b := 5) hx (by omega)), if_pos h]
  · rw [if_neg (nI_nlt (by omega) (by omega)), if_neg h]
