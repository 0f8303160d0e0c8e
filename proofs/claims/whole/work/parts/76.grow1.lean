/-! ===== the formula: signs, the open ones, the steps ===== -/
def isOp (c : Int32) : Prop := c = -6 ∨ c = -7 ∨ c = -8 ∨ c = -9 ∨ c = -10 ∨ c = -11 ∨ c = -12 ∨ c = -13 ∨ c = -14 ∨ c = -15 ∨ c = -16
def tg (c : Int32) : Nat := if c = -6 then 3 else if c = -7 then 1 else if c = -8 then 2 else if c = -9 then 4 else if c = -10 then 4 else if c = -11 then 4 else if c = -12 then 5 else if c = -13 then 5 else 6
def oc (c : Int32) : Int32 := if c = 1 then 20 else if c = -6 then 21 else marg c
theorem tightM {c : Int32} (h : isOp c) (S : zS) : f_X12_tight (oc c) S = some (nI (tg c), S) := by
  rcases h with rfl | rfl | rfl | rfl | rfl | rfl | rfl | rfl | rfl | rfl | rfl <;> rfl
theorem oc_op {c : Int32} (h : isOp c) : ¬ oc c = 20 ∧ ¬ c = 1 ∧ (oc c = 21 ↔ c = -6) ∧ tg c < 7 ∧ 1 ≤ tg c := by
  rcases h with rfl | rfl | rfl | rfl | rfl | rfl | rfl | rfl | rfl | rfl | rfl <;> decide
theorem op_add {c : Int32} (h : isOp c) : (c = -6 ∧ mstep c = 2 ∧ marg c = 0) ∨ (¬ c = -6 ∧ mstep c = 3 ∧ marg c = oc c) := by
  rcases h with rfl | rfl | rfl | rfl | rfl | rfl | rfl | rfl | rfl | rfl | rfl <;> decide
def ti (l : List Int32) (i : Nat) : Int32 := l.getD (l.length - 1 - i) 0
theorem ti_lt {l : List Int32} {c : Int32} {k : Nat} (h : k < l.length) : ti (c :: l) k = ti l k := by
  unfold ti
  rw [List.length_cons, show l.length + 1 - 1 - k = (l.length - 1 - k) + 1 by omega, List.getD_cons_succ]
theorem ti_at (l : List Int32) (c : Int32) : ti (c :: l) l.length = c := by
  unfold ti
  rw [List.length_cons, show l.length + 1 - 1 - l.length = 0 by omega, List.getD_cons_zero]
def dp : List Int32 → Nat
  | [] => 0
  | c :: l => dp l + (if c = 1 ∨ c = -6 then 1 else 0)
def nb : List Int32 → Nat
  | [] => 0
  | c :: l => nb l + (if c = 1 then 0 else 1)
theorem dp_app (a b : List Int32) : dp (a ++ b) = dp a + dp b := by
  induction a with
  | nil => show dp b = 0 + dp b; omega
  | cons c a ih =>
    show dp (a ++ b) + _ = dp a + _ + dp b
    omega
theorem nb_app (a b : List Int32) : nb (a ++ b) = nb a + nb b := by
  induction a with
  | nil => show nb b = 0 + nb b; omega
  | cons c a ih =>
    show nb (a ++ b) + _ = nb a + _ + nb b
    omega
theorem nb_ops {a : List Int32} (h : ∀ c ∈ a, isOp c) : nb a = a.length := by
  induction a with
  | nil => rfl
  | cons c a ih =>
    show nb a + _ = a.length + 1
    rw [ih (fun c' hc => h c' (List.mem_cons_of_mem _ hc)), if_neg (oc_op (h c List.mem_cons_self)).2.1]
/-- the open signs and brackets, the last one ahead -/
def stk (l : List Int32) (M : zS) : Prop := l.length ≤ 100 ∧ M.1 0 19 = nI l.length ∧ (∀ i, i < l.length → M.1 7 i = oc (ti l i)) ∧ (∀ c ∈ l, c = 1 ∨ isOp c) ∧ M.1 0 23 = nI (dp l)
/-- the reference's store but for the formula's fields -/
def kM (S T : zS) : Prop := (∀ k, k ≠ 0 → k ≠ 3 → k ≠ 4 → k ≠ 7 → T.1 k = S.1 k) ∧ (∀ i, i ≠ 17 → i ≠ 19 → i ≠ 20 → i ≠ 22 → i ≠ 23 → T.1 0 i = S.1 0 i) ∧ T.2 = S.2
theorem kM_rfl (S : zS) : kM S S := ⟨fun _ _ _ _ _ => rfl, fun _ _ _ _ _ _ => rfl, rfl⟩
theorem kM_trans {S T U : zS} (h : kM S T) (h' : kM T U) : kM S U := ⟨fun k a b c d => (h'.1 k a b c d).trans (h.1 k a b c d), fun i a b c d e => (h'.2.1 i a b c d e).trans (h.2.1 i a b c d e), h'.2.2.trans h.2.2⟩
theorem kM_put0 {S : zS} {i : Nat} {x : Int32} (h : i = 17 ∨ i = 19 ∨ i = 20 ∨ i = 22 ∨ i = 23) : kM S (zput S 0 i x) := ⟨fun k a _ _ _ => zput1_ne _ _ _ _ _ a, fun j a b c d e => by rw [zput1_eq, upd_ne _ _ _ _ (by omega)], rfl⟩
theorem kM_put {S : zS} {k i : Nat} {x : Int32} (h : k = 3 ∨ k = 4 ∨ k = 7) : kM S (zput S k i x) := ⟨fun k' a b c d => zput1_ne _ _ _ _ _ (by omega), fun j _ _ _ _ _ => by rw [zput1_ne _ _ _ _ _ (by omega)], rfl⟩
theorem cur_c {cb : Nat → Nat} {n q : Nat} {X M M' : zS} (h : cur cb n q X M) (hc : kM M M') : cur cb n q X M' := cur_e h rfl (fun _ _ => rfl) rfl (fun _ => rfl) (hc.1 1 (by decide) (by decide) (by decide) (by decide)) (fun i h1 h2 => hc.2.1 i (by omega) (by omega) (by omega) (by omega) (by omega)) (by rw [hc.2.2])
theorem addS {M : zS} {ns : Nat} (hn : ns < 320) (e : M.1 0 17 = nI ns) (a b : Int32) : f_X12_add a b M = some (zput (zput (zput M 3 ns a) 4 ns b) 0 17 (nI (ns + 1))) := by
  unfold f_X12_add
  have e2 : (zput M 3 ns a).1 0 17 = nI ns := e
  have e3 : (zput (zput M 3 ns a) 4 ns b).1 0 17 = nI ns := e
  rw [e, if_pos (zinN hn (by omega)), zlet_def, nI_clamp (by omega), e2, if_pos (zinN hn (by omega)), zlet_def, nI_clamp (by omega), zlet_def, e3, nI_1]
def stopAt (x : Nat) : List Int32 → Prop
  | [] => True
  | c :: _ => c = 1 ∨ isOp c ∧ tg c < x
theorem closeM {l : List Int32} {x : Nat} (hx : x ≤ 7) (hs : stopAt x l) : ∀ (p : List Int32) (fuel ns : Nat) (M : zS), stk (p ++ l) M → M.1 0 17 = nI ns → ns + p.length ≤ 320 → (∀ c ∈ p, isOp c ∧ x ≤ tg c) → p.length < fuel → ∃ M', f_X12_close_L0 fuel (nI x) M = some M' ∧ stk l M' ∧ M'.1 0 17 = nI (ns + p.length) ∧ (∀ i, i < p.length → M'.1 3 (ns + i) = mstep (p.getD i 0) ∧ M'.1 4 (ns + i) = marg (p.getD i 0)) ∧ (∀ i, i < ns → M'.1 3 i = M.1 3 i ∧ M'.1 4 i = M.1 4 i) ∧ kM M M' ∧ M'.1 0 20 = M.1 0 20 ∧ M'.1 0 22 = M.1 0 22 := by
  intro p
  induction p with
  | nil =>
    intro fuel ns M hk e17 hlen hp hf
    obtain ⟨fuel, rfl⟩ : ∃ k, fuel = k + 1 := ⟨fuel - 1, by omega⟩
    refine ⟨M, ?_, hk, e17, fun i hi => absurd hi (by show ¬ i < 0; omega), fun _ _ => ⟨rfl, rfl⟩, kM_rfl M, rfl, rfl⟩
    obtain ⟨h1, h2, h3, h4, -⟩ := hk
    rw [f_X12_close_L0]
    match l, hs with
    | [], _ => rw [show M.1 0 19 = nI 0 from h2, if_neg (by decide)]
    | c :: l', hs =>
      have h2' : M.1 0 19 = nI (l'.length + 1) := h2
      have h3' : M.1 7 l'.length = oc c := by
        have := h3 l'.length (by show l'.length < l'.length + 1; omega)
        rw [this]
        show oc (ti (c :: l') l'.length) = _
        rw [ti_at]
      have hl' : l'.length + 1 ≤ 100 := h1
      have e1 : nI (l'.length + 1) - 1 = nI l'.length := pk_sub (b := 1) (by omega)
      have hz : zin (nI l'.length) 160 := zinN (by omega) (by omega)
      rw [h2', if_pos (show (0 : Int32) < nI (l'.length + 1) from nI_lt (a := 0) (by omega) (by omega)), e1, if_pos hz]
      simp only [nI_clamp (show l'.length < 2 ^ 31 by omega), h3']
      rcases hs with rfl | ⟨ho, hlt⟩
      · rw [if_pos (show oc 1 = 20 from rfl)]
      · rw [if_neg (oc_op ho).1, if_pos hz, tightM ho, zb_def, if_pos (nI_lt hlt (by omega))]
  | cons c p ih =>
    intro fuel ns M hk e17 hlen hp hf
    obtain ⟨fuel, rfl⟩ : ∃ k, fuel = k + 1 := ⟨fuel - 1, by omega⟩
    obtain ⟨h1, h2, h3, h4, h5⟩ := hk
    obtain ⟨ho, hge⟩ := hp c List.mem_cons_self
    have hlen' : ns + (p.length + 1) ≤ 320 := hlen
    have hpl : (p ++ l).length + 1 ≤ 100 := h1
    have h2' : M.1 0 19 = nI ((p ++ l).length + 1) := h2
    have h3' : M.1 7 (p ++ l).length = oc c := by
      have := h3 (p ++ l).length (by show (p ++ l).length < (p ++ l).length + 1; omega)
      rw [this]
      show oc (ti (c :: (p ++ l)) (p ++ l).length) = _
      rw [ti_at]
    have e1 : nI ((p ++ l).length + 1) - 1 = nI (p ++ l).length := pk_sub (b := 1) (by omega)
    have hz : zin (nI (p ++ l).length) 160 := zinN (by omega) (by omega)
    have hd5 : M.1 0 23 = nI (dp (p ++ l) + (if c = 1 ∨ c = -6 then 1 else 0)) := h5
    have hrest : ∀ T : zS, T.1 0 19 = nI (p ++ l).length → T.1 7 = M.1 7 → T.1 0 23 = nI (dp (p ++ l)) → stk (p ++ l) T := fun T t1 t2 t3 => ⟨by omega, t1, fun i hi => by rw [t2, h3 i (by show i < (p ++ l).length + 1; omega)]; show oc (ti (c :: (p ++ l)) i) = _; rw [ti_lt hi], fun c' hc' => h4 c' (List.mem_cons_of_mem _ hc'), t3⟩
    have hT : (zput M 0 19 (nI (p ++ l).length)).1 0 17 = nI ns := by rw [zput1_eq, upd_ne _ _ _ _ (by decide)]; exact e17
    have finish : ∀ (T : zS), stk (p ++ l) T → T.1 0 17 = nI (ns + 1) → T.1 3 ns = mstep c → T.1 4 ns = marg c → (∀ i, i < ns → T.1 3 i = M.1 3 i ∧ T.1 4 i = M.1 4 i) → kM M T → T.1 0 20 = M.1 0 20 → T.1 0 22 = M.1 0 22 → f_X12_close_L0 (fuel + 1) (nI x) M = f_X12_close_L0 fuel (nI x) T → ∃ M', f_X12_close_L0 (fuel + 1) (nI x) M = some M' ∧ stk l M' ∧ M'.1 0 17 = nI (ns + (c :: p).length) ∧ (∀ i, i < (c :: p).length → M'.1 3 (ns + i) = mstep ((c :: p).getD i 0) ∧ M'.1 4 (ns + i) = marg ((c :: p).getD i 0)) ∧ (∀ i, i < ns → M'.1 3 i = M.1 3 i ∧ M'.1 4 i = M.1 4 i) ∧ kM M M' ∧ M'.1 0 20 = M.1 0 20 ∧ M'.1 0 22 = M.1 0 22 := by
      intro T s1 s2 s3 s4 s5 s6 s7 s8 s9
      obtain ⟨M', g1, g2, g3, g4, g5, g6, g7, g8⟩ := ih fuel (ns + 1) T s1 s2 (by omega) (fun c' hc' => hp c' (List.mem_cons_of_mem _ hc')) (by have : (c :: p).length < fuel + 1 := hf; rw [List.length_cons] at this; omega)
      refine ⟨M', s9.trans g1, g2, ?_, fun i hi => ?_, fun i hi => ?_, kM_trans s6 g6, g7.trans s7, g8.trans s8⟩
      · rw [g3, List.length_cons, show ns + 1 + p.length = ns + (p.length + 1) by omega]
      · cases i with
        | zero =>
          rw [Nat.add_zero, (g5 ns (by omega)).1, (g5 ns (by omega)).2, List.getD_cons_zero]
          exact ⟨s3, s4⟩
        | succ i =>
          rw [List.getD_cons_succ, show ns + (i + 1) = ns + 1 + i by omega]
          exact g4 i (by rw [List.length_cons] at hi; omega)
      · rw [(g5 i (by omega)).1, (g5 i (by omega)).2]
        exact s5 i hi
    have hbase : f_X12_close_L0 (fuel + 1) (nI x) M = if c = -6 then f_X12_close_L0 fuel (nI x) (zput (zput (zput (zput (zput M 0 19 (nI (p ++ l).length)) 3 ns 2) 4 ns 0) 0 17 (nI (ns + 1))) 0 23 (nI (dp (p ++ l)))) else f_X12_close_L0 fuel (nI x) (zput (zput (zput (zput M 0 19 (nI (p ++ l).length)) 3 ns 3) 4 ns (oc c)) 0 17 (nI (ns + 1))) := by
      rw [f_X12_close_L0, h2', if_pos (show (0 : Int32) < nI ((p ++ l).length + 1) from nI_lt (a := 0) (by omega) (by omega)), e1, if_pos hz]
      simp only [nI_clamp (show (p ++ l).length < 2 ^ 31 by omega), h3']
      rw [if_neg (oc_op ho).1, if_pos hz, tightM ho, zb_def, if_neg (nI_nlt hge (by have := (oc_op ho).2.2.2.1; omega)), zlet_def, h2', e1, show (zput M 0 19 (nI (p ++ l).length)).1 0 19 = nI (p ++ l).length by rw [zput1_eq, upd_at], if_pos hz]
      simp only [nI_clamp (show (p ++ l).length < 2 ^ 31 by omega), show (zput M 0 19 (nI (p ++ l).length)).1 7 (p ++ l).length = oc c from h3']
      by_cases h6 : c = -6
      · rw [if_pos ((oc_op ho).2.2.1.mpr h6), if_pos h6, addS (by omega) hT, zu_def, zlet_def]
        have e23 : (zput (zput (zput (zput M 0 19 (nI (p ++ l).length)) 3 ns 2) 4 ns 0) 0 17 (nI (ns + 1))).1 0 23 = nI (dp (p ++ l) + 1) := by
          show M.1 0 23 = _
          rw [hd5, if_pos (Or.inr h6)]
        rw [e23, show nI (dp (p ++ l) + 1) - 1 = nI (dp (p ++ l)) from pk_sub (b := 1) (by omega)]
      · rw [if_neg (fun z => h6 ((oc_op ho).2.2.1.mp z)), if_neg h6, if_pos hz, addS (by omega) hT, zu_def]
    rcases op_add ho with ⟨h6, m1, m2⟩ | ⟨h6, m1, m2⟩
    · rw [if_pos h6] at hbase
      refine finish (zput (zput (zput (zput (zput M 0 19 (nI (p ++ l).length)) 3 ns 2) 4 ns 0) 0 17 (nI (ns + 1))) 0 23 (nI (dp (p ++ l)))) (hrest _ ?_ rfl ?_) ?_ ?_ ?_ (fun i hi => ?_) ?_ rfl rfl hbase
      · show (zput (zput (zput (zput M 0 19 (nI (p ++ l).length)) 3 ns 2) 4 ns 0) 0 17 (nI (ns + 1))).1 0 19 = _
        rfl
      · rw [zput1_eq, upd_at]
      · rw [zput1_eq, upd_ne _ _ _ _ (by decide), zput1_eq, upd_at]
      · rw [m1]
        show upd (M.1 3) ns 2 ns = 2
        rw [upd_at]
      · rw [m2]
        show upd (M.1 4) ns 0 ns = 0
        rw [upd_at]
      · show upd (M.1 3) ns 2 i = M.1 3 i ∧ upd (M.1 4) ns 0 i = M.1 4 i
        rw [upd_ne _ _ _ _ (by omega), upd_ne _ _ _ _ (by omega)]
        exact ⟨rfl, rfl⟩
      · exact kM_trans (kM_trans (kM_trans (kM_trans (kM_put0 (by omega)) (kM_put (by omega))) (kM_put (by omega))) (kM_put0 (by omega))) (kM_put0 (by omega))
    · rw [if_neg h6] at hbase
      refine finish (zput (zput (zput (zput M 0 19 (nI (p ++ l).length)) 3 ns 3) 4 ns (oc c)) 0 17 (nI (ns + 1))) (hrest _ ?_ rfl ?_) ?_ ?_ ?_ (fun i hi => ?_) ?_ rfl rfl hbase
      · rfl
      · show M.1 0 23 = _
        rw [hd5, if_neg (fun z => z.elim (oc_op ho).2.1 h6)]
        rfl
      · rw [zput1_eq, upd_at]
      · rw [m1]
        show upd (M.1 3) ns 3 ns = 3
        rw [upd_at]
      · rw [m2]
        show upd (M.1 4) ns (oc c) ns = oc c
        rw [upd_at]
      · show upd (M.1 3) ns 3 i = M.1 3 i ∧ upd (M.1 4) ns (oc c) i = M.1 4 i
        rw [upd_ne _ _ _ _ (by omega), upd_ne _ _ _ _ (by omega)]
        exact ⟨rfl, rfl⟩
      · exact kM_trans (kM_trans (kM_trans (kM_put0 (by omega)) (kM_put (by omega))) (kM_put (by omega))) (kM_put0 (by omega))
