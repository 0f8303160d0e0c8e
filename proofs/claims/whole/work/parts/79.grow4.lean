/-! ===== the formula: how the two readings go on ===== -/
def RS (k : Nat) (M : zS) : Option zS := f_X12_readGrow_L30 k 1 M
def RU (m k : Nat) (M : zS) : Option zS := zu (f_X12_unit_L2 m 1 M) fun T => RS k T
theorem rsF {X M : zS} {k : Nat} (h : flt X M) (hk : 0 < k) : RS k M = some M := by
  obtain ⟨k, rfl⟩ : ∃ j, k = j + 1 := ⟨k - 1, by omega⟩
  have hf := (flt_pos h).2
  unfold RS
  rw [f_X12_readGrow_L30, if_neg (by decide), if_neg hf]
  unfold f_X12_readGrow_B157 f_X12_readGrow_B176
  rw [if_neg hf, if_neg hf]
theorem ruF {X M : zS} {m k : Nat} (h : flt X M) (hm : 0 < m) (hk : 0 < k) : zu (f_X12_unit_L2 m 1 M) (fun T => RS k T) = some M := by
  obtain ⟨m, rfl⟩ : ∃ j, m = j + 1 := ⟨m - 1, by omega⟩
  have hf := flt_pos h
  rw [f_X12_unit_L2, if_neg (by decide), if_neg hf.2]
  unfold f_X12_unit_B101
  rw [if_pos hf.1, zu_def, rsF h hk]
def thr : Nat → Nat
  | 0 => 1
  | 1 => 2
  | l + 2 => l + 4
def lo : Nat → Nat
  | 0 => 1
  | 1 => 2
  | 2 => 3
  | l + 3 => l + 5
theorem stop_mono {x y : Nat} (h : x ≤ y) : ∀ {l : List Int32}, stopAt x l → stopAt y l
  | [], _ => trivial
  | _ :: _, h' => h'.imp id (fun z => ⟨z.1, by omega⟩)
theorem hr_app : ∀ (p r : List Int32), hr p = true → hr (p ++ r) = true
  | [], _, h => by cases h
  | c :: p, r, h => by
    unfold hr at h
    show (if c = 1 then false else if 4 < tg c then hr (p ++ r) else decide (tg c = 4)) = true
    by_cases h1 : c = 1
    · rw [if_pos h1] at h; cases h
    · rw [if_neg h1] at h ⊢
      by_cases h4 : 4 < tg c
      · rw [if_pos h4] at h ⊢; exact hr_app p r h
      · rw [if_neg h4] at h ⊢; exact h
theorem hr_hi : ∀ (p r : List Int32), (∀ c ∈ p, isOp c ∧ 5 ≤ tg c) → hr (p ++ r) = hr r
  | [], _, _ => rfl
  | c :: p, r, h => by
    obtain ⟨ho, h5⟩ := h c List.mem_cons_self
    show (if c = 1 then false else if 4 < tg c then hr (p ++ r) else decide (tg c = 4)) = _
    rw [if_neg (oc_op ho).2.1, if_pos (by omega)]
    exact hr_hi p r (fun c' hc' => h c' (List.mem_cons_of_mem _ hc'))
theorem hr_stop : ∀ {l : List Int32}, stopAt 4 l → hr l = false
  | [], _ => rfl
  | c :: l, h => by
    unfold hr
    rcases h with rfl | ⟨ho, h4⟩
    · rfl
    · rw [if_neg (oc_op ho).2.1, if_neg (by omega)]
      simp; omega
theorem may_stop : ∀ {l : List Int32}, stopAt 4 l → mayN l = true
  | [], _ => rfl
  | c :: l, h => by
    unfold mayN
    rcases h with rfl | ⟨ho, h4⟩
    · rfl
    · simp [h4]
def nxT (lv : Nat) (p : List Int32) (X : zS) : Prop := lvC (jc X) < lv ∨ lvC (jc X) = 9 ∨ lvC (jc X) = 2 ∧ lv ≤ 2 ∧ hr p = true
/-- the outcome of a level -/
def LO (cb : Nat → Nat) (n q lv w : Nat) (l : List Int32) (u : Nat) (dl : Int) (rx : Option (Int32 × zS)) (rm : Option zS) (X M : zS) : Prop :=
  (∃ X' M', rx = some (0, X') ∧ rm = some M' ∧ flt X' M' ∧ gX X X' ∧ gMf M M') ∨ ∃ X' M' q' k' p u' ns', rx = some (1, X') ∧ rm = RS k' M' ∧ vX X X' ∧ vM M M' ∧ zN ≤ k' + q' ∧ q < q' ∧ gI cb n q' l p u' ns' (dl + 1) X' M' ∧ ns' + nb (p ++ l) + 1 ≤ 9 * u' ∧ u < u' ∧ (∀ c ∈ p, isOp c ∧ lo lv ≤ tg c) ∧ p.length ≤ (5 - lv) + (7 - w) ∧ nxT lv p X'
def LV (cb : Nat → Nat) (n : Nat) (F : Int32 → Int32 → zS → Option (Int32 × zS)) (lv w : Nat) : Prop := ∀ (l : List Int32) (u ns q m k : Nat) (dl : Int) (X M : zS), dp l = w → stopAt (thr lv) l → l.length ≤ 6 * w + lv → gI cb n q l [] u ns dl X M → ns + nb l ≤ 9 * u + w → zN ≤ m + w → zN ≤ k + q → (lv ≤ 2 ∨ ¬ (X.1 2 6 = 1 ∧ X.1 2 7 = 19) ∨ mayN l = false) → LO cb n q lv w l u dl (F (nI lv) (nI w) X) (RU m k M) X M
theorem LO_from {cb : Nat → Nat} {n q q1 lv w : Nat} {l : List Int32} {u : Nat} {dl : Int} {rx : Option (Int32 × zS)} {rm : Option zS} {X M X1 M1 : zS} (h : LO cb n q1 lv w l u dl rx rm X1 M1) (hX : vX X X1) (hM : vM M M1) (hq : q ≤ q1) : LO cb n q lv w l u dl rx rm X M := by
  rcases h with ⟨X', M', a, b, c, d, e⟩ | ⟨X', M', q', k', p, u', ns', a1, a2, a3, a4, a5, a6, a7, a8, a9, a10, a11, a12⟩
  · exact Or.inl ⟨X', M', a, b, c, gX_trans (gX_v hX) d, gMf_trans (gMf_v hM) e⟩
  · exact Or.inr ⟨X', M', q', k', p, u', ns', a1, a2, vX_trans hX a3, vM_trans hM a4, a5, by omega, a7, a8, a9, a10, a11, a12⟩
theorem q_le {cb : Nat → Nat} {n q : Nat} {X M : zS} (h : cur cb n q X M) : q ≤ 1600 := by
  have := h.1.1
  have := (tk_q h.2.1).1
  omega
/-- a sign or bracket laid open, in the reference -/
theorem openM {l : List Int32} {M : zS} {c : Int32} (h : stk l M) (hl : l.length < 100) (hc : c = 1 ∨ c = -6) : stk (c :: l) (zput (zput (zput M 7 l.length (oc c)) 0 19 (nI (l.length + 1))) 0 23 (nI (dp l + 1))) := by
  obtain ⟨h1, h2, h3, h4, h5⟩ := h
  refine ⟨by show l.length + 1 ≤ 100; omega, rfl, fun i hi => ?_, fun c' hc' => ?_, ?_⟩
  · show upd (M.1 7) l.length (oc c) i = oc (ti (c :: l) i)
    have hi' : i < l.length + 1 := hi
    by_cases hil : i = l.length
    · rw [hil, upd_at, ti_at]
    · rw [upd_ne _ _ _ _ hil, ti_lt (by omega)]; exact h3 i (by omega)
  · rcases List.mem_cons.mp hc' with rfl | h
    · exact hc.imp id (fun z => by rw [z]; exact Or.inl rfl)
    · exact h4 c' h
  · rw [zput1_eq, upd_at]
    show nI (dp l + 1) = nI (dp l + (if c = 1 ∨ c = -6 then 1 else 0))
    rw [if_pos hc]
theorem pushM {l : List Int32} {M : zS} {c : Int32} (h : stk l M) (hl : l.length < 100) (hc : isOp c) (h6 : ¬ c = -6) : stk (c :: l) (zput (zput M 7 l.length (oc c)) 0 19 (nI (l.length + 1))) := by
  obtain ⟨h1, h2, h3, h4, h5⟩ := h
  refine ⟨by show l.length + 1 ≤ 100; omega, rfl, fun i hi => ?_, fun c' hc' => ?_, ?_⟩
  · show upd (M.1 7) l.length (oc c) i = oc (ti (c :: l) i)
    have hi' : i < l.length + 1 := hi
    by_cases hil : i = l.length
    · rw [hil, upd_at, ti_at]
    · rw [upd_ne _ _ _ _ hil, ti_lt (by omega)]; exact h3 i (by omega)
  · rcases List.mem_cons.mp hc' with rfl | h
    · exact Or.inr hc
    · exact h4 c' h
  · show M.1 0 23 = nI (dp l + (if c = 1 ∨ c = -6 then 1 else 0))
    rw [if_neg (fun z => z.elim (oc_op hc).2.1 h6)]
    exact h5
theorem openUpM {l : List Int32} {M : zS} {c : Int32} (h : stk l M) (hl : l.length < 100) : f_X12_openUp (oc c) M = (if M.1 0 2 = 0 then zu (f_X12_token (zput (zput (zput M 7 l.length (oc c)) 0 19 (nI (l.length + 1))) 0 23 (nI (dp l + 1)))) fun T7 => some T7 else some (zput (zput (zput M 7 l.length (oc c)) 0 19 (nI (l.length + 1))) 0 23 (nI (dp l + 1)))) := by
  obtain ⟨h1, h2, h3, h4, h5⟩ := h
  unfold f_X12_openUp
  rw [h2, if_pos (zinN (by omega) (by omega)), zlet_def, zlet_def, zlet_def, nI_clamp (by omega), show (zput M 7 l.length (oc c)).1 0 19 = nI l.length from h2, nI_1, show (zput (zput M 7 l.length (oc c)) 0 19 (nI (l.length + 1))).1 0 23 = nI (dp l) from h5, nI_1]
  rfl
theorem open_k {M : zS} {i : Nat} {a b c : Int32} : kM M (zput (zput (zput M 7 i a) 0 19 b) 0 23 c) := kM_trans (kM_trans (kM_put (by omega)) (kM_put0 (by omega))) (kM_put0 (by omega))
/-- the class lays one more sign into its code: what was open of the last one is now behind it -/
theorem gI_emit {cb : Nat → Nat} {n q : Nat} {l p : List Int32} {c : Int32} {u ns : Nat} {dl : Int} {X M : zS} (h : gI cb n q (c :: l) p u ns dl X M) (hc : isOp c) (hlen : ns + p.length < 272) (h6 : c = -6 → 1 ≤ dl) (h7 : c < -6 → 2 ≤ dl) : ∃ X', f_X2_emit_25 c X = some X' ∧ gI cb n q l (p ++ [c]) u ns (dl + dlt c) X' M ∧ vX X X' ∧ X'.1 2 = X.1 2 := by
  obtain ⟨a1, a2, a3, a4, a5, a6, a7, a8, a9, a10, a11⟩ := h
  have hdl : c = -6 ∨ c < -6 := by
    rcases hc with rfl | rfl | rfl | rfl | rfl | rfl | rfl | rfl | rfl | rfl | rfl
    · exact Or.inl rfl
    all_goals exact Or.inr (by decide)
  have hv : dlt c = (if c = -6 then 0 else -1) := by
    unfold dlt
    rw [if_neg (by
      rcases hdl with rfl | h
      · decide
      · intro z
        apply z
        rw [Int32.lt_iff_toInt_lt] at h ⊢
        have e1 : (-6 : Int32).toInt = -6 := rfl
        have e2 : (-5 : Int32).toInt = -5 := rfl
        omega)]
  have hrange : ∃ v : Int, c = Int32.ofInt v ∧ -16 ≤ v ∧ v ≤ 9999 := by
    rcases hc with rfl | rfl | rfl | rfl | rfl | rfl | rfl | rfl | rfl | rfl | rfl
    · exact ⟨-6, rfl, by omega, by omega⟩
    · exact ⟨-7, rfl, by omega, by omega⟩
    · exact ⟨-8, rfl, by omega, by omega⟩
    · exact ⟨-9, rfl, by omega, by omega⟩
    · exact ⟨-10, rfl, by omega, by omega⟩
    · exact ⟨-11, rfl, by omega, by omega⟩
    · exact ⟨-12, rfl, by omega, by omega⟩
    · exact ⟨-13, rfl, by omega, by omega⟩
    · exact ⟨-14, rfl, by omega, by omega⟩
    · exact ⟨-15, rfl, by omega, by omega⟩
    · exact ⟨-16, rfl, by omega, by omega⟩
  have hw := a11
  obtain ⟨-, w2, w3, w4⟩ := a11
  have hge : 0 ≤ dl + dlt c ∧ dl + dlt c ≤ u := by
    rw [hv]
    rcases hdl with h | h
    · rw [if_pos h]; omega
    · have := h7 h
      split <;> omega
  refine ⟨_, emitX hlen a7 c, ⟨cur_X (cur_X a1 (by decide) (by decide)) (by decide) (by decide), a2, a3, a4, a5, ?_, ?_, a8, fun i hi => ?_, fun i hi => ?_, ?_⟩, vX_trans (vX_put (Or.inr rfl)) (vX_put (Or.inl rfl)), rfl⟩
  · rw [List.append_assoc]; exact a6
  · rw [zput1_eq, upd_at, List.length_append, List.length_singleton]
    rw [show ns + p.length + 1 = ns + (p.length + 1) by omega]
  · show M.1 3 i = mstep (upd (X.1 26) (ns + p.length) c i) ∧ M.1 4 i = marg (upd (X.1 26) (ns + p.length) c i)
    rw [upd_ne _ _ _ _ (by omega)]; exact a9 i hi
  · show upd (X.1 26) (ns + p.length) c (ns + i) = _
    rw [List.length_append, List.length_singleton] at hi
    by_cases hil : i = p.length
    · rw [hil, upd_at, List.getD_eq_getElem?_getD, List.getElem?_append_right (Nat.le_refl _), Nat.sub_self]
      rfl
    · rw [upd_ne _ _ _ _ (by omega), a10 i (by omega), List.getD_eq_getElem?_getD, List.getD_eq_getElem?_getD, List.getElem?_append_left (by omega)]
  · rw [List.length_append, List.length_singleton, show ns + (p.length + 1) = ns + p.length + 1 by omega]
    exact wf_emit hw hrange h6 h7 (Nat.le_refl _) a2 hge.1 hge.2
