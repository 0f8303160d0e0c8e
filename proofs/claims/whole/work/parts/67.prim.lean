/-! ===== the readers' small steps, on both sides ===== -/
def aX (S T : zS) : Prop := (∀ k, k ≠ 2 → T.1 k = S.1 k) ∧ ∀ k i, k = 3 ∨ k = 4 → T.2 k i = S.2 k i
def aM (S T : zS) : Prop := (∀ k, k ≠ 0 → T.1 k = S.1 k) ∧ (∀ i, i ≠ 2 → i ≠ 3 → i ≠ 4 → i ≠ 6 → i ≠ 7 → i ≠ 8 → T.1 0 i = S.1 0 i) ∧ ∀ i, T.2 2 i = S.2 2 i
theorem aX_y {S T : zS} (h : yX S T) : aX S T := ⟨h.1, h.2.2⟩
theorem aM_y {S T : zS} (h : yM S T) : aM S T := ⟨h.1, fun i _ _ a b c d => h.2.1 i a b c d, h.2.2⟩
theorem aX_trans {S T U : zS} (h : aX S T) (h' : aX T U) : aX S U := ⟨fun k hk => (h'.1 k hk).trans (h.1 k hk), fun k i hk => (h'.2 k i hk).trans (h.2 k i hk)⟩
theorem aM_trans {S T U : zS} (h : aM S T) (h' : aM T U) : aM S U := ⟨fun k hk => (h'.1 k hk).trans (h.1 k hk), fun i a b c d e f => (h'.2.1 i a b c d e f).trans (h.2.1 i a b c d e f), fun i => (h'.2.2 i).trans (h.2.2 i)⟩
theorem aX_put {S : zS} {i : Nat} {x : Int32} : aX S (zput S 2 i x) := ⟨fun k hk => zput1_ne S 2 i k x hk, fun _ _ _ => rfl⟩
theorem aM_put {S : zS} {i : Nat} {x : Int32} (h : i = 2 ∨ i = 3) : aM S (zput S 0 i x) := ⟨fun k hk => zput1_ne S 0 i k x hk, fun j a b _ _ _ _ => by rw [zput1_eq, upd_ne _ _ _ _ (by omega)], fun _ => rfl⟩
/-- the same fault at the same place -/
def flt (X M : zS) : Prop := ∃ e p : Nat, 1 ≤ e ∧ e ≤ 5 ∧ p ≤ 1600 ∧ X.1 2 0 = nI e ∧ M.1 0 2 = nI e ∧ X.1 2 1 = nI p ∧ M.1 0 3 = nI p
def bad (X M X' M' : zS) : Prop := flt X' M' ∧ aX X X' ∧ aM M M'
theorem bad_y {X M X1 M1 X' M' : zS} (h1 : yX X X1) (h2 : yM M M1) (h : bad X1 M1 X' M') : bad X M X' M' := ⟨h.1, aX_trans (aX_y h1) h.2.1, aM_trans (aM_y h2) h.2.2⟩
theorem flt_pos {X M : zS} (h : flt X M) : (0 : Int32) < M.1 0 2 ∧ ¬ M.1 0 2 = 0 := by
  obtain ⟨e, p, h1, h2, -, -, h3, -⟩ := h
  rw [h3]
  exact ⟨nI_lt (a := 0) (by omega) (by omega), fun z => by have := (nI_eq (b := 0) (by omega) (by omega)).mp z; omega⟩
theorem badE {cb : Nat → Nat} {n q : Nat} {X M : zS} (h : cur cb n q X M) {e p : Nat} (he : 1 ≤ e ∧ e ≤ 5) (hp : p ≤ 1600) : bad X M (zput (zput X 2 0 (nI e)) 2 1 (nI p)) (zput (zput M 0 2 (nI e)) 0 3 (nI p)) := by
  refine ⟨⟨e, p, he.1, he.2, hp, ?_, ?_, ?_, ?_⟩, aX_trans aX_put aX_put, aM_trans (aM_put (Or.inl rfl)) (aM_put (Or.inr rfl))⟩
  · rw [zput1_eq, upd_ne _ _ _ _ (by decide), zput1_eq, upd_at]
  · rw [zput1_eq, upd_ne _ _ _ _ (by decide), zput1_eq, upd_at]
  · rw [zput1_eq, upd_at]
  · rw [zput1_eq, upd_at]
theorem znb0 : znb (0 : Int32) := Or.inl rfl
theorem znb1 : znb (1 : Int32) := Or.inr rfl
theorem wrongM {cb : Nat → Nat} {n q : Nat} {X M : zS} (h : cur cb n q X M) {e : Nat} : f_X12_wrong (nI e) M = some (zput (zput M 0 2 (if X.1 2 6 = 4 then nI 1 else nI e)) 0 3 (nI q)) := by
  obtain ⟨hT, hk, h0, h1, h2, h3⟩ := id h
  obtain ⟨-, -, h7⟩ := tk_q hk
  unfold f_X12_wrong f_X12_wrong_B22
  rw [if_neg (cur_nf h)]
  by_cases h4 : X.1 2 6 = 4
  · rw [if_pos ((tk_bad hk).mpr h4), if_pos h4, zlet_def, zlet_def, zput1_eq, upd_ne _ _ _ _ (by decide), h7]
    rfl
  · rw [if_neg (fun z => h4 ((tk_bad hk).mp z)), if_neg h4, zlet_def, zlet_def, zput1_eq, upd_ne _ _ _ _ (by decide), h7]
theorem refuseC {cb : Nat → Nat} {n q : Nat} {X M : zS} (h : cur cb n q X M) : ∃ X' M', f_X7_refuseToken_2 X = some (0, X') ∧ f_X12_wrong 2 M = some M' ∧ bad X M X' M' := by
  have hq := tk_q h.2.1
  have hn := h.1.1
  have hw := wrongM (e := 2) h
  unfold f_X7_refuseToken_2 f_X7_refuseToken_2_B14 f_X7_refuse_2
  rw [zlet_def, zlet_def, zlet_def, zlet_def, zb_def, zb_def, if_pos znb0, if_pos znb0, hq.2.1]
  by_cases h4 : X.1 2 6 = 4
  · rw [if_pos h4] at hw ⊢
    exact ⟨_, _, rfl, hw, badE h (e := 1) (by omega) (by omega)⟩
  · rw [if_neg h4] at hw ⊢
    exact ⟨_, _, rfl, hw, badE h (e := 2) (by omega) (by omega)⟩
theorem refuseK {cb : Nat → Nat} {n q : Nat} {X M : zS} (h : cur cb n q X M) (hg : ¬ X.1 2 6 = 4) {e : Nat} (he : 1 ≤ e ∧ e ≤ 5) : ∃ X' M', f_X7_refuse_2 (nI e) (X.1 2 4) X = some (0, X') ∧ f_X12_wrong (nI e) M = some M' ∧ bad X M X' M' := by
  have hq := tk_q h.2.1
  have hn := h.1.1
  have hw := wrongM (e := e) h
  rw [if_neg hg] at hw
  unfold f_X7_refuse_2
  rw [zlet_def, zlet_def, hq.2.1]
  exact ⟨_, _, rfl, hw, badE h he (by omega)⟩
theorem wantC {cb : Nat → Nat} {n q k : Nat} {X M : zS} (h : cur cb n q X M) (hk : k < 24) : (∃ X' M' q', f_X7_takeWord_2 (nI k) X = some (1, X') ∧ f_X12_want (rwM.getD k 0) M = some M' ∧ yX X X' ∧ yM M M' ∧ cur cb n q' X' M' ∧ q < q') ∨ ∃ X' M', f_X7_takeWord_2 (nI k) X = some (0, X') ∧ f_X12_want (rwM.getD k 0) M = some M' ∧ bad X M X' M' := by
  have h2 := h.2.2.2.2.1
  unfold f_X7_takeWord_2 f_X12_want
  rw [wordBX, zb_def, z01, if_neg (cur_nf h), wordBM h.2.1 hk, zb_def, z01]
  by_cases hw : X.1 2 6 = 1 ∧ X.1 2 7 = nI k
  · left
    obtain ⟨X', M', q', e1, e2, e3, e4, e5, -, e6, e7⟩ := stepC h (by rw [hw.1]; decide)
    rw [if_pos hw, if_pos hw, e1, zu_def, e2, zu_def]
    exact ⟨X', M', q', rfl, rfl, e3, e4, e5, e6 (by rw [hw.1]; decide)⟩
  · right
    obtain ⟨X', M', e1, e2, e3⟩ := refuseC h
    rw [if_neg hw, if_neg hw, e1, zb_def, if_pos znb0, e2, zu_def]
    exact ⟨X', M', rfl, rfl, e3⟩
theorem numC {cb : Nat → Nat} {n q lo hi : Nat} {X M : zS} (h : cur cb n q X M) (hlo : lo ≤ 9999) (hhi : hi ≤ 9999) : (∃ X' M' q' v, f_X7_takeNumber_2 (nI lo) (nI hi) X = some (1, X') ∧ f_X12_toldNumber (nI lo) (nI hi) M = some (nI v, M') ∧ lo ≤ v ∧ v ≤ hi ∧ X'.1 2 11 = nI v ∧ yX X X' ∧ yM M M' ∧ cur cb n q' X' M' ∧ q < q') ∨ ∃ X' M' r, f_X7_takeNumber_2 (nI lo) (nI hi) X = some (0, X') ∧ f_X12_toldNumber (nI lo) (nI hi) M = some (r, M') ∧ bad X M X' M' := by
  have h2 := h.2.2.2.2.1
  obtain ⟨hs, hv⟩ := tk_num h.2.1
  unfold f_X7_takeNumber_2 f_X12_toldNumber
  rw [if_neg (cur_nf h)]
  by_cases h6 : X.1 2 6 = 2
  · obtain ⟨v, hv1, hv2, hv3⟩ := hv h6
    rw [if_pos h6, if_pos (hs.mpr h6), hv2, hv3]
    by_cases hlt : v < lo
    · right
      obtain ⟨X', M', e1, e2, e3⟩ := refuseK h (by rw [h6]; decide) (e := 4) (by omega)
      unfold f_X7_takeNumber_2_B29 f_X12_toldNumber_B41 f_X12_toldNumber_B46
      rw [if_pos (nI_lt hlt (by omega)), if_pos (nI_lt hlt (by omega)), show f_X7_refuse_2 4 (X.1 2 4) X = _ from e1, zb_def, if_pos znb0, show f_X12_wrong 4 M = _ from e2, zu_def, zlet_def, if_neg (flt_pos e3.1).2]
      exact ⟨X', M', _, rfl, rfl, e3⟩
    · have hl1 : ¬ nI v < nI lo := nI_nlt (by omega) (by omega)
      rw [if_neg hl1, if_neg hl1]
      by_cases hgt : hi < v
      · right
        obtain ⟨X', M', e1, e2, e3⟩ := refuseK h (by rw [h6]; decide) (e := 4) (by omega)
        unfold f_X7_takeNumber_2_B29 f_X12_toldNumber_B41 f_X12_toldNumber_B46
        rw [if_pos (nI_lt hgt (by omega)), if_pos (nI_lt hgt (by omega)), show f_X7_refuse_2 4 (X.1 2 4) X = _ from e1, zb_def, if_pos znb0, show f_X12_wrong 4 M = _ from e2, zu_def, zlet_def, if_neg (flt_pos e3.1).2]
        exact ⟨X', M', _, rfl, rfl, e3⟩
      · left
        have h' : cur cb n q (zput X 2 11 (nI v)) M := cur_11 h
        obtain ⟨X', M', q', e1, e2, e3, e4, e5, -, e6, e7⟩ := stepC h' (by rw [zput1_eq, upd_ne _ _ _ _ (by decide), h6]; decide)
        unfold f_X12_toldNumber_B46
        have hl2 : ¬ nI hi < nI v := nI_nlt (by omega) (by omega)
        rw [if_neg hl2, if_neg hl2, zlet_def, e1, zu_def, zlet_def, if_pos h2, e2, zu_def, hv3]
        refine ⟨X', M', q', v, rfl, rfl, by omega, by omega, ?_, yX_trans yX_11 e3, e4, e5, e6 (by rw [zput1_eq, upd_ne _ _ _ _ (by decide), h6]; decide)⟩
        rw [e7, zput1_eq, upd_at]
  · right
    obtain ⟨X', M', e1, e2, e3⟩ := refuseC h
    unfold f_X12_toldNumber_B46
    rw [if_neg h6, if_neg (fun z => h6 (hs.mp z)), e1, zb_def, if_pos znb0, e2, zu_def, zlet_def, if_neg (flt_pos e3.1).2]
    exact ⟨X', M', _, rfl, rfl, e3⟩
/-- a word, and a number behind it -/
theorem toldC {cb : Nat → Nat} {n q k lo hi : Nat} {X M : zS} (h : cur cb n q X M) (hk : k < 24) (hlo : lo ≤ 9999) (hhi : hi ≤ 9999) : (∃ X1 X' M' q' v, f_X7_takeWord_2 (nI k) X = some (1, X1) ∧ f_X7_takeNumber_2 (nI lo) (nI hi) X1 = some (1, X') ∧ yX X X1 ∧ f_X12_told (rwM.getD k 0) (nI lo) (nI hi) M = some (nI v, M') ∧ lo ≤ v ∧ v ≤ hi ∧ X'.1 2 11 = nI v ∧ yX X X' ∧ yM M M' ∧ cur cb n q' X' M' ∧ q < q') ∨ (∃ X' M' r, f_X7_takeWord_2 (nI k) X = some (0, X') ∧ f_X12_told (rwM.getD k 0) (nI lo) (nI hi) M = some (r, M') ∧ bad X M X' M') ∨ ∃ X1 X' M' r, f_X7_takeWord_2 (nI k) X = some (1, X1) ∧ yX X X1 ∧ f_X7_takeNumber_2 (nI lo) (nI hi) X1 = some (0, X') ∧ f_X12_told (rwM.getD k 0) (nI lo) (nI hi) M = some (r, M') ∧ bad X M X' M' := by
  unfold f_X12_told
  rcases wantC h hk with ⟨X1, M1, q1, a1, a2, a3, a4, a5, a6⟩ | ⟨X1, M1, a1, a2, a3⟩
  · rcases numC a5 hlo hhi with ⟨X', M', q', v, b1, b2, b3, b4, b5, b6, b7, b8, b9⟩ | ⟨X', M', r, b1, b2, b3⟩
    · left
      rw [a2, zu_def, b2, zb_def]
      exact ⟨X1, X', M', q', v, a1, b1, a3, rfl, b3, b4, b5, yX_trans a3 b6, yM_trans a4 b7, b8, by omega⟩
    · right; right
      rw [a2, zu_def, b2, zb_def]
      exact ⟨X1, X', M', r, a1, a3, b1, rfl, bad_y a3 a4 b3⟩
  · right; left
    rw [a2, zu_def]
    unfold f_X12_toldNumber
    rw [if_pos (flt_pos a3.1).1, zb_def]
    exact ⟨X1, M1, 0, a1, rfl, a3⟩
theorem neg_ofInt : ∀ v, v < 10 → -(nI v) = Int32.ofInt (-(v : Int)) := by decide +kernel
/-- a value, perhaps below 0 -/
theorem valC {cb : Nat → Nat} {n q : Nat} {X M : zS} (h : cur cb n q X M) : (∃ X' M' q' x, f_X7_takeSaying_2 X = some (1, X') ∧ f_X12_toldValue 9 M = some (x, M') ∧ isI (-9) 9 x ∧ X'.1 2 11 = x ∧ yX X X' ∧ yM M M' ∧ cur cb n q' X' M' ∧ q < q') ∨ ∃ X' M' r, f_X7_takeSaying_2 X = some (0, X') ∧ f_X12_toldValue 9 M = some (r, M') ∧ bad X M X' M' := by
  have hq := tk_q h.2.1
  have hn := h.1.1
  have h2 := h.2.2.2.2.1
  have hsg := tk_sgn h.2.1 (c := 45) (by decide)
  unfold f_X7_takeSaying_2 f_X12_toldValue f_X12_toldValue_B28
  rw [zlet_def, signBX, zb_def, if_neg (cur_nf h), zlet_def, hq.2.1, hq.2.2]
  by_cases hs : X.1 2 6 = 3 ∧ X.1 2 7 = 45
  · -- a sign ahead
    have hM : M.1 0 6 = 45 := hsg.mpr hs
    rw [if_pos hs, if_pos hM, if_neg (by decide), if_neg (by decide)]
    obtain ⟨X1, M1, q1, e1, e2, e3, e4, e5, e6, -, -⟩ := stepC h (by rw [hs.1]; decide)
    have hq1 := tk_q e5.2.1
    have h21 := e5.2.2.2.2.1
    obtain ⟨hn6, hnv⟩ := tk_num e5.2.1
    rw [e1, zu_def, e2, zu_def]
    unfold f_X7_takeSaying_2_B20 f_X12_toldValue_B37 f_X12_toldNumber
    rw [if_neg (cur_nf e5)]
    by_cases h6 : X1.1 2 6 = 2
    · obtain ⟨v, hv1, hv2, hv3⟩ := hnv h6
      rw [if_pos h6, if_pos (hn6.mpr h6), hv2, hv3, if_neg (nI_not_neg (by omega))]
      by_cases hgt : 9 < v
      · right
        have hw := wrongM (e := 4) e5
        rw [if_neg (by rw [h6]; decide)] at hw
        unfold f_X7_refuse_2 f_X12_toldNumber_B41 f_X12_toldNumber_B46
        rw [if_pos (show (9 : Int32) < nI v from nI_lt (a := 9) hgt (by omega)), if_pos (show (9 : Int32) < nI v from nI_lt (a := 9) hgt (by omega)), zlet_def, zlet_def, zb_def, if_pos znb0, show f_X12_wrong 4 M1 = _ from hw, zu_def, zlet_def]
        have e02 : (zput (zput M1 0 2 (nI 4)) 0 3 (nI q1)).1 0 2 = nI 4 := by rw [zput1_eq, upd_ne _ _ _ _ (by decide), zput1_eq, upd_at]
        rw [e02, if_neg (show ¬ nI 4 = 0 by decide), zb_def, e02, if_pos (show nI 4 = 4 from rfl), if_neg (show ¬ (1 : Int32) = 0 by decide), zlet_def]
        unfold f_X12_toldValue_B62
        rw [if_neg (show ¬ (1 : Int32) = 0 by decide)]
        refine ⟨_, _, _, rfl, rfl, ⟨⟨4, q, by omega, by omega, by omega, ?_, ?_, ?_, ?_⟩, aX_trans (aX_y e3) (aX_trans aX_put aX_put), aM_trans (aM_y e4) (aM_trans (aM_trans (aM_put (Or.inl rfl)) (aM_put (Or.inr rfl))) (aM_put (Or.inr rfl)))⟩⟩
        · rw [zput1_eq, upd_ne _ _ _ _ (by decide), zput1_eq, upd_at]; rfl
        · rw [zput1_eq, upd_ne _ _ _ _ (by decide)]; exact e02
        · rw [zput1_eq, upd_at]
        · rw [zput1_eq, upd_at]
      · left
        have h' : cur cb n q1 (zput X1 2 11 (-(nI v))) M1 := cur_11 e5
        obtain ⟨X', M', q', g1, g2, g3, g4, g5, -, g6, g7⟩ := stepC h' (by rw [zput1_eq, upd_ne _ _ _ _ (by decide), h6]; decide)
        unfold f_X7_takeSaying_2_B66 f_X12_toldNumber_B46 f_X12_toldValue_B62
        have hM'2 : M'.1 0 2 = 0 := g5.2.2.2.2.1
        rw [if_neg (show ¬ (9 : Int32) < nI v from nI_nlt (b := v) (a := 9) (by omega) (by omega)), if_neg (show ¬ (9 : Int32) < nI v from nI_nlt (b := v) (a := 9) (by omega) (by omega)), if_neg (show ¬ (1 : Int32) = 0 by decide), zlet_def, g1, zu_def, zlet_def, if_pos h21, g2, zu_def, zb_def, hv3, hM'2, if_neg (show ¬ (0 : Int32) = 4 by decide), if_neg (show ¬ (1 : Int32) = 0 by decide)]
        have hl := g6 (by rw [zput1_eq, upd_ne _ _ _ _ (by decide), h6]; decide)
        refine ⟨X', M', q', _, rfl, rfl, ⟨-(v : Int), by omega, by omega, neg_ofInt v (by omega)⟩, ?_, yX_trans e3 (yX_trans yX_11 g3), yM_trans e4 g4, g5, by omega⟩
        rw [g7, zput1_eq, upd_at]
    · right
      obtain ⟨X', M', g1, g2, g3⟩ := refuseC e5
      unfold f_X12_toldNumber_B46
      rw [if_neg h6, if_neg (fun z => h6 (hn6.mp z)), g1, zb_def, if_pos znb0, g2, zu_def, zlet_def, if_neg (flt_pos g3.1).2, zb_def]
      have hne4 : ¬ M'.1 0 2 = 4 := by
        have hw := wrongM (e := 2) e5
        rw [show f_X12_wrong 2 M1 = f_X12_wrong (nI 2) M1 from rfl] at g2
        rw [hw] at g2
        cases g2
        rw [zput1_eq, upd_ne _ _ _ _ (by decide), zput1_eq, upd_at]
        split <;> decide
      rw [if_neg hne4]
      unfold f_X12_toldValue_B62
      rw [if_neg (show ¬ (1 : Int32) = 0 by decide)]
      exact ⟨X', M', _, rfl, rfl, bad_y e3 e4 g3⟩
  · have hM : ¬ M.1 0 6 = 45 := fun z => hs (hsg.mp z)
    rw [if_neg hs, if_neg hM, if_pos rfl, if_pos rfl]
    unfold f_X7_takeSaying_2_B20 f_X12_toldValue_B37
    unfold f_X12_toldNumber
    obtain ⟨hn6, hnv⟩ := tk_num h.2.1
    rw [if_neg (cur_nf h)]
    by_cases h6 : X.1 2 6 = 2
    · obtain ⟨v, hv1, hv2, hv3⟩ := hnv h6
      rw [if_pos h6, if_pos (hn6.mpr h6), hv2, hv3, if_neg (nI_not_neg (by omega))]
      by_cases hgt : 9 < v
      · right
        have hw := wrongM (e := 4) h
        rw [if_neg (by rw [h6]; decide)] at hw
        unfold f_X7_refuse_2 f_X12_toldNumber_B41 f_X12_toldNumber_B46
        rw [if_pos (show (9 : Int32) < nI v from nI_lt (a := 9) hgt (by omega)), if_pos (show (9 : Int32) < nI v from nI_lt (a := 9) hgt (by omega)), zlet_def, zlet_def, zb_def, if_pos znb0, show f_X12_wrong 4 M = _ from hw, zu_def, zlet_def]
        have e02 : (zput (zput M 0 2 (nI 4)) 0 3 (nI q)).1 0 2 = nI 4 := by rw [zput1_eq, upd_ne _ _ _ _ (by decide), zput1_eq, upd_at]
        rw [e02, if_neg (show ¬ nI 4 = 0 by decide), zb_def, e02, if_pos (show nI 4 = 4 from rfl), if_pos (show (0 : Int32) = 0 from rfl)]
        unfold f_X12_toldValue_B62
        rw [if_pos rfl]
        exact ⟨_, _, _, rfl, rfl, badE h (e := 4) (p := q) (by omega) (by omega)⟩
      · left
        have h' : cur cb n q (zput X 2 11 (nI v)) M := cur_11 h
        obtain ⟨X', M', q', g1, g2, g3, g4, g5, -, g6, g7⟩ := stepC h' (by rw [zput1_eq, upd_ne _ _ _ _ (by decide), h6]; decide)
        unfold f_X7_takeSaying_2_B66 f_X12_toldNumber_B46 f_X12_toldValue_B62
        have hM'2 : M'.1 0 2 = 0 := g5.2.2.2.2.1
        rw [if_neg (show ¬ (9 : Int32) < nI v from nI_nlt (b := v) (a := 9) (by omega) (by omega)), if_neg (show ¬ (9 : Int32) < nI v from nI_nlt (b := v) (a := 9) (by omega) (by omega)), if_pos (show (0 : Int32) = 0 from rfl), zlet_def, g1, zu_def, zlet_def, if_pos h2, g2, zu_def, zb_def, hv3, hM'2, if_neg (show ¬ (0 : Int32) = 4 by decide), if_pos (show (0 : Int32) = 0 from rfl)]
        have hl := g6 (by rw [zput1_eq, upd_ne _ _ _ _ (by decide), h6]; decide)
        refine ⟨X', M', q', nI v, rfl, rfl, ⟨(v : Int), by omega, by omega, rfl⟩, ?_, yX_trans yX_11 g3, g4, g5, hl⟩
        rw [g7, zput1_eq, upd_at]
    · right
      obtain ⟨X', M', g1, g2, g3⟩ := refuseC h
      unfold f_X12_toldNumber_B46
      rw [if_neg h6, if_neg (fun z => h6 (hn6.mp z)), g1, zb_def, if_pos znb0, g2, zu_def, zlet_def, if_neg (flt_pos g3.1).2, zb_def]
      have hne4 : ¬ M'.1 0 2 = 4 := by
        have hw := wrongM (e := 2) h
        rw [show f_X12_wrong 2 M = f_X12_wrong (nI 2) M from rfl] at g2
        rw [hw] at g2
        cases g2
        rw [zput1_eq, upd_ne _ _ _ _ (by decide), zput1_eq, upd_at]
        split <;> decide
      rw [if_neg hne4]
      unfold f_X12_toldValue_B62
      rw [if_pos rfl]
      exact ⟨X', M', _, rfl, rfl, g3⟩
