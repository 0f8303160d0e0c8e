/-! ===== frost, draw, plant ===== -/
theorem onceC {cb : Nat → Nat} {n q st pl tp bl pa ln hb k : Nat} {g f d : Bool} {X M : zS} (h : cur cb n q X M) (hk : k = 6 ∨ k = 7 ∨ k = 8) (hw : X.1 2 6 = 1 ∧ X.1 2 7 = nI k) (hI : pI st pl tp bl pa ln hb g f d X M) : ((if k = 6 then g else if k = 7 then f else d) = false ∧ ∃ X1 M1 q1, f_X7_beginOnce_2 X = some (1, X1) ∧ f_X12_token (zput M 0 (43 + k) 1) = some M1 ∧ yX (zput X 2 10 (nI (64 * bN (if k = 6 then true else g) + 128 * bN (if k = 7 then true else f) + 256 * bN (if k = 8 then true else d)))) X1 ∧ yM (zput M 0 (43 + k) 1) M1 ∧ cur cb n q1 X1 M1 ∧ q < q1 ∧ pL ln (if k = 6 then true else g) (if k = 7 then true else f) (if k = 8 then true else d) (X1.1 2) (M1.1 0)) ∨ ((if k = 6 then g else if k = 7 then f else d) = true ∧ ∃ X1, f_X7_beginOnce_2 X = some (0, X1) ∧ f_X7_refuseToken_2 X = some (0, X1)) := by
  obtain ⟨-, -, -, ⟨l1, l2, l3, l4, l5, l6, l7⟩, -⟩ := id hI
  unfold f_X7_beginOnce_2
  rw [zlet_def, hw.2, l4]
  cases hb : (if k = 6 then g else if k = 7 then f else d) with
  | false =>
    left
    rw [if_pos ((on_0 g f d k hk).mpr hb), on_1 g f d k hk hb, zlet_def]
    have h' : cur cb n q (zput X 2 10 (nI (64 * bN (if k = 6 then true else g) + 128 * bN (if k = 7 then true else f) + 256 * bN (if k = 8 then true else d)))) (zput M 0 (43 + k) 1) := cur_M0 (cur_X2 h (by decide)) (Or.inl (by omega))
    obtain ⟨X1, M1, q1, e1, e2, e3, e4, e5, -, e6, -⟩ := stepC h' (by rw [zput1_eq, upd_ne _ _ _ _ (by decide), hw.1]; decide)
    rw [e1, zu_def]
    refine ⟨rfl, X1, M1, q1, rfl, e2, e3, e4, e5, e6 (by rw [zput1_eq, upd_ne _ _ _ _ (by decide), hw.1]; decide), ?_⟩
    have m : ∀ i, 48 ≤ i → i ≤ 51 → M1.1 0 i = (zput M 0 (43 + k) 1).1 0 i := fun i h1 _ => e4.2.1 i (by omega) (by omega) (by omega) (by omega)
    refine pL_0 (X2 := (zput X 2 10 (nI (64 * bN (if k = 6 then true else g) + 128 * bN (if k = 7 then true else f) + 256 * bN (if k = 8 then true else d)))).1 2) (M0 := (zput M 0 (43 + k) 1).1 0) ?_ (e3.2.1 9 (by omega)) (e3.2.1 10 (by omega)) m
    refine ⟨l1, l2, ?_, rfl, ?_, ?_, ?_⟩
    · rw [zput1_eq, upd_ne _ _ _ _ (by omega)]; exact l3
    · rw [zput1_eq]
      by_cases h6 : k = 6
      · subst h6; rfl
      · rw [upd_ne _ _ _ _ (by omega), if_neg h6]; exact l5
    · rw [zput1_eq]
      by_cases h7 : k = 7
      · subst h7; rfl
      · rw [upd_ne _ _ _ _ (by omega), if_neg h7]; exact l6
    · rw [zput1_eq]
      by_cases h8 : k = 8
      · subst h8; rfl
      · rw [upd_ne _ _ _ _ (by omega), if_neg h8]; exact l7
  | true =>
    right
    obtain ⟨X1, M1, e1, -, -⟩ := refuseC h
    rw [if_neg (fun z => by have := (on_0 g f d k hk).mp z; rw [hb] at this; cases this), e1, zb_def, if_pos znb0]
    exact ⟨rfl, X1, rfl, rfl⟩
theorem pI_once {st pl tp bl pa ln hb k : Nat} {g f d g' f' d' : Bool} {X M X1 M1 : zS} {x : Int32} (hI : pI st pl tp bl pa ln hb g f d X M) (hk : k = 6 ∨ k = 7 ∨ k = 8) (e3 : yX (zput X 2 10 x) X1) (e4 : yM (zput M 0 (43 + k) 1) M1) (hL : pL ln g' f' d' (X1.1 2) (M1.1 0)) (hg : g' = g) : pI st pl tp bl pa ln hb g' f' d' X1 M1 := by
  subst hg
  obtain ⟨a1, a2, a3, a4, ⟨n1, n2, n3, n4⟩, a6, a7, a8⟩ := hI
  have m : ∀ i, 9 ≤ i → i ≠ 43 + k → M1.1 0 i = M.1 0 i := fun i hi hk => by
    rw [e4.2.1 i (by omega) (by omega) (by omega) (by omega), zput1_eq, upd_ne _ _ _ _ hk]
  have hx : ∀ k, k ≠ 2 → X1.1 k = X.1 k := fun k hk => by rw [e3.1 k hk, zput1_ne _ _ _ _ _ hk]
  have hm : ∀ k, k ≠ 0 → M1.1 k = M.1 k := fun k hk => by rw [e4.1 k hk, zput1_ne _ _ _ _ _ hk]
  have hnm : ∀ base cnt, nmOk base cnt X M → nmOk base cnt X1 M1 := fun base cnt z => nmOk_y (X := zput X 2 10 x) (M := zput M 0 (43 + k) 1) z e3 e4
  unfold pI
  rw [hx 21 (by decide), hx 22 (by decide), hx 23 (by decide), hx 24 (by decide), hx 25 (by decide), hx 26 (by decide), hx 30 (by decide), hx 31 (by decide), hx 32 (by decide), hx 33 (by decide), hx 34 (by decide), hx 35 (by decide), hm 3 (by decide), hm 4 (by decide), hm 10 (by decide), hm 12 (by decide), hm 13 (by decide), hm 16 (by decide), hm 18 (by decide)]
  exact ⟨pA_0 a1 (fun i _ _ => m i (by omega) (by omega)), pFr_0 a2 (fun i _ _ => m i (by omega) (by omega)), a3, hL, ⟨hnm _ _ n1, hnm _ _ n2, hnm _ _ n3, hnm _ _ n4⟩, a6, a7, pFm_0 a8 (m 20 (by omega) (by omega)) (m 17 (by omega) (by omega))⟩
theorem gX_once {X X1 : zS} {x : Int32} (h : yX (zput X 2 10 x) X1) : gX X X1 := gX_trans (gX_put (Or.inl rfl) (by decide)) (gX_y h)
theorem gM_once {M M1 : zS} {k : Nat} {x : Int32} (hk : k = 6 ∨ k = 7 ∨ k = 8) (h : yM (zput M 0 (43 + k) x) M1) : gMf M M1 := gMf_trans (gMf_put0 (by rcases hk with rfl | rfl | rfl <;> decide)) (gMf_y h)
/-- told once and a number behind it, in the reference -/
theorem toldO {cb : Nat → Nat} {n q k : Nat} {X M M1 : zS} (h : cur cb n q X M) (hk : k = 6 ∨ k = 7 ∨ k = 8) (hw : X.1 2 6 = 1 ∧ X.1 2 7 = nI k) (e : f_X12_token (zput M 0 (43 + k) 1) = some M1) (a b : Int32) : f_X12_told (rwM.getD k 0) a b (zput M 0 (43 + k) 1) = f_X12_toldNumber a b M1 := toldW (X := X) (cur_M0 h (Or.inl (by omega))) (by omega) hw e a b
theorem lnDraw {cb : Nat → Nat} {n q st pl tp bl pa ln hb : Nat} {g f : Bool} {X M : zS} (h : cur cb n q X M) (hw : X.1 2 6 = 1 ∧ X.1 2 7 = nI 8) (hI : pI st pl tp bl pa ln hb g f false X M) : lnR cb n q ln (f_X7_readDraw_2_21 X) (fun K => zlet (zput M 0 51 1) fun T6 => zb (f_X12_told 1685217655 0 999 T6) fun r9 T8 => zlet (zput T8 0 41 r9) fun T10 => K T10) X M := by
  unfold f_X7_readDraw_2_21
  rcases onceC h (Or.inr (Or.inr rfl)) hw hI with ⟨-, X1, M1, q1, o1, o2, o3, o4, o5, o6, o7⟩ | ⟨z, -⟩
  · have hI1 := pI_once hI (Or.inr (Or.inr rfl)) o3 o4 o7 rfl
    have eT : f_X12_told 1685217655 0 999 (zput M 0 51 1) = f_X12_toldNumber (nI 0) (nI 999) M1 := toldO h (Or.inr (Or.inr rfl)) hw o2 0 999
    rw [o1, zb_def, if_neg (by decide)]
    rcases numC (lo := 0) (hi := 999) o5 (by omega) (by omega) with ⟨X', M', q', v, g1, g2, g3, g4, g5, g6, g7, g8, g9⟩ | ⟨X', M', r, g1, g2, g3⟩
    · left
      rw [show f_X7_takeNumber_2 0 999 X1 = _ from g1, zb_def, if_neg (by decide), zlet_def, g5]
      obtain ⟨a1, ⟨y1, y2, y3, y4, y5, y6⟩, a3, a4, a5, a6, a7, a8⟩ := pI_y hI1 g6 g7
      refine ⟨zput X' 21 11 (nI v), zput M' 0 41 (nI v), q', st, pl, tp, bl, pa, hb, g, f, true, rfl, fun K => ?_, ⟨a1, ⟨y1, y2, y3, y4, rfl, ⟨v, by omega, by omega, rfl⟩⟩, a3, a4, a5, a6, a7, a8⟩, cur_M0 (cur_X g8 (by decide) (by decide)) (Or.inl (by decide)), by omega, gX_trans (gX_trans (gX_once o3) (gX_y g6)) (gX_put (Or.inr ⟨by decide, by decide⟩) (by decide)), gMf_trans (gMf_trans (gM_once (Or.inr (Or.inr rfl)) o4) (gMf_y g7)) (gMf_put0 (by decide))⟩
      show (zlet (zput M 0 51 1) fun T6 => _) = _
      rw [zlet_def, eT, g2, zb_def, zlet_def]
    · right
      rw [show f_X7_takeNumber_2 0 999 X1 = _ from g1, zb_def, if_pos rfl]
      refine ⟨X', zput M' 0 41 r, rfl, fun K => ?_, flt_e g3.1 (by rw [zput1_eq, upd_ne _ _ _ _ (by decide)]) (by rw [zput1_eq, upd_ne _ _ _ _ (by decide)]), gX_trans (gX_once o3) (gX_bad g3).1, gMf_trans (gMf_trans (gM_once (Or.inr (Or.inr rfl)) o4) (gX_bad g3).2) (gMf_put0 (by decide))⟩
      show (zlet (zput M 0 51 1) fun T6 => _) = _
      rw [zlet_def, eT, g2, zb_def, zlet_def]
  · cases z
theorem lnFrost {cb : Nat → Nat} {n q st pl tp bl pa ln hb : Nat} {g d : Bool} {X M : zS} (h : cur cb n q X M) (hw : X.1 2 6 = 1 ∧ X.1 2 7 = nI 7) (hI : pI st pl tp bl pa ln hb g false d X M) : lnR cb n q ln (f_X7_readFrost_2_21 X) (fun K => zlet (zput M 0 50 1) fun T6 => zb (f_X12_told 440006570868 0 100 T6) fun r9 T8 => zlet (zput T8 0 39 r9) fun T10 => zb (f_X12_told 28518 1 99 T10) fun r13 T12 => zlet (zput T12 0 40 r13) fun T14 => K T14) X M := by
  unfold f_X7_readFrost_2_21
  rcases onceC h (Or.inr (Or.inl rfl)) hw hI with ⟨-, X1, M1, q1, o1, o2, o3, o4, o5, o6, o7⟩ | ⟨z, -⟩
  · have hI1 := pI_once hI (Or.inr (Or.inl rfl)) o3 o4 o7 rfl
    have eT : f_X12_told 440006570868 0 100 (zput M 0 50 1) = f_X12_toldNumber (nI 0) (nI 100) M1 := toldO h (Or.inr (Or.inl rfl)) hw o2 0 100
    rw [o1, zb_def, if_neg (by decide)]
    have gx0 := gX_once o3
    have gm0 := gM_once (Or.inr (Or.inl rfl)) o4
    rcases numC (lo := 0) (hi := 100) o5 (by omega) (by omega) with ⟨X2, M2, q2, v, g1, g2, g3, g4, g5, g6, g7, g8, g9⟩ | ⟨X', M', r, g1, g2, g3⟩
    · rw [show f_X7_takeNumber_2 0 100 X1 = _ from g1, zb_def, if_neg (by decide), zlet_def, g5]
      obtain ⟨a1, ⟨y1, y2, y3, y4, y5, y6⟩, a3, a4, a5, a6, a7, a8⟩ := pI_y hI1 g6 g7
      have hI2 : pI st pl tp bl pa ln hb g true d (zput X2 21 9 (nI v)) (zput M2 0 39 (nI v)) := ⟨a1, ⟨rfl, ⟨v, by omega, by omega, rfl⟩, y3, y4, y5, y6⟩, a3, a4, a5, a6, a7, a8⟩
      have hc2 : cur cb n q2 (zput X2 21 9 (nI v)) (zput M2 0 39 (nI v)) := cur_M0 (cur_X g8 (by decide) (by decide)) (Or.inl (by decide))
      have gx2 : gX X (zput X2 21 9 (nI v)) := gX_trans (gX_trans gx0 (gX_y g6)) (gX_put (Or.inr ⟨by decide, by decide⟩) (by decide))
      have gm2 : gMf M (zput M2 0 39 (nI v)) := gMf_trans (gMf_trans gm0 (gMf_y g7)) (gMf_put0 (by decide))
      rcases toldC (k := 11) (lo := 1) (hi := 99) hc2 (by omega) (by omega) (by omega) with ⟨X3, X', M', q', w, t1, t2, t3, t4, t5, t6, t7, t8, t9, t10, t11⟩ | ⟨X', M', r, t1, t2, t3⟩ | ⟨X3, X', M', r, t1, t2, t3, t4, t5⟩
      · left
        rw [show f_X7_takeWord_2 11 (zput X2 21 9 (nI v)) = _ from t1, zb_def, if_neg (by decide), show f_X7_takeNumber_2 1 99 X3 = _ from t2, zb_def, if_neg (by decide), zlet_def, t7]
        obtain ⟨a1, ⟨y1, y2, y3, y4, y5, y6⟩, a3, a4, a5, a6, a7, a8⟩ := pI_y hI2 t8 t9
        refine ⟨zput X' 21 10 (nI w), zput M' 0 40 (nI w), q', st, pl, tp, bl, pa, hb, g, true, d, rfl, fun K => ?_, ⟨a1, ⟨y1, y2, rfl, ⟨w, by omega, by omega, rfl⟩, y5, y6⟩, a3, a4, a5, a6, a7, a8⟩, cur_M0 (cur_X t10 (by decide) (by decide)) (Or.inl (by decide)), by omega, gX_trans (gX_trans gx2 (gX_y t8)) (gX_put (Or.inr ⟨by decide, by decide⟩) (by decide)), gMf_trans (gMf_trans gm2 (gMf_y t9)) (gMf_put0 (by decide))⟩
        show (zlet (zput M 0 50 1) fun T6 => _) = _
        rw [zlet_def, eT, g2, zb_def, zlet_def, show f_X12_told 28518 1 99 (zput M2 0 39 (nI v)) = _ from t4, zb_def, zlet_def]
      · right
        rw [show f_X7_takeWord_2 11 (zput X2 21 9 (nI v)) = _ from t1, zb_def, if_pos rfl]
        refine ⟨X', zput M' 0 40 r, rfl, fun K => ?_, flt_e t3.1 (by rw [zput1_eq, upd_ne _ _ _ _ (by decide)]) (by rw [zput1_eq, upd_ne _ _ _ _ (by decide)]), gX_trans gx2 (gX_bad t3).1, gMf_trans (gMf_trans gm2 (gX_bad t3).2) (gMf_put0 (by decide))⟩
        show (zlet (zput M 0 50 1) fun T6 => _) = _
        rw [zlet_def, eT, g2, zb_def, zlet_def, show f_X12_told 28518 1 99 (zput M2 0 39 (nI v)) = _ from t2, zb_def, zlet_def]
      · right
        rw [show f_X7_takeWord_2 11 (zput X2 21 9 (nI v)) = _ from t1, zb_def, if_neg (by decide), show f_X7_takeNumber_2 1 99 X3 = _ from t3, zb_def, if_pos rfl]
        refine ⟨X', zput M' 0 40 r, rfl, fun K => ?_, flt_e t5.1 (by rw [zput1_eq, upd_ne _ _ _ _ (by decide)]) (by rw [zput1_eq, upd_ne _ _ _ _ (by decide)]), gX_trans gx2 (gX_bad t5).1, gMf_trans (gMf_trans gm2 (gX_bad t5).2) (gMf_put0 (by decide))⟩
        show (zlet (zput M 0 50 1) fun T6 => _) = _
        rw [zlet_def, eT, g2, zb_def, zlet_def, show f_X12_told 28518 1 99 (zput M2 0 39 (nI v)) = _ from t4, zb_def, zlet_def]
    · right
      rw [show f_X7_takeNumber_2 0 100 X1 = _ from g1, zb_def, if_pos rfl]
      have hf : flt X' (zput M' 0 39 r) := flt_e g3.1 (by rw [zput1_eq, upd_ne _ _ _ _ (by decide)]) (by rw [zput1_eq, upd_ne _ _ _ _ (by decide)])
      refine ⟨X', zput (zput M' 0 39 r) 0 40 0, rfl, fun K => ?_, flt_e hf (by rw [zput1_eq, upd_ne _ _ _ _ (by decide)]) (by rw [zput1_eq, upd_ne _ _ _ _ (by decide)]), gX_trans gx0 (gX_bad g3).1, gMf_trans (gMf_trans (gMf_trans gm0 (gX_bad g3).2) (gMf_put0 (by decide))) (gMf_put0 (by decide))⟩
      show (zlet (zput M 0 50 1) fun T6 => _) = _
      rw [zlet_def, eT, g2, zb_def, zlet_def, fTold (flt_pos hf).1, zb_def, zlet_def]
  · cases z
