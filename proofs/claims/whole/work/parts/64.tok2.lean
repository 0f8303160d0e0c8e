/-! ===== a token, on both sides ===== -/
/-- the class's store but for what a step writes -/
def fX (S T : zS) : Prop := (∀ k, k ≠ 2 → T.1 k = S.1 k) ∧ (∀ i, i ≠ 4 → i ≠ 5 → i ≠ 6 → i ≠ 7 → T.1 2 i = S.1 2 i) ∧ ∀ k i, ¬ (k = 2 ∧ i = 8) → T.2 k i = S.2 k i
def fM (S T : zS) : Prop := (∀ k, k ≠ 0 → T.1 k = S.1 k) ∧ (∀ i, i ≠ 4 → i ≠ 6 → i ≠ 7 → i ≠ 8 → T.1 0 i = S.1 0 i) ∧ ∀ k i, ¬ (k = 0 ∧ i = 9) → T.2 k i = S.2 k i
theorem fX_rfl (S : zS) : fX S S := ⟨fun _ _ => rfl, fun _ _ _ _ _ => rfl, fun _ _ _ => rfl⟩
theorem fM_rfl (S : zS) : fM S S := ⟨fun _ _ => rfl, fun _ _ _ _ _ => rfl, fun _ _ _ => rfl⟩
theorem fX_trans {S T U : zS} (h : fX S T) (h' : fX T U) : fX S U := ⟨fun k hk => (h'.1 k hk).trans (h.1 k hk), fun i a b c d => (h'.2.1 i a b c d).trans (h.2.1 i a b c d), fun k i hk => (h'.2.2 k i hk).trans (h.2.2 k i hk)⟩
theorem fM_trans {S T U : zS} (h : fM S T) (h' : fM T U) : fM S U := ⟨fun k hk => (h'.1 k hk).trans (h.1 k hk), fun i a b c d => (h'.2.1 i a b c d).trans (h.2.1 i a b c d), fun k i hk => (h'.2.2 k i hk).trans (h.2.2 k i hk)⟩
theorem fX_put {S : zS} {i : Nat} {x : Int32} (h : i = 4 ∨ i = 5 ∨ i = 6 ∨ i = 7) : fX S (zput S 2 i x) := ⟨fun k hk => zput1_ne S 2 i k x hk, fun j a b c d => by rw [zput1_eq, upd_ne _ _ _ _ (by omega)], fun _ _ _ => rfl⟩
theorem fM_put {S : zS} {i : Nat} {x : Int32} (h : i = 4 ∨ i = 6 ∨ i = 7 ∨ i = 8) : fM S (zput S 0 i x) := ⟨fun k hk => zput1_ne S 0 i k x hk, fun j a b c d => by rw [zput1_eq, upd_ne _ _ _ _ (by omega)], fun _ _ _ => rfl⟩
theorem vpL_ne {f : Nat → Int64} {k j : Nat} {x : Int64} (h : j ≠ k) : vp_updL f k x j = f j := if_neg h
theorem zputL2 (S : zS) (k i k' i' : Nat) (x : Int64) : (zputL S k i x).2 k' i' = if k' = k ∧ i' = i then x else S.2 k' i' := by
  show (if k' = k then vp_updL (S.2 k) i x else S.2 k') i' = _
  by_cases h : k' = k
  · subst h
    rw [if_pos rfl]
    show (if i' = i then x else S.2 k' i') = _
    by_cases h2 : i' = i
    · rw [if_pos h2, if_pos ⟨rfl, h2⟩]
    · rw [if_neg h2, if_neg (fun z => h2 z.2)]
  · rw [if_neg h, if_neg (fun z => h z.1)]
theorem fX_putL {S : zS} {x : Int64} : fX S (zputL S 2 8 x) := ⟨fun _ _ => rfl, fun _ _ _ _ _ => rfl, fun k i h => by rw [zputL2, if_neg h]⟩
theorem fM_putL {S : zS} {x : Int64} : fM S (zputL S 0 9 x) := ⟨fun _ _ => rfl, fun _ _ _ _ _ => rfl, fun k i h => by rw [zputL2, if_neg h]⟩
/-- the text: n bytes -/
def txt (cb : Nat → Nat) (n : Nat) (X M : zS) : Prop := n ≤ 1600 ∧ X.1 2 3 = nI n ∧ M.1 0 5 = nI n ∧ (∀ i, i < 1600 → cb i < 256 ∧ M.1 1 i = nI (cb i) ∧ X.1 1 i = bI (cb i)) ∧ ∀ i, i < 24 → X.2 4 i = zres.getD i 0
theorem txt_f {cb : Nat → Nat} {n : Nat} {X M X' M' : zS} (h : txt cb n X M) (hX : fX X X') (hM : fM M M') : txt cb n X' M' := by
  obtain ⟨h1, h2, h3, h4, h5⟩ := h
  refine ⟨h1, ?_, ?_, fun i hi => ?_, fun i hi => ?_⟩
  · rw [hX.2.1 3 (by decide) (by decide) (by decide) (by decide)]; exact h2
  · rw [hM.2.1 5 (by decide) (by decide) (by decide) (by decide)]; exact h3
  · rw [hX.1 1 (by decide), hM.1 1 (by decide)]; exact h4 i hi
  · rw [hX.2.2 4 i (by omega)]; exact h5 i hi
/-- the token at q, its next byte at b -/
def tk (n q : Nat) (X M : zS) : Prop := ∃ b : Nat, q ≤ b ∧ b ≤ n ∧ X.1 2 4 = nI q ∧ M.1 0 7 = nI q ∧ X.1 2 5 = nI b ∧
  ((X.1 2 6 = 0 ∧ M.1 0 6 = 0 ∧ M.1 0 4 = nI b) ∨
   (X.1 2 6 = 1 ∧ M.1 0 6 = 1 ∧ M.1 0 4 = nI b ∧ q < b ∧ wr (X.2 2 8) (M.2 0 9) ∧ X.1 2 7 = rsv (X.2 2 8)) ∨
   (X.1 2 6 = 2 ∧ M.1 0 6 = 2 ∧ M.1 0 4 = nI b ∧ q < b ∧ ∃ v, v ≤ 9999 ∧ X.1 2 7 = nI v ∧ M.1 0 8 = nI v) ∨
   (X.1 2 6 = 3 ∧ M.1 0 4 = nI b ∧ q < b ∧ ∃ c, c ∈ sgs ∧ X.1 2 7 = nI c ∧ M.1 0 6 = nI c) ∨
   (X.1 2 6 = 4 ∧ M.1 0 6 = 3))
theorem hereM {cb : Nat → Nat} {n q k : Nat} {X M : zS} (hT : txt cb n X M) (hq : q + k ≤ 100000) (e : M.1 0 4 = nI q) : f_X12_here (nI k) M = some (if q + k < n then nI (cb (q + k)) else -1, M) := by
  obtain ⟨h1, h2, h3, h4, h5⟩ := hT
  unfold f_X12_here
  rw [e, h3, nI_add]
  by_cases h : q + k < n
  · rw [if_pos (nI_lt h (by omega)), if_pos (zinN (by omega) (by omega)), if_pos h, nI_clamp (by omega), (h4 (q + k) (by omega)).2.1]
  · rw [if_neg (nI_nlt (by omega) (by omega)), if_neg h]
theorem hereL {cb : Nat → Nat} {n q k : Nat} {X M : zS} (hT : txt cb n X M) (hq : q + k ≤ 100000) (e : M.1 0 4 = nI q) {α : Type} (F : Int32 → zS → Option α) : (zb (f_X12_here (nI k) M) fun r T => zb (f_X12_isLetter r T) F) = F (if q + k < n ∧ isLt (cb (q + k)) = true then 1 else 0) M := by
  rw [hereM hT hq e, zb_def]
  by_cases h : q + k < n
  · rw [if_pos h, isLtM (hT.2.2.2.1 _ (by have := hT.1; omega)).1, zb_def]
    by_cases hl : isLt (cb (q + k)) = true
    · rw [if_pos hl, if_pos ⟨h, hl⟩]
    · rw [if_neg hl, if_neg (fun z => hl z.2)]
  · rw [if_neg h, isLtM1, zb_def, if_neg (fun z => h z.1)]
theorem hereD {cb : Nat → Nat} {n q k : Nat} {X M : zS} (hT : txt cb n X M) (hq : q + k ≤ 100000) (e : M.1 0 4 = nI q) {α : Type} (F : Int32 → zS → Option α) : (zb (f_X12_here (nI k) M) fun r T => zb (f_X12_isDigit r T) F) = F (if q + k < n ∧ isDg (cb (q + k)) = true then 1 else 0) M := by
  rw [hereM hT hq e, zb_def]
  by_cases h : q + k < n
  · rw [if_pos h, isDgM (hT.2.2.2.1 _ (by have := hT.1; omega)).1, zb_def]
    by_cases hl : isDg (cb (q + k)) = true
    · rw [if_pos hl, if_pos ⟨h, hl⟩]
    · rw [if_neg hl, if_neg (fun z => hl z.2)]
  · rw [if_neg h, isDgM1, zb_def, if_neg (fun z => h z.1)]
theorem nI_c {c k : Nat} (hc : c < 256) (hk : k < 256) : nI c = nI k ↔ c = k := nI_eq (by omega) (by omega)
theorem m1_32 : ¬ (-1 : Int32) = 32 := by decide
theorem m1_10 : ¬ (-1 : Int32) = 10 := by decide
/-! blanks -/
theorem blanks {cb : Nat → Nat} {n : Nat} : ∀ (m p kx km : Nat) (X M : zS), p + m = n → m < kx → m < km → txt cb n X M → X.1 2 4 = nI p → M.1 0 4 = nI p → ∃ q X' M' km', p ≤ q ∧ q ≤ n ∧ (q < n → ¬ cb q = 32 ∧ ¬ cb q = 10) ∧ f_X7_step_2_L8 kx X = f_X7_step_2_B60 X' ∧ f_X12_token_L0 km M = f_X12_token_L0 (km' + 1) M' ∧ fX X X' ∧ fM M M' ∧ X'.1 2 4 = nI q ∧ M'.1 0 4 = nI q := by
  intro m
  induction m with
  | zero =>
    intro p kx km X M hp hx hm hT e1 e2
    obtain ⟨kx, rfl⟩ : ∃ k, kx = k + 1 := ⟨kx - 1, by omega⟩
    obtain ⟨km, rfl⟩ : ∃ k, km = k + 1 := ⟨km - 1, by omega⟩
    have hn := hT.1
    refine ⟨p, X, M, km, Nat.le_refl _, by omega, fun h => absurd h (by omega), ?_, rfl, fX_rfl _, fM_rfl _, e1, e2⟩
    rw [f_X7_step_2_L8, e1, hT.2.1, if_neg (nI_nlt (by omega) (by omega))]
  | succ m ih =>
    intro p kx km X M hp hx hm hT e1 e2
    obtain ⟨kx, rfl⟩ : ∃ k, kx = k + 1 := ⟨kx - 1, by omega⟩
    obtain ⟨km, rfl⟩ : ∃ k, km = k + 1 := ⟨km - 1, by omega⟩
    have hn := hT.1
    obtain ⟨hc, hb1, hb2⟩ := hT.2.2.2.1 p (by omega)
    have hz : zin (nI p) 1600 := zinN (by omega) (by omega)
    have hX1 : X.1 1 (X.1 2 4).toNatClampNeg = bI (cb p) := by rw [e1, nI_clamp (by omega)]; exact hb2
    have hx0 : f_X7_step_2_L8 (kx + 1) X = if cb p = 32 ∨ cb p = 10 then f_X7_step_2_L8 kx (zput X 2 4 (nI (p + 1))) else f_X7_step_2_B60 X := by
      rw [f_X7_step_2_L8]
      simp only [hX1]
      rw [e1, hT.2.1, if_pos (nI_lt (by omega) (by omega)), if_pos hz, if_pos hz]
      unfold f_X7_step_2_B47
      rw [zlet_def, e1, nI_1]
      by_cases h32 : cb p = 32
      · rw [if_pos ((bI_32 _ hc).mpr h32), if_pos (Or.inl h32)]
      · rw [if_neg (fun z => h32 ((bI_32 _ hc).mp z))]
        by_cases h10 : cb p = 10
        · rw [if_pos ((bI_10 _ hc).mpr h10), if_pos (Or.inr h10)]
        · rw [if_neg (fun z => h10 ((bI_10 _ hc).mp z)), if_neg (fun z => z.elim h32 h10)]
    have hh : f_X12_here 0 M = some (nI (cb p), M) := by
      have := hereM (k := 0) hT (by omega) e2
      rw [Nat.add_zero, if_pos (by omega)] at this
      exact this
    by_cases hbl : cb p = 32 ∨ cb p = 10
    · rw [if_pos hbl] at hx0
      obtain ⟨q, X', M', km', h1, h2, h3, h4, h5, h6, h7, h8, h9⟩ := ih (p + 1) kx km (zput X 2 4 (nI (p + 1))) (zput M 0 4 (nI (p + 1))) (by omega) (by omega) (by omega) (txt_f hT (fX_put (Or.inl rfl)) (fM_put (Or.inl rfl))) (by rw [zput1_eq, upd_at]) (by rw [zput1_eq, upd_at])
      refine ⟨q, X', M', km', by omega, h2, h3, hx0.trans h4, ?_, fX_trans (fX_put (Or.inl rfl)) h6, fM_trans (fM_put (Or.inl rfl)) h7, h8, h9⟩
      rw [← h5, f_X12_token_L0, hh, zb_def, hh]
      unfold f_X12_token_B20
      rw [zlet_def, e2, nI_1]
      by_cases h32 : cb p = 32
      · rw [if_pos (by rw [h32]; rfl)]
      · have h10 : cb p = 10 := hbl.resolve_left h32
        rw [if_neg (show ¬ nI (cb p) = 32 from fun z => h32 ((nI_c (k := 32) hc (by omega)).mp z)), zb_def, if_pos (by rw [h10]; rfl), zlet_def, e2, nI_1]
    · rw [if_neg hbl] at hx0
      exact ⟨p, X, M, km, Nat.le_refl _, by omega, fun _ => ⟨fun z => hbl (Or.inl z), fun z => hbl (Or.inr z)⟩, hx0, rfl, fX_rfl _, fM_rfl _, e1, e2⟩
/-- how far a run of bytes of one sort goes -/
theorem runEx (P : Nat → Bool) (cb : Nat → Nat) : ∀ (m q n : Nat), q + m = n → ∃ K, q + K ≤ n ∧ (∀ i, i < K → P (cb (q + i)) = true) ∧ (q + K = n ∨ q + K < n ∧ P (cb (q + K)) = false)
  | 0, q, n, h => ⟨0, by omega, fun i hi => absurd hi (by omega), Or.inl (by omega)⟩
  | m + 1, q, n, h => by
    cases hp : P (cb q) with
    | false => exact ⟨0, by omega, fun i hi => absurd hi (by omega), Or.inr ⟨by omega, hp⟩⟩
    | true =>
      obtain ⟨K, h1, h2, h3⟩ := runEx P cb m (q + 1) n (by omega)
      refine ⟨K + 1, by omega, fun i hi => ?_, ?_⟩
      · cases i with
        | zero => exact hp
        | succ i => rw [show q + (i + 1) = q + 1 + i by omega]; exact h2 i (by omega)
      · rw [show q + (K + 1) = q + 1 + K by omega]; exact h3
/-! a word -/
theorem wordX {cb : Nat → Nat} {n q K : Nat} {M : zS} (h1 : q + K ≤ n) (h2 : ∀ i, i < K → isLt (cb (q + i)) = true) (h3 : q + K = n ∨ q + K < n ∧ isLt (cb (q + K)) = false) : ∀ (m k fuel : Nat) (X : zS), k + m = K → m < fuel → txt cb n X M → X.1 2 5 = nI (q + k) → X.2 2 8 = nL (E5 (fun i => cb (q + i)) k) → ∃ X', f_X7_stepWord_2_L5 fuel X = f_X7_stepWord_2_B83 X' ∧ fX X X' ∧ X'.1 2 4 = X.1 2 4 ∧ X'.1 2 5 = nI (q + K) ∧ X'.2 2 8 = nL (E5 (fun i => cb (q + i)) K) := by
  intro m
  induction m with
  | zero =>
    intro k fuel X hk hf hT e5 e8
    obtain ⟨fuel, rfl⟩ : ∃ k, fuel = k + 1 := ⟨fuel - 1, by omega⟩
    have : k = K := by omega
    subst this
    have hn := hT.1
    refine ⟨X, ?_, fX_rfl _, rfl, e5, e8⟩
    rw [f_X7_stepWord_2_L5]
    rcases h3 with h3 | ⟨h3, h4⟩
    · rw [e5, hT.2.1, if_neg (nI_nlt (by omega) (by omega))]
    · obtain ⟨hc, -, hb2⟩ := hT.2.2.2.1 (q + k) (by omega)
      have hX1 : X.1 1 (X.1 2 5).toNatClampNeg = bI (cb (q + k)) := by rw [e5, nI_clamp (by omega)]; exact hb2
      simp only [hX1]
      rw [e5, hT.2.1, if_pos (nI_lt h3 (by omega)), if_pos (zinN (by omega) (by omega)), if_pos (zinN (by omega) (by omega))]
      rcases (bI_lt _ hc).mpr h4 with h | h
      · rw [if_pos h]
      · by_cases h' : bI (cb (q + k)) < 97
        · rw [if_pos h']
        · rw [if_neg h', if_pos h]
  | succ m ih =>
    intro k fuel X hk hf hT e5 e8
    obtain ⟨fuel, rfl⟩ : ∃ k, fuel = k + 1 := ⟨fuel - 1, by omega⟩
    have hn := hT.1
    obtain ⟨hc, -, hb2⟩ := hT.2.2.2.1 (q + k) (by omega)
    have hl := h2 k (by omega)
    have hX1 : X.1 1 (X.1 2 5).toNatClampNeg = bI (cb (q + k)) := by rw [e5, nI_clamp (by omega)]; exact hb2
    have hng : ¬ (bI (cb (q + k)) < 97 ∨ 122 < bI (cb (q + k))) := fun z => by rw [(bI_lt _ hc).mp z] at hl; cases hl
    have hz : zin (nI (q + k)) 1600 := zinN (by omega) (by omega)
    have hr := lt_rng hl
    have hE : ((X.2 2 8) <<< (Int32.toInt64 5 &&& 63)) ||| (Int32.toInt64 (nI (cb (q + k) - 96))) = nL (E5 (fun i => cb (q + i)) (k + 1)) := by
      rw [e8]
      exact nL_shl (E5 (fun i => cb (q + i)) k) (cb (q + k) - 96) 5 (Or.inl rfl) (by omega)
    obtain ⟨X', g1, g2, g3, g4, g5⟩ := ih (k + 1) fuel (zput (zputL X 2 8 (nL (E5 (fun i => cb (q + i)) (k + 1)))) 2 5 (nI (q + (k + 1)))) (by omega) (by omega) (txt_f hT (fX_trans fX_putL (fX_put (by omega))) (fM_rfl M)) (by rw [zput1_eq, upd_at]) ((zputL2 X 2 8 2 8 _).trans (if_pos ⟨rfl, rfl⟩))
    refine ⟨X', ?_, fX_trans (fX_trans fX_putL (fX_put (by omega))) g2, g3.trans ?_, g4, g5⟩
    · rw [← g1, f_X7_stepWord_2_L5]
      simp only [hX1]
      rw [e5, hT.2.1, if_pos (nI_lt (by omega) (by omega)), if_pos hz, if_neg (fun z => hng (Or.inl z)), if_pos hz, if_neg (fun z => hng (Or.inr z)), if_pos hz, zlet_def, zlet_def, bI_let _ hc hl, hE]
      show f_X7_stepWord_2_L5 fuel (zput _ 2 5 (X.1 2 5 + 1)) = _
      rw [e5, nI_1]
      rfl
    · rw [zput1_eq, upd_ne _ _ _ _ (by decide)]; rfl
theorem wordM {cb : Nat → Nat} {n q K : Nat} {X : zS} (h1 : q + K ≤ n) (h2 : ∀ i, i < K → isLt (cb (q + i)) = true) (h3 : q + K = n ∨ q + K < n ∧ isLt (cb (q + K)) = false) : ∀ (m k fuel : Nat) (M : zS), k + m = K → m < fuel → txt cb n X M → M.1 0 4 = nI q → M.2 0 9 = nL (E8 (fun i => cb (q + i)) (min k 8)) → ∃ M', f_X12_token_L78 fuel (nI k) M = (if 8 < K then f_X12_token_B131 (nI K) 3 M' else f_X12_token_B131 (nI K) 1 M') ∧ fM M M' ∧ M'.1 0 4 = nI q ∧ M'.1 0 7 = M.1 0 7 ∧ M'.2 0 9 = nL (E8 (fun i => cb (q + i)) (min K 8)) := by
  intro m
  induction m with
  | zero =>
    intro k fuel M hk hf hT e4 e9
    obtain ⟨fuel, rfl⟩ : ∃ k, fuel = k + 1 := ⟨fuel - 1, by omega⟩
    have : k = K := by omega
    subst this
    have hn := hT.1
    refine ⟨M, ?_, fM_rfl _, e4, rfl, e9⟩
    rw [f_X12_token_L78, hereL hT (by omega) e4, if_neg (show ¬ (q + k < n ∧ isLt (cb (q + k)) = true) from fun z => by
      rcases h3 with h | ⟨-, h⟩
      · omega
      · rw [h] at z; exact absurd z.2 (by decide)), if_pos rfl]
    by_cases h8 : 8 < k
    · rw [if_pos (show (8 : Int32) < nI k from nI_lt (a := 8) h8 (by omega)), if_pos h8]
    · rw [if_neg (show ¬ (8 : Int32) < nI k from nI_nlt (b := k) (a := 8) (by omega) (by omega)), if_neg h8]
  | succ m ih =>
    intro k fuel M hk hf hT e4 e9
    obtain ⟨fuel, rfl⟩ : ∃ k, fuel = k + 1 := ⟨fuel - 1, by omega⟩
    have hn := hT.1
    have hl := h2 k (by omega)
    have hr := lt_rng hl
    have hs : f_X12_token_L78 (fuel + 1) (nI k) M = if k < 8 then f_X12_token_L78 fuel (nI (k + 1)) (zputL M 0 9 (nL (E8 (fun i => cb (q + i)) (k + 1)))) else f_X12_token_L78 fuel (nI (k + 1)) M := by
      rw [f_X12_token_L78, hereL hT (by omega) e4, if_pos (show q + k < n ∧ isLt (cb (q + k)) = true from ⟨by omega, hl⟩), if_neg (by decide)]
      by_cases h8 : k < 8
      · have hE : ((M.2 0 9) <<< (Int32.toInt64 8 &&& 63)) ||| (Int32.toInt64 (nI (cb (q + k)))) = nL (E8 (fun i => cb (q + i)) (k + 1)) := by
          rw [e9, show min k 8 = k by omega]
          exact nL_shl (E8 (fun i => cb (q + i)) k) (cb (q + k)) 8 (Or.inr rfl) (by omega)
        rw [if_pos (show nI k < 8 from nI_lt (b := 8) h8 (by omega)), if_pos h8, hereM hT (by omega) e4, zb_def, if_pos (show q + k < n by omega), zlet_def, zlet_def, hE, nI_1]
      · rw [if_neg (show ¬ nI k < 8 from nI_nlt (b := 8) (by omega) (by omega)), if_neg h8, zlet_def, nI_1]
    by_cases h8 : k < 8
    · rw [if_pos h8] at hs
      obtain ⟨M', g1, g2, g3, g4, g5⟩ := ih (k + 1) fuel (zputL M 0 9 (nL (E8 (fun i => cb (q + i)) (k + 1)))) (by omega) (by omega) (txt_f hT (fX_rfl X) fM_putL) e4 (by rw [zputL2, if_pos ⟨rfl, rfl⟩, show min (k + 1) 8 = k + 1 by omega])
      exact ⟨M', hs.trans g1, fM_trans fM_putL g2, g3, g4, g5⟩
    · rw [if_neg h8] at hs
      obtain ⟨M', g1, g2, g3, g4, g5⟩ := ih (k + 1) fuel M (by omega) (by omega) hT e4 (by rw [e9, show min (k + 1) 8 = min k 8 by omega])
      exact ⟨M', hs.trans g1, g2, g3, g4, g5⟩
theorem rsvX {cb : Nat → Nat} {n : Nat} {X M : zS} (hT : txt cb n X M) (e7 : X.1 2 7 = -1) : ∃ X', f_X7_stepWord_2_L113 zN 0 X = some X' ∧ kp [2] X X' ∧ (∀ i, i ≠ 7 → X'.1 2 i = X.1 2 i) ∧ X'.1 2 7 = rsv (X.2 2 8) := by
  refine loopI (f := fun q (V : zS) i => f_X7_stepWord_2_L113 q (nI i) V) (fun i V => kp [2] X V ∧ (∀ i, i ≠ 7 → V.1 2 i = X.1 2 i) ∧ V.1 2 7 = foldN (fun acc i => if zres.getD i 0 = X.2 2 8 then nI i else acc) 0 i (-1)) (fun o => ∃ X', o = some X' ∧ kp [2] X X' ∧ (∀ i, i ≠ 7 → X'.1 2 i = X.1 2 i) ∧ X'.1 2 7 = rsv (X.2 2 8)) (c := 24) ?_ ?_ 24 0 zN X (by omega) (by decide) ⟨kp_rfl _ _, fun _ _ => rfl, e7⟩
  · rintro q V i hi ⟨kV, h2, h7⟩
    rw [foldN_snoc, Nat.zero_add]
    have e1 : f_X7_stepWord_2_L113 (q + 1) (nI i) V = if zres.getD i 0 = X.2 2 8 then f_X7_stepWord_2_L113 q (nI (i + 1)) (zput V 2 7 (nI i)) else f_X7_stepWord_2_L113 q (nI (i + 1)) V := by
      rw [f_X7_stepWord_2_L113, if_pos (show nI i < 24 from nI_lt (b := 24) hi (by omega)), if_pos (zinN (by omega) (by omega)), nI_clamp (by omega), kV.1, hT.2.2.2.2 i hi, zlet_def, zlet_def, zlet_def, nI_1]
      by_cases h : zres.getD i 0 = X.2 2 8
      · rw [if_pos ((lg_cmp_eq _ _).mpr h), if_pos h]
      · rw [if_neg (fun z => h ((lg_cmp_eq _ _).mp z)), if_neg h]
    by_cases h : zres.getD i 0 = X.2 2 8
    · rw [if_pos h] at e1 ⊢
      refine ⟨_, e1, kp_trans kV (kp_put (by decide)), fun j hj => ?_, by rw [zput1_eq, upd_at]⟩
      rw [zput1_eq, upd_ne _ _ _ _ hj]; exact h2 j hj
    · rw [if_neg h] at e1 ⊢
      exact ⟨V, e1, kV, h2, h7⟩
  · rintro q V ⟨kV, h2, h7⟩
    refine ⟨V, ?_, kV, h2, h7⟩
    rw [f_X7_stepWord_2_L113, if_neg (by decide)]
/-! a number -/
def V10 (f : Nat → Nat) : Nat → Nat
  | 0 => 0
  | k + 1 => V10 f k * 10 + (f k - 48)
theorem dg_rng {c : Nat} (h : isDg c = true) : 48 ≤ c ∧ c ≤ 57 := by simpa [isDg] using h
theorem V10_lt {f : Nat → Nat} : ∀ k, (∀ i, i < k → isDg (f i) = true) → V10 f k < 10 ^ k
  | 0, _ => by show (0 : Nat) < 1; omega
  | k + 1, h => by
    have h1 := V10_lt k (fun i hi => h i (by omega))
    have h2 := dg_rng (h k (by omega))
    show V10 f k * 10 + (f k - 48) < 10 ^ (k + 1)
    rw [Nat.pow_succ]
    omega
theorem numX {cb : Nat → Nat} {n q K : Nat} {M : zS} (h1 : q + K ≤ n) (h2 : ∀ i, i < K → isDg (cb (q + i)) = true) (h3 : q + K = n ∨ q + K < n ∧ isDg (cb (q + K)) = false) : ∀ (m k fuel : Nat) (X : zS), k + m = K → m < fuel → txt cb n X M → X.1 2 5 = nI (q + k) → X.1 2 7 = nI (V10 (fun i => cb (q + i)) k) → ∃ X', f_X7_stepNumber_2_L5 fuel X = f_X7_stepNumber_2_B81 X' ∧ fX X X' ∧ X'.1 2 4 = X.1 2 4 ∧ X'.1 2 5 = nI (q + K) ∧ X'.1 2 7 = nI (V10 (fun i => cb (q + i)) K) := by
  intro m
  induction m with
  | zero =>
    intro k fuel X hk hf hT e5 e8
    obtain ⟨fuel, rfl⟩ : ∃ k, fuel = k + 1 := ⟨fuel - 1, by omega⟩
    have : k = K := by omega
    subst this
    have hn := hT.1
    refine ⟨X, ?_, fX_rfl _, rfl, e5, e8⟩
    rw [f_X7_stepNumber_2_L5]
    rcases h3 with h3 | ⟨h3, h4⟩
    · rw [e5, hT.2.1, if_neg (nI_nlt (by omega) (by omega))]
    · obtain ⟨hc, -, hb2⟩ := hT.2.2.2.1 (q + k) (by omega)
      have hX1 : X.1 1 (X.1 2 5).toNatClampNeg = bI (cb (q + k)) := by rw [e5, nI_clamp (by omega)]; exact hb2
      simp only [hX1]
      rw [e5, hT.2.1, if_pos (nI_lt h3 (by omega)), if_pos (zinN (by omega) (by omega)), if_pos (zinN (by omega) (by omega))]
      rcases (bI_dg _ hc).mpr h4 with h | h
      · rw [if_pos h]
      · by_cases h' : bI (cb (q + k)) < 48
        · rw [if_pos h']
        · rw [if_neg h', if_pos h]
  | succ m ih =>
    intro k fuel X hk hf hT e5 e8
    obtain ⟨fuel, rfl⟩ : ∃ k, fuel = k + 1 := ⟨fuel - 1, by omega⟩
    have hn := hT.1
    obtain ⟨hc, -, hb2⟩ := hT.2.2.2.1 (q + k) (by omega)
    have hl := h2 k (by omega)
    have hX1 : X.1 1 (X.1 2 5).toNatClampNeg = bI (cb (q + k)) := by rw [e5, nI_clamp (by omega)]; exact hb2
    have hng : ¬ (bI (cb (q + k)) < 48 ∨ 57 < bI (cb (q + k))) := fun z => by rw [(bI_dg _ hc).mp z] at hl; cases hl
    have hz : zin (nI (q + k)) 1600 := zinN (by omega) (by omega)
    have hr := dg_rng hl
    have hE : X.1 2 7 * 10 + nI (cb (q + k) - 48) = nI (V10 (fun i => cb (q + i)) (k + 1)) := by
      rw [e8, show (10 : Int32) = nI 10 from rfl, pk_mul, nI_add]
      rfl
    obtain ⟨X', g1, g2, g3, g4, g5⟩ := ih (k + 1) fuel (zput (zput X 2 7 (nI (V10 (fun i => cb (q + i)) (k + 1)))) 2 5 (nI (q + (k + 1)))) (by omega) (by omega) (txt_f hT (fX_trans (fX_put (by omega)) (fX_put (by omega))) (fM_rfl M)) (by rw [zput1_eq, upd_at]) (by rw [zput1_eq, upd_ne _ _ _ _ (by decide), zput1_eq, upd_at])
    refine ⟨X', ?_, fX_trans (fX_trans (fX_put (by omega)) (fX_put (by omega))) g2, g3.trans ?_, g4, g5⟩
    · rw [← g1, f_X7_stepNumber_2_L5]
      simp only [hX1]
      rw [e5, hT.2.1, if_pos (nI_lt (by omega) (by omega)), if_pos hz, if_neg (fun z => hng (Or.inl z)), if_pos hz, if_neg (fun z => hng (Or.inr z)), if_pos hz, zlet_def, zlet_def, bI_num _ hc hl, hE]
      show f_X7_stepNumber_2_L5 fuel (zput _ 2 5 ((zput X 2 7 _).1 2 5 + 1)) = _
      rw [zput1_eq, upd_ne _ _ _ _ (by decide), e5, nI_1]
      rfl
    · rw [zput1_eq, upd_ne _ _ _ _ (by decide), zput1_eq, upd_ne _ _ _ _ (by decide)]
theorem numM {cb : Nat → Nat} {n q K : Nat} {X : zS} (h1 : q + K ≤ n) (h2 : ∀ i, i < K → isDg (cb (q + i)) = true) (h3 : q + K = n ∨ q + K < n ∧ isDg (cb (q + K)) = false) : ∀ (m k fuel : Nat) (M : zS), k + m = K → m < fuel → txt cb n X M → M.1 0 4 = nI q → M.1 0 8 = nI (V10 (fun i => cb (q + i)) (min k 4)) → ∃ M', f_X12_token_L144 fuel (nI k) M = (if 4 < K ∨ q + K < n ∧ isLt (cb (q + K)) = true then f_X12_token_B208 (nI K) 3 M' else f_X12_token_B208 (nI K) 2 M') ∧ fM M M' ∧ M'.1 0 4 = nI q ∧ M'.1 0 7 = M.1 0 7 ∧ M'.1 0 8 = nI (V10 (fun i => cb (q + i)) (min K 4)) := by
  intro m
  induction m with
  | zero =>
    intro k fuel M hk hf hT e4 e9
    obtain ⟨fuel, rfl⟩ : ∃ k, fuel = k + 1 := ⟨fuel - 1, by omega⟩
    have : k = K := by omega
    subst this
    have hn := hT.1
    refine ⟨M, ?_, fM_rfl _, e4, rfl, e9⟩
    rw [f_X12_token_L144, hereD hT (by omega) e4, if_neg (show ¬ (q + k < n ∧ isDg (cb (q + k)) = true) from fun z => by
      rcases h3 with h | ⟨-, h⟩
      · omega
      · rw [h] at z; exact absurd z.2 (by decide)), if_pos rfl]
    by_cases h8 : 4 < k
    · rw [if_pos (show (4 : Int32) < nI k from nI_lt (a := 4) h8 (by omega)), if_pos (Or.inl h8)]
    · rw [if_neg (show ¬ (4 : Int32) < nI k from nI_nlt (b := k) (a := 4) (by omega) (by omega)), hereL hT (by omega) e4]
      by_cases hl : q + k < n ∧ isLt (cb (q + k)) = true
      · rw [if_pos hl, if_neg (by decide), if_pos (Or.inr hl)]
      · rw [if_neg hl, if_pos rfl, if_neg (fun z => z.elim h8 hl)]
  | succ m ih =>
    intro k fuel M hk hf hT e4 e9
    obtain ⟨fuel, rfl⟩ : ∃ k, fuel = k + 1 := ⟨fuel - 1, by omega⟩
    have hn := hT.1
    have hl := h2 k (by omega)
    have hr := dg_rng hl
    have hs : f_X12_token_L144 (fuel + 1) (nI k) M = if k < 4 then f_X12_token_L144 fuel (nI (k + 1)) (zput M 0 8 (nI (V10 (fun i => cb (q + i)) (k + 1)))) else f_X12_token_L144 fuel (nI (k + 1)) M := by
      rw [f_X12_token_L144, hereD hT (by omega) e4, if_pos (show q + k < n ∧ isDg (cb (q + k)) = true from ⟨by omega, hl⟩), if_neg (by decide)]
      by_cases h8 : k < 4
      · have hE : ((10 * (M.1 0 8)) + nI (cb (q + k))) - 48 = nI (V10 (fun i => cb (q + i)) (k + 1)) := by
          rw [e9, show min k 4 = k by omega, show (10 : Int32) = nI 10 from rfl, pk_mul, nI_add, show (48 : Int32) = nI 48 from rfl, pk_sub (by omega)]
          congr 1
          show 10 * V10 (fun i => cb (q + i)) k + cb (q + k) - 48 = V10 (fun i => cb (q + i)) k * 10 + (cb (q + k) - 48)
          omega
        rw [if_pos (show nI k < 4 from nI_lt (b := 4) h8 (by omega)), if_pos h8, hereM hT (by omega) e4, zb_def, if_pos (show q + k < n by omega), zlet_def, zlet_def, hE, nI_1]
      · rw [if_neg (show ¬ nI k < 4 from nI_nlt (b := 4) (by omega) (by omega)), if_neg h8, zlet_def, nI_1]
    by_cases h8 : k < 4
    · rw [if_pos h8] at hs
      obtain ⟨M', g1, g2, g3, g4, g5⟩ := ih (k + 1) fuel (zput M 0 8 (nI (V10 (fun i => cb (q + i)) (k + 1)))) (by omega) (by omega) (txt_f hT (fX_rfl X) (fM_put (by omega))) (by rw [zput1_eq, upd_ne _ _ _ _ (by decide)]; exact e4) (by rw [zput1_eq, upd_at, show min (k + 1) 4 = k + 1 by omega])
      exact ⟨M', hs.trans g1, fM_trans (fM_put (by omega)) g2, g3, g4.trans (by rw [zput1_eq, upd_ne _ _ _ _ (by decide)]), g5⟩
    · rw [if_neg h8] at hs
      obtain ⟨M', g1, g2, g3, g4, g5⟩ := ih (k + 1) fuel M (by omega) (by omega) hT e4 (by rw [e9, show min (k + 1) 4 = min k 4 by omega])
      exact ⟨M', hs.trans g1, g2, g3, g4, g5⟩
