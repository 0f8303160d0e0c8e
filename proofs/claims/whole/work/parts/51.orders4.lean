/-! ===== orders: the reference ===== -/
theorem loopX {α β : Type} {f : Nat → α → Nat → Option β} (R : Nat → α → Prop) (Q : Option β → Prop) {c : Nat} (h1 : ∀ n a b, b < c → R b a → Q (f (n + 1) a b) ∨ ∃ a1, f (n + 1) a b = f n a1 (b + 1) ∧ R (b + 1) a1) (h2 : ∀ n a, R c a → Q (f (n + 1) a c)) : ∀ (m b n : Nat) (a : α), b + m = c → m < n → R b a → Q (f n a b) := by
  intro m
  induction m with
  | zero =>
    intro b n a hb hn hR
    obtain ⟨k, rfl⟩ : ∃ k, n = k + 1 := ⟨n - 1, by omega⟩
    have : b = c := by omega
    subst this
    exact h2 k a hR
  | succ m ih =>
    intro b n a hb hn hR
    obtain ⟨k, rfl⟩ : ∃ k, n = k + 1 := ⟨n - 1, by omega⟩
    rcases h1 k a b (by omega) hR with hq | ⟨a1, e1, hR'⟩
    · exact hq
    · rw [e1]
      exact ih (b + 1) k a1 (by omega) (by omega) hR'
theorem placeM {S : zS} {n : Nat} {l : List Nat} {kk : Int32} (hn : n ≤ 5) (hl : l ∈ prm n) (hS : ∀ p, p < n → S.1 33 p = nI (l.getD p 0)) : ∃ T, f_X12_isOrder_L2 zN (nI n) kk 0 S = f_X12_isOrder_L30 zN (nI n) kk 1 0 T ∧ kp [34] S T ∧ ∀ b, b < n → T.1 34 b = nI (l.idxOf b) := by
  obtain ⟨l1, l2, l3⟩ := prm_ok n (by omega) l hl
  refine loopI (f := fun q (T : zS) p => f_X12_isOrder_L2 q (nI n) kk (nI p) T) (fun p T => kp [34] S T ∧ ∀ p', p' < p → T.1 34 (l.getD p' 0) = nI p') (fun o => ∃ T, o = f_X12_isOrder_L30 zN (nI n) kk 1 0 T ∧ kp [34] S T ∧ ∀ b, b < n → T.1 34 b = nI (l.idxOf b)) (c := n) ?_ ?_ n 0 zN S (by omega) (by show n < 10000; omega) ⟨kp_rfl _ _, fun p hp => absurd hp (by omega)⟩
  · intro q T p hp ⟨kT, hT⟩
    obtain ⟨a1, a2⟩ := l2 p hp
    have e33 : T.1 33 p = nI (l.getD p 0) := by rw [kT.2 33 (by decide)]; exact hS p hp
    refine ⟨zput T 34 (l.getD p 0) (nI p), ?_, kp_trans kT (kp_put (by decide)), fun p' hp' => ?_⟩
    · show f_X12_isOrder_L2 (q + 1) (nI n) kk (nI p) T = _
      rw [f_X12_isOrder_L2, if_pos (nI_lt hp (by omega)), if_pos (zinN (show p < 5 by omega) (by omega)), nI_clamp (show p < 2 ^ 31 by omega), e33, if_pos (zinN (show l.getD p 0 < 5 by omega) (by omega)), zlet_def, zlet_def, nI_1, nI_clamp (show l.getD p 0 < 2 ^ 31 by omega)]
    · rw [zput1_eq]
      by_cases hpp : p' = p
      · subst hpp; exact upd_at _ _ _
      · have : l.getD p' 0 ≠ l.getD p 0 := fun z => by
          have h1 := (l2 p' (by omega)).2
          rw [z, a2] at h1
          exact hpp h1.symm
        rw [upd_ne _ _ _ _ this]
        exact hT p' (by omega)
  · intro q T ⟨kT, hT⟩
    refine ⟨T, ?_, kT, fun b hb => ?_⟩
    · show f_X12_isOrder_L2 (q + 1) (nI n) kk (nI n) T = _
      rw [f_X12_isOrder_L2, if_neg (nI_nlt (Nat.le_refl n) (by omega))]
    · obtain ⟨b1, b2⟩ := l3 b hb
      have := hT (l.idxOf b) b1
      rw [b2] at this
      exact this
theorem behM {S : zS} {n b w : Nat} {l : List Nat} (hn : n ≤ 5) (hl : l ∈ prm n) (hb : b < n) (hw : w < 8) (hp : ∀ b, b < n → S.1 34 b = nI (l.idxOf b)) (ho : isI (-1) (b - 1) (S.1 19 (8 * b + w))) : ∃ r, f_X12_isBehind (nI b) (nI w) S = some (r, S) ∧ (r = 0 ∨ r = 1) ∧ (¬ r = 0 ↔ ∀ i, i < 32 → S.1 19 (8 * b + w) = nI i → l.idxOf i < l.idxOf b) := by
  obtain ⟨l1, l2, l3⟩ := prm_ok n (by omega) l hl
  unfold f_X12_isBehind
  rw [nI_8, if_pos (zinN (show 8 * b + w < 99 by omega) (by omega)), zlet_def, nI_clamp (show 8 * b + w < 2 ^ 31 by omega)]
  generalize hx : S.1 19 (8 * b + w) = x at ho
  by_cases h0 : x < 0
  · rw [if_pos h0]
    refine ⟨1, rfl, Or.inr rfl, fun _ i hi e => ?_, fun _ => by decide⟩
    rw [e] at h0
    exact absurd h0 (nI_not_neg (by omega))
  · obtain ⟨j, hj, rfl⟩ := nI_of h0
    have hj2 := (isI_toInt ho (by omega) (by omega)).2
    rw [nI_toInt hj] at hj2
    have hjn : j < n := by omega
    have q1 := (l3 j hjn).1
    have q2 := (l3 b hb).1
    rw [if_neg h0, if_pos (zinN (show b < 5 by omega) (by omega)), if_pos (zinN (show j < 5 by omega) (by omega)), nI_clamp (show b < 2 ^ 31 by omega), nI_clamp hj, hp j hjn, hp b hb]
    simp only [nI_ltI (show l.idxOf j < 2 ^ 31 by omega) (show l.idxOf b < 2 ^ 31 by omega)]
    by_cases h : l.idxOf j < l.idxOf b
    · rw [if_pos h]
      refine ⟨1, rfl, Or.inr rfl, fun _ i hi e => ?_, fun _ => by decide⟩
      have : j = i := (nI_eq hj (by omega)).mp e
      rw [← this]; exact h
    · rw [if_neg h]
      exact ⟨0, rfl, Or.inl rfl, fun z => absurd rfl z, fun z => absurd (z j (by omega) rfl) h⟩
def okBh (N : Nat → Int32) (l : List Nat) (b : Nat) : Prop := ∀ i, i < 32 → N (8 * b + 6) = nI i ∨ N (8 * b + 7) = nI i → l.idxOf i < l.idxOf b
theorem ord30 {S : zS} {n : Nat} {l : List Nat} {kk : Int32} (hn : n ≤ 5) (hl : l ∈ prm n) (hp : ∀ b, b < n → S.1 34 b = nI (l.idxOf b)) (ham : ∀ b : Nat, b < n → isI (-1) (b - 1) (S.1 19 (8 * b + 6))) (hrp : ∀ b : Nat, b < n → isI (-1) (b - 1) (S.1 19 (8 * b + 7))) : ∃ a, f_X12_isOrder_L30 zN (nI n) kk 1 0 S = f_X12_isOrder_L77 zN (nI n) kk a 0 S ∧ (a = 0 ∨ a = 1) ∧ (¬ a = 0 ↔ ∀ b, b < n → okBh (S.1 19) l b) := by
  refine loopI (f := fun q (a : Int32) b => f_X12_isOrder_L30 q (nI n) kk a (nI b) S) (fun b a => (a = 0 ∨ a = 1) ∧ (¬ a = 0 ↔ ∀ b', b' < b → okBh (S.1 19) l b')) (fun o => ∃ a, o = f_X12_isOrder_L77 zN (nI n) kk a 0 S ∧ (a = 0 ∨ a = 1) ∧ (¬ a = 0 ↔ ∀ b, b < n → okBh (S.1 19) l b)) (c := n) ?_ ?_ n 0 zN 1 (by omega) (by show n < 10000; omega) ⟨Or.inr rfl, fun _ b hb => absurd hb (by omega), fun _ => by decide⟩
  · intro q a b hb ⟨ha, hR⟩
    have e0 : f_X12_isOrder_L30 (q + 1) (nI n) kk a (nI b) S = if a = 0 then f_X12_isOrder_L30 q (nI n) kk 0 (nI (b + 1)) S else zb (f_X12_isBehind (nI b) (nI 6) S) fun r5 T4 => if r5 = 0 then f_X12_isOrder_L30 q (nI n) kk 0 (nI (b + 1)) T4 else zb (f_X12_isBehind (nI b) (nI 7) T4) fun r9 T8 => if r9 = 0 then f_X12_isOrder_L30 q (nI n) kk 0 (nI (b + 1)) T8 else f_X12_isOrder_L30 q (nI n) kk 1 (nI (b + 1)) T8 := by
      rw [f_X12_isOrder_L30, if_pos (nI_lt hb (by omega))]
      simp only [zlet_def, nI_1]
      rfl
    show ∃ a1, f_X12_isOrder_L30 (q + 1) (nI n) kk a (nI b) S = _ ∧ _
    rw [e0]
    by_cases ha0 : a = 0
    · rw [if_pos ha0]
      refine ⟨0, rfl, Or.inl rfl, fun z => absurd rfl z, fun z => ?_⟩
      exact absurd ha0 (hR.mpr fun b' hb' => z b' (by omega))
    · rw [if_neg ha0]
      obtain ⟨r, er, -, hr⟩ := behM hn hl hb (w := 6) (by omega) hp (ham b hb)
      obtain ⟨r', er', -, hr'⟩ := behM hn hl hb (w := 7) (by omega) hp (hrp b hb)
      rw [er, zb_def]
      by_cases hr0 : r = 0
      · rw [if_pos hr0]
        refine ⟨0, rfl, Or.inl rfl, fun z => absurd rfl z, fun z => ?_⟩
        exact absurd hr0 (hr.mpr fun i hi e => z b (by omega) i hi (Or.inl e))
      · rw [if_neg hr0, er', zb_def]
        by_cases hr1 : r' = 0
        · rw [if_pos hr1]
          refine ⟨0, rfl, Or.inl rfl, fun z => absurd rfl z, fun z => ?_⟩
          exact absurd hr1 (hr'.mpr fun i hi e => z b (by omega) i hi (Or.inr e))
        · rw [if_neg hr1]
          refine ⟨1, rfl, Or.inr rfl, fun _ b' hb' => ?_, fun _ => by decide⟩
          by_cases hbb : b' = b
          · subst hbb
            intro i hi e
            rcases e with e | e
            · exact hr.mp hr0 i hi e
            · exact hr'.mp hr1 i hi e
          · exact hR.mp ha0 b' (by omega)
  · intro q a ⟨ha, hR⟩
    refine ⟨a, ?_, ha, hR⟩
    show f_X12_isOrder_L30 (q + 1) (nI n) kk a (nI n) S = _
    rw [f_X12_isOrder_L30, if_neg (nI_nlt (Nat.le_refl n) (by omega))]
/-- a ring's word, kept by an order -/
def okRg (S : zS) (l : List Nat) (kk : Int32) (n j : Nat) : Prop := ¬ kk < S.1 30 j → (S.1 31 j < 0 ∨ kk < S.1 31 j) → ∀ a b, a < 5 → b < 5 → S.1 28 j = nI a → S.1 29 j = nI b → a < n → b < n → (l.idxOf a < l.idxOf b ↔ S.1 32 j = 1)
theorem ord77 {S : zS} {n rn : Nat} {l : List Nat} {kk a0 : Int32} {P : Prop} (hn : n ≤ 5) (hr : rn ≤ 30) (hl : l ∈ prm n) (hp : ∀ b, b < n → S.1 34 b = nI (l.idxOf b)) (e72 : S.1 0 72 = nI rn) (hring : ∀ j, j < rn → ∃ a b : Nat, a < 5 ∧ b < 5 ∧ S.1 28 j = nI a ∧ S.1 29 j = nI b ∧ (S.1 32 j = 0 ∨ S.1 32 j = 1)) (ha0 : a0 = 0 ∨ a0 = 1) (hP : ¬ a0 = 0 ↔ P) : ∃ r, f_X12_isOrder_L77 zN (nI n) kk a0 0 S = some (r, S) ∧ (r = 0 ∨ r = 1) ∧ (¬ r = 0 ↔ P ∧ ∀ j, j < rn → okRg S l kk n j) := by
  obtain ⟨l1, l2, l3⟩ := prm_ok n (by omega) l hl
  refine loopX (f := fun q (a : Int32) j => f_X12_isOrder_L77 q (nI n) kk a (nI j) S) (fun j a => (a = 0 ∨ a = 1) ∧ (¬ a = 0 ↔ P ∧ ∀ j', j' < j → okRg S l kk n j')) (fun o => ∃ r, o = some (r, S) ∧ (r = 0 ∨ r = 1) ∧ (¬ r = 0 ↔ P ∧ ∀ j, j < rn → okRg S l kk n j)) (c := rn) ?_ ?_ rn 0 zN a0 (by omega) (by show rn < 10000; omega) ⟨ha0, fun z => ⟨hP.mp z, fun j hj => absurd hj (by omega)⟩, fun z => hP.mpr z.1⟩
  · intro q a j hj ⟨ha, hR⟩
    obtain ⟨x, y, hx, hy, e28, e29, h32⟩ := hring j hj
    have hz : zin (nI j) 30 := zinN (by omega) (by omega)
    have e0 : f_X12_isOrder_L77 (q + 1) (nI n) kk a (nI j) S = if a = 0 then (if znb a then some (a, S) else none) else if kk < S.1 30 j then f_X12_isOrder_L77 q (nI n) kk a (nI (j + 1)) S else if S.1 31 j < 0 then f_X12_isOrder_B122 (f_X12_isOrder_L77 q) (nI n) kk a (nI j) S else if kk < S.1 31 j then f_X12_isOrder_B122 (f_X12_isOrder_L77 q) (nI n) kk a (nI j) S else f_X12_isOrder_L77 q (nI n) kk a (nI (j + 1)) S := by
      rw [f_X12_isOrder_L77, e72, if_pos (nI_lt hj (by omega))]
      simp only [zlet_def, nI_1, eq_true hz, ↓reduceIte, nI_clamp (show j < 2 ^ 31 by omega)]
    show (∃ r, f_X12_isOrder_L77 (q + 1) (nI n) kk a (nI j) S = _ ∧ _) ∨ ∃ a1, f_X12_isOrder_L77 (q + 1) (nI n) kk a (nI j) S = _ ∧ _
    rw [e0]
    by_cases ha1 : a = 0
    · left
      subst ha1
      rw [if_pos rfl, if_pos (Or.inl rfl)]
      refine ⟨0, rfl, Or.inl rfl, fun z => absurd rfl z, fun z => ?_⟩
      exact absurd rfl (hR.mpr ⟨z.1, fun j' hj' => z.2 j' (by omega)⟩)
    · right
      rw [if_neg ha1]
      have skip : okRg S l kk n j → ∃ a1, f_X12_isOrder_L77 q (nI n) kk a (nI (j + 1)) S = f_X12_isOrder_L77 q (nI n) kk a1 (nI (j + 1)) S ∧ (a1 = 0 ∨ a1 = 1) ∧ (¬ a1 = 0 ↔ P ∧ ∀ j', j' < j + 1 → okRg S l kk n j') := fun ok => by
        refine ⟨a, rfl, ha, fun z => ⟨(hR.mp z).1, fun j' hj' => ?_⟩, fun _ => ha1⟩
        by_cases hjj : j' = j
        · subst hjj; exact ok
        · exact (hR.mp z).2 j' (by omega)
      by_cases h1 : kk < S.1 30 j
      · rw [if_pos h1]
        exact skip fun z => absurd h1 z
      · rw [if_neg h1]
        have b122 : (S.1 31 j < 0 ∨ kk < S.1 31 j) → ∃ a1, f_X12_isOrder_B122 (f_X12_isOrder_L77 q) (nI n) kk a (nI j) S = f_X12_isOrder_L77 q (nI n) kk a1 (nI (j + 1)) S ∧ (a1 = 0 ∨ a1 = 1) ∧ (¬ a1 = 0 ↔ P ∧ ∀ j', j' < j + 1 → okRg S l kk n j') := by
          intro hk
          unfold f_X12_isOrder_B122 f_X12_isOrder_B179
          simp only [eq_true hz, ↓reduceIte, zlet_def, nI_1, nI_clamp (show j < 2 ^ 31 by omega), e28, e29, eq_true (zinN hx (show 5 < 2 ^ 31 by omega)), eq_true (zinN hy (show 5 < 2 ^ 31 by omega)), nI_clamp (show x < 2 ^ 31 by omega), nI_clamp (show y < 2 ^ 31 by omega), nI_ltI (show x < 2 ^ 31 by omega) (show n < 2 ^ 31 by omega), nI_ltI (show y < 2 ^ 31 by omega) (show n < 2 ^ 31 by omega)]
          by_cases hxn : x < n
          · by_cases hyn : y < n
            · have q1 := (l3 x hxn).1
              have q2 := (l3 y hyn).1
              rw [if_pos hxn, if_pos hyn, hp x hxn, hp y hyn]
              simp only [nI_ltI (show l.idxOf x < 2 ^ 31 by omega) (show l.idxOf y < 2 ^ 31 by omega)]
              have okj : okRg S l kk n j ↔ (l.idxOf x < l.idxOf y ↔ S.1 32 j = 1) := by
                constructor
                · intro h; exact h h1 hk x y hx hy e28 e29 hxn hyn
                · intro h _ _ x' y' hx' hy' e1 e2 _ _
                  rw [e28] at e1
                  rw [e29] at e2
                  have f1 : x = x' := (nI_eq (by omega) (by omega)).mp e1
                  have f2 : y = y' := (nI_eq (by omega) (by omega)).mp e2
                  rw [← f1, ← f2]; exact h
              have fin : ∀ a1 : Int32, (a1 = 0 ∨ a1 = 1) → (¬ a1 = 0 ↔ okRg S l kk n j) → (¬ a1 = 0 ↔ P ∧ ∀ j', j' < j + 1 → okRg S l kk n j') := by
                intro a1 _ hok
                constructor
                · intro z
                  refine ⟨(hR.mp ha1).1, fun j' hj' => ?_⟩
                  by_cases hjj : j' = j
                  · subst hjj; exact hok.mp z
                  · exact (hR.mp ha1).2 j' (by omega)
                · intro z; exact hok.mpr (z.2 j (by omega))
              by_cases hlt : l.idxOf x < l.idxOf y
              · rw [if_pos hlt]
                rcases h32 with h32 | h32
                · rw [h32, if_neg (by decide)]
                  refine ⟨0, rfl, Or.inl rfl, fin 0 (Or.inl rfl) ⟨fun z => absurd rfl z, fun z => ?_⟩⟩
                  have := (okj.mp z).mp hlt
                  rw [h32] at this
                  exact absurd this (by decide)
                · rw [h32, if_pos rfl]
                  refine ⟨1, rfl, Or.inr rfl, fin 1 (Or.inr rfl) ⟨fun _ => okj.mpr ⟨fun _ => h32, fun _ => hlt⟩, fun _ => by decide⟩⟩
              · rw [if_neg hlt]
                rcases h32 with h32 | h32
                · rw [h32, if_pos rfl]
                  refine ⟨1, rfl, Or.inr rfl, fin 1 (Or.inr rfl) ⟨fun _ => okj.mpr ⟨fun z => absurd z hlt, fun z => ?_⟩, fun _ => by decide⟩⟩
                  rw [h32] at z
                  exact absurd z (by decide)
                · rw [h32, if_neg (by decide)]
                  refine ⟨0, rfl, Or.inl rfl, fin 0 (Or.inl rfl) ⟨fun z => absurd rfl z, fun z => ?_⟩⟩
                  exact absurd ((okj.mp z).mpr h32) hlt
            · rw [if_pos hxn, if_neg hyn]
              refine skip fun _ _ x' y' hx' hy' e1 e2 _ h => ?_
              rw [e29] at e2
              have f2 : y = y' := (nI_eq (by omega) (by omega)).mp e2
              omega
          · rw [if_neg hxn]
            refine skip fun _ _ x' y' hx' hy' e1 e2 h _ => ?_
            rw [e28] at e1
            have f1 : x = x' := (nI_eq (by omega) (by omega)).mp e1
            omega
        by_cases h2 : S.1 31 j < 0
        · rw [if_pos h2]; exact b122 (Or.inl h2)
        · rw [if_neg h2]
          by_cases h3 : kk < S.1 31 j
          · rw [if_pos h3]; exact b122 (Or.inr h3)
          · rw [if_neg h3]
            exact skip fun _ z => by
              rcases z with z | z
              · exact absurd z h2
              · exact absurd z h3
  · intro q a ⟨ha, hR⟩
    refine ⟨a, ?_, ha, hR⟩
    show f_X12_isOrder_L77 (q + 1) (nI n) kk a (nI rn) S = _
    rw [f_X12_isOrder_L77, e72, if_neg (nI_nlt (Nat.le_refl rn) (by omega)), if_pos ha]
theorem isOrdM {S : zS} {n rn : Nat} {l : List Nat} {kk : Int32} (hn : n ≤ 5) (hr : rn ≤ 30) (hl : l ∈ prm n) (hS : ∀ p, p < n → S.1 33 p = nI (l.getD p 0)) (ham : ∀ b : Nat, b < n → isI (-1) (b - 1) (S.1 19 (8 * b + 6))) (hrp : ∀ b : Nat, b < n → isI (-1) (b - 1) (S.1 19 (8 * b + 7))) (e72 : S.1 0 72 = nI rn) (hring : ∀ j, j < rn → ∃ a b : Nat, a < 5 ∧ b < 5 ∧ S.1 28 j = nI a ∧ S.1 29 j = nI b ∧ (S.1 32 j = 0 ∨ S.1 32 j = 1)) : ∃ r T, f_X12_isOrder (nI n) kk S = some (r, T) ∧ kp [34] S T ∧ (r = 0 ∨ r = 1) ∧ (¬ r = 0 ↔ (∀ b, b < n → okBh (S.1 19) l b) ∧ ∀ j, j < rn → okRg S l kk n j) := by
  unfold f_X12_isOrder
  obtain ⟨T, eT, kT, hT⟩ := placeM (kk := kk) hn hl hS
  obtain ⟨a, ea, ha, hP⟩ := ord30 (S := T) (kk := kk) hn hl hT (by rw [kT.2 19 (by decide)]; exact ham) (by rw [kT.2 19 (by decide)]; exact hrp)
  obtain ⟨r, er, hr0, hQ⟩ := ord77 (S := T) (kk := kk) hn hr hl hT (by rw [kT.2 0 (by decide)]; exact e72) (by rw [kT.2 28 (by decide), kT.2 29 (by decide), kT.2 32 (by decide)]; exact hring) ha hP
  refine ⟨r, T, by rw [eT, ea, er], kT, hr0, ?_⟩
  rw [hQ, kT.2 19 (by decide)]
  unfold okRg
  rw [kT.2 28 (by decide), kT.2 29 (by decide), kT.2 30 (by decide), kT.2 31 (by decide), kT.2 32 (by decide)]
