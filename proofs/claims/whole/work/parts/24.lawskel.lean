/-! THE CLAIM OUT OF ONE WALK OF THE LAW'S BODY. Your part is whole_start (and what it stands on); all else here is the same for every law, but numbers. -/
def R_law : String := "HedgeRecordLaw"
def lw_P (b : Addr) (xs : List Int32) (args : Array Value) (s : State) : Prop := args = #[.ref b] ∧ s.IntsAt b xs ∧ xs.length ≤ 3072 ∧ (Jvm.Cond.and given_1 narrow_1).before args s = true
def lw_Q (_ : Array Value) (s : State) (o : Outcome) (t : State) : Prop := o = .returned (some (.int 1)) ∧ Framed s o t [] 600000 7302250
def lw_Z (below : List Frame) (a : Array Value) (s : State) : State → Prop := fun t => ∃ o, t.status = .running ∧ Ended t below o ∧ lw_Q a s o t
/-- the law's own end, with 1 on the stack, nothing written that was there before, its room as the claim has it -/
theorem lw_ret {p : Program} {l : Launch} {e : Env} {s : State} {m : MethodId} {below : List Frame} {meth : Method} {c : Code} {b : Nat} (hx : p.tables.exec = Jvm.exec) (hb : c.code = code) (hr : meth.sig.returnType = ret) (hlocks : meth.locks = false) {pc : Nat} {H : Heap} {ls : Array Slot} (hdg : decode code pc = .ok (.ireturn, 1)) : W p l e room_1 s m #[Value.ref b] below meth c H [] 600000 7302250 (lw_Z below #[Value.ref b] s) (F0 m pc ls [.int 1]) := by
  intro T hT X
  obtain ⟨fs, hret, hrun, hended, hW, hframe⟩ := X.leave (v := some (.int 1)) (hlocks := hlocks) (fun h => by rw [hr] at h; cases h)
  have hmeth' : T.vm.method? m = some meth := X.method'
  refine ⟨T.setFrames fs, ?_, .returned (some (.int 1)), hrun, hended, rfl, ⟨_, rfl⟩, hW, hframe⟩
  jvm_step X.here [X.here.top, hx, hb, hdg, hmeth', hr, ret, narrow_b1]
  (try refine ⟨rfl, ?_⟩); (try refine ⟨rfl, ?_⟩)
  first | (intro acts; rw [hret _ acts rfl rfl rfl]) | rw [hret _ _ rfl rfl rfl]
  exact Steps.refl _
/-- what holds at the law's entry: the machine, the code, the tables' words (any of lw_tbl by 'hts w (by decide +kernel)'), the script of L ints xs at the cell b, what the Statement gives of the start (any of its parts by flat_of_before) -/
def lw_At (p : Program) (s : State) (m : MethodId) (meth : Method) (c : Code) (b L : Nat) (xs : Nat → Int32) : Prop :=
  p.tables.exec = Jvm.exec ∧ c.code = code ∧ meth.sig.returnType = ret ∧ c.maxLocals = 4 ∧ s.vm.findClass R_law = some m.cls ∧ (∀ w ∈ lw_tbl, w.before #[Value.ref b] s = true) ∧ va_X b L xs s s.heap ∧ b < s.heap.size ∧ meth.locks = false ∧ (Jvm.Cond.and given_1 narrow_1).before #[Value.ref b] s = true

/-- the law's end, for any arguments -/
theorem gl_ret0 {p : Program} {l : Launch} {e : Env} {s : State} {m : MethodId} {args : Array Value} {below : List Frame} {meth : Method} {c : Code} (hx : p.tables.exec = Jvm.exec) (hb : c.code = code) (hr : meth.sig.returnType = ret) (hlocks : meth.locks = false) {pc : Nat} {H : Heap} {ls : Array Slot} (hdg : decode code pc = .ok (.ireturn, 1)) : W p l e room_1 s m args below meth c H [] 600000 7302250 (lw_Z below args s) (F0 m pc ls [.int 1]) := by
  intro T hT X
  obtain ⟨fs, hret, hrun, hended, hW, hframe⟩ := X.leave (v := some (.int 1)) (hlocks := hlocks) (fun h => by rw [hr] at h; cases h)
  have hmeth' : T.vm.method? m = some meth := X.method'
  refine ⟨T.setFrames fs, ?_, .returned (some (.int 1)), hrun, hended, rfl, ⟨_, rfl⟩, hW, hframe⟩
  jvm_step X.here [X.here.top, hx, hb, hdg, hmeth', hr, ret, narrow_b1]
  (try refine ⟨rfl, ?_⟩); (try refine ⟨rfl, ?_⟩)
  first | (intro acts; rw [hret _ acts rfl rfl rfl]) | rw [hret _ _ rfl rfl rfl]
  exact Steps.refl _
def zLZ : List Frame → Array Value → State → va_G → (Nat → ClassId) → (Nat → Nat) → (Nat → Prop) → State → Prop := fun below args s _ _ _ _ => lw_Z below args s
theorem gl_ret {l : Launch} {Ly : List zC} {b L : Nat} {xs : Nat → Int32} {n0 nc ns pc : Nat} {lo : List (Nat × Value)} {S : zS} (hd : decode code pc = .ok (.ireturn, 1)) (h1 : nc ≤ 600000) (h2 : ns ≤ 7302250) : WG Ly l RL code 4 ret room_1 n0 false (zEX b L xs) zLZ nc ns pc lo [.int 1] S := by
  intro p e s m args below meth c D cA ad0 ad A H locs ls hE hag hini hex hP hD hS hl
  refine va_forget (fun q hq => hex.2.2.2.2 _ (hS.2.2 q hq)) ?_
  refine W.widen (k := 600000) (n := 7302250) h1 h2 ?_
  exact gl_ret0 hE.1 hE.2.1 hE.2.2.1 hE.2.2.2.2.2.2.1 hd
/-- the law's walk, both systems made: at pc, with the script read up to x3 -/
abbrev WL (l : Launch) (b L : Nat) (xs : Nat → Int32) (pc : Nat) (x3 : Int32) (st : List Value) (S : zS) : Prop := WG zLC l RL cL_law 4 ret room_1 0 false (zEX b L xs) zLZ 105 12392 pc [(0, .ref 950), (1, .ref 0), (2, .ref 67), (3, .int x3)] st S
/-! what is to be shown of each pair of methods: they answer alike, and what ties the two stores together is kept -/
abbrev zO : Type := Option (Int32 × zS)
def zSt0 (Rel : zS → zS → Prop) (fx fm : zS → zO) : Prop := ∀ Sx Sm, Rel Sx Sm → ∃ r Sx' Sm', fx Sx = some (r, Sx') ∧ fm Sm = some (r, Sm') ∧ Rel Sx' Sm'
def zSt1 (Rel : zS → zS → Prop) (fx fm : Int32 → zS → zO) : Prop := ∀ a, zSt0 Rel (fx a) (fm a)
def zSt2 (Rel : zS → zS → Prop) (fx fm : Int32 → Int32 → zS → zO) : Prop := ∀ a b, zSt0 Rel (fx a b) (fm a b)
def zSt3 (Rel : zS → zS → Prop) (fx fm : Int32 → Int32 → Int32 → zS → zO) : Prop := ∀ a b c, zSt0 Rel (fx a b c) (fm a b c)
def zSt5 (Rel : zS → zS → Prop) (fx fm : Int32 → Int32 → Int32 → Int32 → Int32 → zS → zO) : Prop := ∀ a b c d e, zSt0 Rel (fx a b c d e) (fm a b c d e)
def zStR (Rel : zS → zS → Prop) : Prop := ∀ a b c, c = 0 ∨ c = 1 → zSt0 Rel (f_X11_ring a b c) (f_X12_ring a b c)
def zStH (Rel : zS → zS → Prop) : Prop := ∀ Sx Sm, Rel Sx Sm → (∃ r Sx' Sm', f_X11_hedge Sx = some (r, Sx') ∧ f_X12_hedge Sm = some (r, Sm') ∧ Rel Sx' Sm') ∨ ∃ r0 T x Sx' Sm', f_X7_readAll_2_21 (Sx.1 0 1) Sx = some (r0, T) ∧ ¬ r0 = 0 ∧ f_X11_hedge_B45 (zswap (zput T 0 1 0)) = some (x, Sx') ∧ f_X12_hedge Sm = some (x, Sm') ∧ Rel Sx' Sm'
