/-! THE CLAIM OUT OF ONE WALK OF THE LAW'S BODY. Your part is whole_start (and what it stands on); all else here is the same for every law, but numbers. -/
def R_law : String := "SweptRoundLaw"
def lw_P (b : Addr) (xs : List Int32) (args : Array Value) (s : State) : Prop := args = #[.ref b] ∧ s.IntsAt b xs ∧ xs.length ≤ 3072 ∧ (Jvm.Cond.and given_1 narrow_1).before args s = true
def lw_Q (_ : Array Value) (s : State) (o : Outcome) (t : State) : Prop := o = .returned (some (.int 1)) ∧ Framed s o t [] 600000 7302250
def lw_Z (below : List Frame) (a : Array Value) (s : State) : State → Prop := fun t => ∃ o, t.status = .running ∧ Ended t below o ∧ lw_Q a s o t
/-- the law's own end, with 1 on the stack, nothing written that was there before, its room as the claim has it -/
theorem lw_ret {p : Program} {l : Launch} {e : Env} {s : State} {m : MethodId} {below : List Frame} {meth : Method} {c : Code} {b : Nat} (hx : p.tables.exec = Jvm.exec) (hb : c.code = code) (hr : meth.sig.returnType = ret) (hlocks : meth.locks = false) {pc : Nat} {H : Heap} {ls : Array Slot} (hdg : decode code pc = .ok (.ireturn, 1)) : W p l e room_1 s m #[Value.ref b] below meth c H [] 600000 7302250 (lw_Z below #[Value.ref b] s) (F0 m pc ls [.int 1]) := by
  intro T hT X
  obtain ⟨fs, hret, hrun, hended, hW, hframe⟩ := X.leave (v := some (.int 1)) (hlocks := hlocks) (fun h => by rw [hr] at h; cases h)
  have hmeth' : T.vm.method? m = some meth := X.method'
  refine ⟨T.setFrames fs, ?_, .returned (some (.int 1)), hrun, hended, rfl, ⟨_, rfl⟩, hW, hframe⟩
  jvm_step X.here [X.here.top, hx, hb, hdg, hmeth', hr, ret, narrow_b1]
  (try refine ⟨rfl, ?_⟩); (try refine ⟨rfl, ?_⟩)
  first | (intro acts; rw [hret _ acts rfl rfl rfl]) | rw [hret _ _ rfl rfl rfl]
  exact Steps.refl _
/-- what holds at the law's entry: the machine, the code, the tables' words (any of lw_tbl by 'hts w (by decide +kernel)'), the script of L ints xs at the cell b, what the Statement gives of the start (any of its parts by flat_of_before) -/
def lw_At (p : Program) (s : State) (m : MethodId) (meth : Method) (c : Code) (b L : Nat) (xs : Nat → Int32) : Prop :=
  p.tables.exec = Jvm.exec ∧ c.code = code ∧ meth.sig.returnType = ret ∧ c.maxLocals = 4 ∧ s.vm.findClass R_law = some m.cls ∧ (∀ w ∈ lw_tbl, w.before #[Value.ref b] s = true) ∧ va_X b L xs s s.heap ∧ b < s.heap.size ∧ meth.locks = false ∧ (Jvm.Cond.and given_1 narrow_1).before #[Value.ref b] s = true
/-- G is the law's own walk, with the script of Ln ints xs at b -/
def IsL (g : GP) (l : Launch) (b Ln : Nat) (xs : Nat → Int32) (nm : String) (G : GT) : Prop :=
  ∃ (p : Program) (e : Env) (s : State) (m : MethodId) (below : List Frame) (meth : Method) (c : Code), p.tables.exec = Jvm.exec ∧ c.code = code ∧ meth.sig.returnType = ret ∧ c.maxLocals = 4 ∧ s.vm.findClass RL = some m.cls ∧ (∀ w ∈ gtb, w.before #[Value.ref b] s = true) ∧ gK g s ∧ meth.locks = false ∧ meth.name = nm ∧ va_X b Ln xs s s.heap ∧ b < s.heap.size ∧ g.2.2.1 = s.heap.size ∧ ExI s ∧ G = BW g p l e room_1 s m #[Value.ref b] below meth c (lw_Z below #[Value.ref b] s) 4
section LAW
variable {g : GP} {l : Launch} {b Ln : Nat} {xs : Nat → Int32} {nm : String} {G : GT} {ce sl pc : Nat} {hp : va_W} {L : List (Nat × Value)} {st : List Value}
theorem IsL.toG (h : IsL g l b Ln xs nm G) : IsG g l ⟨RL, nm, ""⟩ cL_law 4 room_1 G := by
  obtain ⟨p, e, s, m, below, meth, c, hx, hb, hr, hml, hown, hts, hK, hlk, hnm, hX, hbl, hbs, hE, rfl⟩ := h
  exact ⟨p, e, s, m, _, below, meth, c, _, hx, hb, hml, hown, hts, hK, hlk, hnm, rfl⟩
theorem l_sld (h : IsL g l b Ln xs nm G) {i : Int32} (d : decode cL_law pc = .ok (.iaload, 1)) (hi : inb i Ln = true) (k : G ce sl hp L (pc + 1) (.int (xs (ix i)) :: st)) : G ce sl hp L pc (.int i :: .ref b :: st) := by
  obtain ⟨p, e, s, m, below, meth, c, hx, hb, hr, hml, hown, hts, hK, hlk, hnm, hX, hbl, hbs, hE, rfl⟩ := h
  intro H locs ls hP hD hS hl
  exact va_sld hx hb hX hbl (fun q => by unfold gA at q; omega) hS (inb_in hi) d (k H locs ls hP hD hS hl)
theorem l_slen (h : IsL g l b Ln xs nm G) (d : decode cL_law pc = .ok (.arraylength, 1)) (k : G ce sl hp L (pc + 1) (.int (nI Ln) :: st)) : G ce sl hp L pc (.ref b :: st) := by
  obtain ⟨p, e, s, m, below, meth, c, hx, hb, hr, hml, hown, hts, hK, hlk, hnm, hX, hbl, hbs, hE, rfl⟩ := h
  intro H locs ls hP hD hS hl
  exact va_slen hx hb hX hbl (fun q => by unfold gA at q; omega) hS d (k H locs ls hP hD hS hl)
theorem l_ret (h : IsL g l b Ln xs nm G) (h1 : ce ≤ 600000) (h2 : sl ≤ 7302250) (d : decode cL_law pc = .ok (.ireturn, 1)) : G ce sl hp L pc [.int 1] := by
  obtain ⟨p, e, s, m, below, meth, c, hx, hb, hr, hml, hown, hts, hK, hlk, hnm, hX, hbl, hbs, hE, rfl⟩ := h
  intro H locs ls hP hD hS hl
  refine va_forget (fun q hq => by have := hS.2.2 q hq; unfold gA at this; omega) ?_
  refine W.widen h1 h2 ?_
  exact lw_ret hx hb hr hlk d
theorem l_callIx (h : IsL g l b Ln xs nm G) {y' : MethodName} {cc' : ByteArray} {nL' n idx a : Nat} {rm : Room} {As : List Value} {post : va_W → Prop} (d : decode cL_law pc = .ok (.invokespecial idx, 3)) (hM : CVx g l y' cc' nL' rm (.ref a :: As) hp post) (bk : LkB y' cc' nL' none n) (lk : Cond.methodLink RL idx y' ∈ gtb ∧ Cond.instanceMethod y' ∈ gtb ∧ y'.name = "<init>") (hn : As.length = n) (hR : rm.frames + 1 ≤ room_1.frames ∧ 8 + (nL' + 11) + rm.locals ≤ room_1.locals) (hf : ce + rm.cells ≤ room_1.cells ∧ sl + rm.slots ≤ room_1.slots) (st0 : List Value) (hst0 : st0 = As.reverse ++ .ref a :: st) (hst : (st.map fun v => v.category).sum ≤ 8)
    (kk : ∀ hp' : va_W, post hp' → G (ce + rm.cells) (sl + rm.slots) hp' L (pc + 3) st) : G ce sl hp L pc st0 := by
  subst hst0
  obtain ⟨p, e, s, m, below, meth, c, hx, hb, hr, hml, hown, hts, hK, hlk, hnm, hX, hbl, hbs, hE, rfl⟩ := h
  intro H locs ls hP hD hS hl
  refine va_callv (va_runI (As := As) (rest := st) ⟨hx, hb, hml, hown, hts⟩ hM ⟨callB_g hts bk lk.1 hR, lk.2.2, hts _ lk.2.1⟩ ⟨CPx.blind _ _ _, fun U hU hW => ⟨rfl, by rw [hU]; exact hP, hD, hK.moved hW (by rw [hU]; exact hS.1) (fun q h1 h2 => by rw [hU]; exact hS.2.1 q h1 h2), hE.warm hW⟩⟩ rfl hn hl.1 rfl (lv_room hst) d hf) hS (fun q _ h => h) (fun q h => h) (fun u t H1 locs ht hvm hw hB hz1 hk1 hS => ?_)
  exact kk u hw H1 locs ls (by rw [← ht]; exact hB.1) hB.2.1 hS hl
end LAW
theorem wperm (g : GP) (A : Nat → Nat → Nat) (τ : CS) (r : Nat → Nat) (σ : RS) : (wC g A τ (wR g r σ [])).Perm (wR g r σ (wC g A τ [])) := by
  have e1 : wC g A τ (wR g r σ []) = wC g A τ [] ++ wR g r σ [] := by
    show fx g A τ (lpool g A τ (τ.2.2 7 0) ++ wR g r σ []) = fx g A τ (lpool g A τ (τ.2.2 7 0) ++ []) ++ wR g r σ []
    rw [List.append_nil]
    rfl
  have e2 : wR g r σ (wC g A τ []) = wR g r σ [] ++ wC g A τ [] := rfl
  rw [e1, e2]
  exact List.perm_append_comm
/-- class and reference answer alike, and stay in the relation -/
def Agree (Inv : Nat → CS → RS → Prop) (fC : CS → Option (Int32 × CS)) (fR : RS → Option (Int32 × RS)) : Prop := ∀ k τ σ, k < 600 → Inv k τ σ → ∃ (v : Int32) (τ' : CS) (σ' : RS), fC τ = some (v, τ') ∧ fR σ = some (v, σ') ∧ Inv (k + 1) τ' σ'
def lL (b : Nat) (A : Nat → Nat → Nat) (r : Nat → Nat) (iv : Int32) : List (Nat × Value) := [(0, .ref b), (1, .ref (A 5 99)), (2, .ref (r 25)), (3, .int iv)]
