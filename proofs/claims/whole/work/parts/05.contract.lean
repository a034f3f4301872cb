/-! contracts over the bundled judgement: a method from arguments As and world hp -/
theorem tbl_goodIn {big : List Cond} {y : MethodName} {cc : ByteArray} {nL : Nat} {ret : Option FieldType} (hb : ∀ w ∈ gtb, w ∈ big) (h : Cond.code y cc nL ret ∈ gtb) : GoodIn big (Cond.code y cc nL ret :: gtb) := by
  intro w hw
  have h1 : w ∈ gtb := by
    rcases List.mem_cons.mp hw with e | e
    · rw [e]; exact h
    · exact e
  exact ⟨hb w h1, good_of_word (List.mem_filter.mp h1).2⟩
def CP (g : GP) (As : List Value) (hp : va_W) : Array Value → State → Prop := va_Pc As (fun U => va_P g.1 vwCl hp U.heap ∧ va_D (gA g) hp ∧ gK g U)
theorem CP.blind (g : GP) (As : List Value) (hp : va_W) : FrameBlind (CP g As hp) := by
  intro a U f mk q
  obtain ⟨q0, q1, q2, q3⟩ := q
  exact ⟨q0, q1, q2, q3.same rfl rfl⟩
/-- y, given As in the world hp: returns an int r and a world hp' with post r hp' -/
def CI (g : GP) (l : Launch) (y : MethodName) (cc : ByteArray) (nL : Nat) (ret : Option FieldType) (rm : Room) (As : List Value) (hp : va_W) (post : Int32 → va_W → Prop) : Prop :=
  Met l y (.code y cc nL ret :: gtb) rm (CP g As hp) (va_Qi post (gB g) (gA g)) rm.cells rm.slots (gA g)
def CV (g : GP) (l : Launch) (y : MethodName) (cc : ByteArray) (nL : Nat) (rm : Room) (As : List Value) (hp : va_W) (post : va_W → Prop) : Prop :=
  Met l y (.code y cc nL none :: gtb) rm (CP g As hp) (va_Qv post (gB g) (gA g)) rm.cells rm.slots (gA g)
/-- it returns a reference -/
def CR (g : GP) (l : Launch) (y : MethodName) (cc : ByteArray) (nL : Nat) (ret : Option FieldType) (rm : Room) (As : List Value) (hp : va_W) (post : Nat × va_W → Prop) : Prop :=
  Met l y (.code y cc nL ret :: gtb) rm (CP g As hp) (va_Qr post (fun u a t => a = u.1 ∧ gB g u.2 t) (gA g)) rm.cells rm.slots (gA g)
theorem gB.end {g : GP} {s t : State} {hp : va_W} {H : Heap} {locs : List Loc} (hK : gK g s) (hP : va_P g.1 vwCl hp H) (hD : va_D (gA g) hp) (hS : va_S (gA g) s.heap H locs) (ht : t.heap = H) (hW : s.WarmedH t.vm) : gB g hp t :=
  ⟨by rw [ht]; exact hP, hD, hK.moved hW (by rw [ht]; exact hS.1) (fun q h1 h2 => by rw [ht]; exact hS.2.1 q h1 h2)⟩
/-- an int or a boolean comes back -/
theorem CI.mk {g : GP} {l : Launch} {y : MethodName} {cc : ByteArray} {nL : Nat} {ty : FieldType} {rm : Room} {As : List Value} {hp : va_W} {post : Int32 → va_W → Prop} (hy : plainName y.cls = true) (hAs : (lg_sl As).length ≤ nL)
    (h : ∀ G : GT, IsG g l y cc nL rm G → (∀ (hp' : va_W) (L : List (Nat × Value)) (pc : Nat) (r : Int32), decode cc pc = .ok (.ireturn, 1) → narrow ty (.int r) = .int r → post r hp' → G rm.cells rm.slots hp' L pc [.int r]) → G 0 0 hp (lv_args 0 As) 0 []) : CI g l y cc nL (some ty) rm As hp post := by
  refine Met.ofW (cc := cc) (maxL := nL) (ret := some ty) hy rfl ?_
  intro p e s m args below meth c s₁ B hml hv
  obtain ⟨rfl, hP, hD, hK⟩ := hv
  have hts : ∀ w ∈ gtb, w.before As.toArray s = true := fun w hw => atoms_spec (ws := .code y cc nL (some ty) :: gtb) B.pre w (List.mem_cons_of_mem _ hw)
  have hlk := B.notSynchronized
  have key := h (BW g p l e rm s m As.toArray below meth c (MQ below (va_Qi post (gB g) (gA g)) As.toArray s rm.cells rm.slots (gA g)) nL) ⟨p, e, s, m, As.toArray, below, meth, c, _, B.exec, B.bytes, hml, findClass_of_methodNamed B.named, hts, hK, hlk, (name_of_methodNamed B.named B.method).1, rfl⟩ ?_
  · have hl := lv_entry As hAs
    rw [lg_entry_eq]
    exact key s.heap [] _ hP hD va_S.rf hl
  · intro hp' L pc r d hn hpost H locs ls hP hD hS hl
    exact W.zret B.exec B.bytes B.returns hn (fun t ht hW => ⟨⟨r, hp', rfl, hpost, gB.end hK hP hD hS ht hW⟩, hS.F ht⟩) hS.2.2 d
theorem CV.mk {g : GP} {l : Launch} {y : MethodName} {cc : ByteArray} {nL : Nat} {rm : Room} {As : List Value} {hp : va_W} {post : va_W → Prop} (hy : plainName y.cls = true) (hAs : (lg_sl As).length ≤ nL)
    (h : ∀ G : GT, IsG g l y cc nL rm G → (∀ (hp' : va_W) (L : List (Nat × Value)) (pc : Nat), decode cc pc = .ok (.return_, 1) → post hp' → G rm.cells rm.slots hp' L pc []) → G 0 0 hp (lv_args 0 As) 0 []) : CV g l y cc nL rm As hp post := by
  refine Met.ofW (cc := cc) (maxL := nL) (ret := none) hy rfl ?_
  intro p e s m args below meth c s₁ B hml hv
  obtain ⟨rfl, hP, hD, hK⟩ := hv
  have hts : ∀ w ∈ gtb, w.before As.toArray s = true := fun w hw => atoms_spec (ws := .code y cc nL none :: gtb) B.pre w (List.mem_cons_of_mem _ hw)
  have hlk := B.notSynchronized
  have key := h (BW g p l e rm s m As.toArray below meth c (MQ below (va_Qv post (gB g) (gA g)) As.toArray s rm.cells rm.slots (gA g)) nL) ⟨p, e, s, m, As.toArray, below, meth, c, _, B.exec, B.bytes, hml, findClass_of_methodNamed B.named, hts, hK, hlk, (name_of_methodNamed B.named B.method).1, rfl⟩ ?_
  · have hl := lv_entry As hAs
    rw [lg_entry_eq]
    exact key s.heap [] _ hP hD va_S.rf hl
  · intro hp' L pc d hpost H locs ls hP hD hS hl
    exact W.vret B.exec B.bytes B.returns (fun t ht hW => ⟨⟨hp', rfl, hpost, gB.end hK hP hD hS ht hW⟩, hS.F ht⟩) hS.2.2 d
/-- what a call's words are -/
def LkB (y : MethodName) (cc : ByteArray) (nL : Nat) (ret : Option FieldType) (n : Nat) : Prop := Cond.code y cc nL ret ∈ gtb ∧ Cond.initialized y.cls ∈ gtb ∧ y.cls ≠ "java/lang/invoke/MethodHandle" ∧ y.cls ≠ "java/lang/invoke/VarHandle" ∧ (parseMethodDescriptor y.desc).map (fun d => d.parameters.length) = some n
def LkV (own : String) (idx : Nat) (y : MethodName) : Prop := Cond.methodLink own idx y ∈ gtb ∧ Cond.instanceMethod y ∈ gtb ∧ Cond.selects y.cls y y ∈ gtb
def LkS (own : String) (idx : Nat) (y : MethodName) : Prop := Cond.methodLink own idx y ∈ gtb ∧ Cond.static y ∈ gtb
def LkSN (own : String) (idx : Nat) (y : MethodName) (host : String) : Prop := Cond.methodLinkNest own idx y host ∈ lw_tbl ∧ Cond.static y ∈ gtb
section CALLS
variable {g : GP} {l : Launch} {y : MethodName} {cc : ByteArray} {nL : Nat} {R : Room} {G : GT} {ce sl pc : Nat} {hp : va_W} {L : List (Nat × Value)} {st : List Value}
variable {y' : MethodName} {cc' : ByteArray} {nL' n idx : Nat} {ret : Option FieldType} {rm : Room} {As : List Value}
theorem callB_g {s : State} {args : Array Value} {own : String} (hts : ∀ w ∈ gtb, w.before args s = true) (b : LkB y' cc' nL' ret n) (hlink : Cond.methodLink own idx y' ∈ gtb) (hR : rm.frames + 1 ≤ R.frames ∧ 8 + (nL' + 11) + rm.locals ≤ R.locals) : CallB R s args own idx y' cc' nL' ret (.code y' cc' nL' ret :: gtb) rm rm.cells rm.slots n :=
  callB_of n hts (tbl_goodIn (fun _ h => h) b.1) rfl rfl rfl (hts _ b.2.1) (hts _ hlink) b.2.2 hR
/-- behind a call -/
theorem g_callV_i (hG : IsG g l y cc nL R G) {k a ci N : Nat} {fs : List Value} {T : u_T} {post : Int32 → va_W → Prop} (d : decode cc pc = .ok (.invokevirtual idx, 3)) (hM : CI g l y' cc' nL' ret rm (.ref a :: As) hp post) (b : LkB y' cc' nL' ret n) (v : LkV y.cls idx y') (hn : As.length = n) (he : hp[k]? = some (a, .inr (ci, fs))) (hc : vwCl[ci]? = some (y'.cls, T, N)) (hR : rm.frames + 1 ≤ R.frames ∧ 8 + (nL' + 11) + rm.locals ≤ R.locals) (hst : (st.map fun v => v.category).sum ≤ 8) (hf : ce + rm.cells ≤ R.cells ∧ sl + rm.slots ≤ R.slots)
    (kk : ∀ (r : Int32) (hp' : va_W), post r hp' → G (ce + rm.cells) (sl + rm.slots) hp' L (pc + 3) (.int r :: st)) : G ce sl hp L pc (As.reverse ++ .ref a :: st) := by
  obtain ⟨p, e, s, m, args, below, meth, c, Q, hx, hb, hml, hown, hts, hK, hlk, hnm, rfl⟩ := hG
  intro H locs ls hP hD hS hl
  refine va_calli (va_runV (As := As) (rest := st) (C := y'.cls) ⟨hx, hb, hml, hown, hts⟩ hM ⟨callB_g hts b v.1 hR, hts _ v.2.1, hts _ v.2.2⟩ ⟨CP.blind _ _ _, va_recv hK.1 hP hc he, fun U hU hW => ⟨rfl, by rw [hU]; exact hP, hD, hK.moved hW (by rw [hU]; exact hS.1) (fun q h1 h2 => by rw [hU]; exact hS.2.1 q h1 h2)⟩⟩ rfl hn hl.1 rfl (lv_room hst) d hf) hS (fun q _ h => h) (fun q h => h) (fun r u t H1 locs ht hvm hw hB hz1 hk1 hS => ?_)
  exact kk r u hw H1 locs ls (by rw [← ht]; exact hB.1) hB.2.1 hS hl
theorem g_callV_v (hG : IsG g l y cc nL R G) {k a ci N : Nat} {fs : List Value} {T : u_T} {post : va_W → Prop} (d : decode cc pc = .ok (.invokevirtual idx, 3)) (hM : CV g l y' cc' nL' rm (.ref a :: As) hp post) (b : LkB y' cc' nL' none n) (v : LkV y.cls idx y') (hn : As.length = n) (he : hp[k]? = some (a, .inr (ci, fs))) (hc : vwCl[ci]? = some (y'.cls, T, N)) (hR : rm.frames + 1 ≤ R.frames ∧ 8 + (nL' + 11) + rm.locals ≤ R.locals) (hst : (st.map fun v => v.category).sum ≤ 8) (hf : ce + rm.cells ≤ R.cells ∧ sl + rm.slots ≤ R.slots)
    (kk : ∀ (hp' : va_W), post hp' → G (ce + rm.cells) (sl + rm.slots) hp' L (pc + 3) st) : G ce sl hp L pc (As.reverse ++ .ref a :: st) := by
  obtain ⟨p, e, s, m, args, below, meth, c, Q, hx, hb, hml, hown, hts, hK, hlk, hnm, rfl⟩ := hG
  intro H locs ls hP hD hS hl
  refine va_callv (va_runV (As := As) (rest := st) (C := y'.cls) ⟨hx, hb, hml, hown, hts⟩ hM ⟨callB_g hts b v.1 hR, hts _ v.2.1, hts _ v.2.2⟩ ⟨CP.blind _ _ _, va_recv hK.1 hP hc he, fun U hU hW => ⟨rfl, by rw [hU]; exact hP, hD, hK.moved hW (by rw [hU]; exact hS.1) (fun q h1 h2 => by rw [hU]; exact hS.2.1 q h1 h2)⟩⟩ rfl hn hl.1 rfl (lv_room hst) d hf) hS (fun q _ h => h) (fun q h => h) (fun u t H1 locs ht hvm hw hB hz1 hk1 hS => ?_)
  exact kk u hw H1 locs ls (by rw [← ht]; exact hB.1) hB.2.1 hS hl
theorem g_callS_i (hG : IsG g l y cc nL R G) {post : Int32 → va_W → Prop} (d : decode cc pc = .ok (.invokestatic idx, 3)) (hM : CI g l y' cc' nL' ret rm As hp post) (b : LkB y' cc' nL' ret n) (v : LkS y.cls idx y') (hn : As.length = n) (hR : rm.frames + 1 ≤ R.frames ∧ 8 + (nL' + 11) + rm.locals ≤ R.locals) (hst : (st.map fun v => v.category).sum ≤ 8) (hf : ce + rm.cells ≤ R.cells ∧ sl + rm.slots ≤ R.slots)
    (kk : ∀ (r : Int32) (hp' : va_W), post r hp' → G (ce + rm.cells) (sl + rm.slots) hp' L (pc + 3) (.int r :: st)) : G ce sl hp L pc (As.reverse ++ st) := by
  obtain ⟨p, e, s, m, args, below, meth, c, Q, hx, hb, hml, hown, hts, hK, hlk, hnm, rfl⟩ := hG
  intro H locs ls hP hD hS hl
  refine va_calli (va_runS (As := As) (rest := st) ⟨hx, hb, hml, hown, hts⟩ hM ⟨callB_g hts b v.1 hR, hts _ v.2⟩ ⟨CP.blind _ _ _, fun U hU hW => ⟨rfl, by rw [hU]; exact hP, hD, hK.moved hW (by rw [hU]; exact hS.1) (fun q h1 h2 => by rw [hU]; exact hS.2.1 q h1 h2)⟩⟩ rfl hn hl.1 rfl (lv_room hst) d hf) hS (fun q _ h => h) (fun q h => h) (fun r u t H1 locs ht hvm hw hB hz1 hk1 hS => ?_)
  exact kk r u hw H1 locs ls (by rw [← ht]; exact hB.1) hB.2.1 hS hl
end CALLS
