/-- what the class's own constructor asks beside -/
def ExI (U : State) : Prop := va_AOA .int U ∧ ∀ C ∈ ["SweptRound$SweptKind", "SweptRound$CoveredKind", "SweptRound$WaitedKind", "SweptRound$DoubledKind", "SweptRound$EmptyKind", "SweptRound$BlownKind"], va_Nw (.castable C "SweptRound$YardKind") U
theorem ExI.warm {s U : State} (hW : s.WarmedH U.vm) (h : ExI s) : ExI U := by
  refine ⟨?_, fun C hC => (h.2 C hC).warmC hW⟩
  have h1 : (Cond.arrayOver (.array .int)).before #[] (s.setVm U.vm) = true := by
    rw [Cond.arrayOver_setVmC hW.alike]
    exact h.1
  exact h1
theorem ExI.same {s U : State} (hv : s.vm = U.vm) (h : ExI s) : ExI U := by
  have hW : (s.setVm U.vm) = s := by rw [← hv]; rfl
  refine ⟨?_, fun C hC => va_Nw.same rfl hv (h.2 C hC)⟩
  have h1 : (Cond.arrayOver (.array .int)).before #[] (s.setVm U.vm) = true := by
    rw [hW]
    exact h.1
  exact h1
def CPx (g : GP) (As : List Value) (hp : va_W) : Array Value → State → Prop := va_Pc As (fun U => va_P g.1 vwCl hp U.heap ∧ va_D (gA g) hp ∧ gK g U ∧ ExI U)
theorem CPx.blind (g : GP) (As : List Value) (hp : va_W) : FrameBlind (CPx g As hp) := by
  intro a U f mk q
  obtain ⟨q0, q1, q2, q3, q4⟩ := q
  exact ⟨q0, q1, q2, q3.same rfl rfl, q4.same rfl⟩
def CVx (g : GP) (l : Launch) (y : MethodName) (cc : ByteArray) (nL : Nat) (rm : Room) (As : List Value) (hp : va_W) (post : va_W → Prop) : Prop :=
  Met l y (.code y cc nL none :: gtb) rm (CPx g As hp) (va_Qv post (gB g) (gA g)) rm.cells rm.slots (gA g)
def IsI (g : GP) (l : Launch) (y : MethodName) (cc : ByteArray) (nL : Nat) (R : Room) (G : GT) : Prop :=
  ∃ (p : Program) (e : Env) (s : State) (m : MethodId) (args : Array Value) (below : List Frame) (meth : Method) (c : Code) (Q : State → Prop), p.tables.exec = Jvm.exec ∧ c.code = cc ∧ c.maxLocals = nL ∧ s.vm.findClass y.cls = some m.cls ∧ (∀ w ∈ gtb, w.before args s = true) ∧ gK g s ∧ meth.locks = false ∧ meth.name = y.name ∧ ExI s ∧ G = BW g p l e R s m args below meth c Q nL
theorem IsI.toG {g : GP} {l : Launch} {y : MethodName} {cc : ByteArray} {nL : Nat} {R : Room} {G : GT} (h : IsI g l y cc nL R G) : IsG g l y cc nL R G := by
  obtain ⟨p, e, s, m, args, below, meth, c, Q, hx, hb, hml, hown, hts, hK, hlk, hnm, hE, rfl⟩ := h
  exact ⟨p, e, s, m, args, below, meth, c, Q, hx, hb, hml, hown, hts, hK, hlk, hnm, rfl⟩
theorem CVx.mk {g : GP} {l : Launch} {y : MethodName} {cc : ByteArray} {nL : Nat} {rm : Room} {As : List Value} {hp : va_W} {post : va_W → Prop} (hy : plainName y.cls = true) (hAs : (lg_sl As).length ≤ nL)
    (h : ∀ G : GT, IsI g l y cc nL rm G → (∀ (hp' : va_W) (L : List (Nat × Value)) (pc : Nat), decode cc pc = .ok (.return_, 1) → post hp' → G rm.cells rm.slots hp' L pc []) → G 0 0 hp (lv_args 0 As) 0 []) : CVx g l y cc nL rm As hp post := by
  refine Met.ofW (cc := cc) (maxL := nL) (ret := none) hy rfl ?_
  intro p e s m args below meth c s₁ B hml hv
  obtain ⟨rfl, hP, hD, hK, hE⟩ := hv
  have hts : ∀ w ∈ gtb, w.before As.toArray s = true := fun w hw => atoms_spec (ws := .code y cc nL none :: gtb) B.pre w (List.mem_cons_of_mem _ hw)
  have hlk := B.notSynchronized
  have key := h (BW g p l e rm s m As.toArray below meth c (MQ below (va_Qv post (gB g) (gA g)) As.toArray s rm.cells rm.slots (gA g)) nL) ⟨p, e, s, m, As.toArray, below, meth, c, _, B.exec, B.bytes, hml, findClass_of_methodNamed B.named, hts, hK, hlk, (name_of_methodNamed B.named B.method).1, hE, rfl⟩ ?_
  · have hl := lv_entry As hAs
    rw [lg_entry_eq]
    exact key s.heap [] _ hP hD va_S.rf hl
  · intro hp' L pc d hpost H locs ls hP hD hS hl
    exact W.vret B.exec B.bytes B.returns (fun t ht hW => ⟨⟨hp', rfl, hpost, gB.end hK hP hD hS ht hW⟩, hS.F ht⟩) hS.2.2 d
section IX
variable {g : GP} {l : Launch} {y : MethodName} {cc : ByteArray} {nL : Nat} {R : Room} {G : GT} {ce sl pc : Nat} {hp : va_W} {L : List (Nat × Value)} {st : List Value}
theorem g_newq (hG : IsG g l y cc nL R G) {n : Int32} {N idx : Nat} (d : decode cc pc = .ok (.anewarray idx, 3)) (hc : Cond.classLink y.cls idx "SweptRound$YardKind" ∈ gtb) (hn : ¬ n < 0) (hN : n.toNatClampNeg = N) (hb1 : N * 4 ≤ 536870912) (hce : ce + 1 ≤ R.cells) (hs : sl + N ≤ R.slots) (kk : ∀ q : Nat, G (ce + 1) (sl + N) (hp ++ [(q, .inl (g.2.1 1, N, .inr (.inr (.inr (.inr (fun _ => none))))))]) L (pc + 3) (.ref q :: st)) : G ce sl hp L pc (.int n :: st) := by
  obtain ⟨p, e, s, m, args, below, meth, c, Q, hx, hb, hml, hown, hts, hK, hlk, hnm, rfl⟩ := hG
  intro H locs ls hP hD hS hl
  refine va_newq hx hb hown (hts _ hc) hK.2.2.2.1 hK.1 hP hD hS (gA_new hK) hn hN hb1 hce hs d (fun q cA H1 hK1 hP1 hD1 hS1 => ?_)
  have e : cA = g.2.1 1 := by
    obtain ⟨-, -, -, -, -, h1⟩ := (hK1.2 3 (cA, .object "SweptRound$YardKind") rfl).2
    obtain ⟨-, -, -, -, -, h2⟩ := (hK.1.2 1 (g.2.1 1, .object "SweptRound$YardKind") rfl).2
    exact Option.some.inj (h1.symm.trans h2)
  subst e
  exact kk q H1 locs ls hP1 hD1 hS1 hl
theorem g_astq (hG : IsG g l y cc nL R G) {k0 k1 a n v ci : Nat} {f : Nat → Option Nat} {vs : List Value} {T : u_T} {N : Nat} {i : Int32} (d : decode cc pc = .ok (.aastore, 1)) (he : hp[k0]? = some (a, .inl (g.2.1 1, n, .inr (.inr (.inr (.inr f)))))) (hv : hp[k1]? = some (v, .inr (ci, vs))) (hc : vwCl[ci]? = some ("SweptRound$YardKind", T, N)) (hi : vp_in i n) (kk : G ce sl (hp.set k0 (a, .inl (g.2.1 1, n, .inr (.inr (.inr (.inr (va_up f i.toNatClampNeg (some v)))))))) L (pc + 1) st) : G ce sl hp L pc (.ref v :: .int i :: .ref a :: st) := by
  obtain ⟨p, e, s, m, args, below, meth, c, Q, hx, hb, hml, hown, hts, hK, hlk, hnm, rfl⟩ := hG
  intro H locs ls hP hD hS hl
  exact va_astq (r := ("SweptRound$YardKind", T, N)) hx hb hK.1 hP hD hS k0 1 k1 ci he rfl hv hc hi d (fun H1 locs1 hP1 hD1 hS1 => kk H1 locs1 ls hP1 hD1 hS1 hl)
theorem i_astq (hI : IsI g l y cc nL R G) {k0 k1 a n v ci : Nat} {f : Nat → Option Nat} {vs : List Value} {C : String} {T : u_T} {N : Nat} {i : Int32} (d : decode cc pc = .ok (.aastore, 1)) (he : hp[k0]? = some (a, .inl (g.2.1 1, n, .inr (.inr (.inr (.inr f)))))) (hv : hp[k1]? = some (v, .inr (ci, vs))) (hc : vwCl[ci]? = some (C, T, N)) (hC : C ∈ ["SweptRound$SweptKind", "SweptRound$CoveredKind", "SweptRound$WaitedKind", "SweptRound$DoubledKind", "SweptRound$EmptyKind", "SweptRound$BlownKind"]) (hi : vp_in i n) (kk : G ce sl (hp.set k0 (a, .inl (g.2.1 1, n, .inr (.inr (.inr (.inr (va_up f i.toNatClampNeg (some v)))))))) L (pc + 1) st) : G ce sl hp L pc (.ref v :: .int i :: .ref a :: st) := by
  obtain ⟨p, e, s, m, args, below, meth, c, Q, hx, hb, hml, hown, hts, hK, hlk, hnm, hE, rfl⟩ := hI
  intro H locs ls hP hD hS hl
  exact va_astqO (r := (C, T, N)) hx hb hK.1 hP hD hS k0 1 k1 ci he rfl (hE.2 C hC) hv hc hi d (fun H1 locs1 hP1 hD1 hS1 => kk H1 locs1 ls hP1 hD1 hS1 hl)
theorem i_mna (hI : IsI g l y cc nL R G) {idx : Nat} (d : decode cc pc = .ok (.multianewarray idx 2, 4)) (hc : Cond.classLink y.cls idx "[[I" ∈ gtb) (hce : ce + (1 + 4) ≤ R.cells) (hs : sl + (4 + 4 * 40) ≤ R.slots) (kk : ∀ (q : Nat) (r : Nat → Nat), G (ce + 1 + 4) (sl + 4 + 4 * 40) ((q, .inl (g.2.1 2, 4, .inr (.inr (.inr (.inr (fun i => if i < 4 then some (r i) else none)))))) :: (r 0, .inl (g.2.1 0, 40, .inl (fun _ => 0))) :: (r 1, .inl (g.2.1 0, 40, .inl (fun _ => 0))) :: (r 2, .inl (g.2.1 0, 40, .inl (fun _ => 0))) :: (r 3, .inl (g.2.1 0, 40, .inl (fun _ => 0))) :: hp) L (pc + 4) (.ref q :: st)) : G ce sl hp L pc (.int 40 :: .int 4 :: st) := by
  obtain ⟨p, e, s, m, args, below, meth, c, Q, hx, hb, hml, hown, hts, hK, hlk, hnm, hE, rfl⟩ := hI
  intro H locs ls hP hD hS hl
  have hcy : s.vm.findClass (FieldType.array .int).toString = some (g.2.1 0) := (hK.1.2 0 (g.2.1 0, .int) rfl).2
  refine va_mna (X := hp) (L := []) (f := fun _ => .inr (0, [])) (z := (40, .inl (fun _ => 0))) (ty := .int) (N' := 4) (K' := 40) hx hb hown (hts _ hc) hE.1 (hts _ aw_int) hcy hK.1 (by rw [show va_pl [] (fun _ => (.inr (0, []) : va_E)) = [] from rfl, List.append_nil]; exact hP) (by rw [show va_pl [] (fun _ => (.inr (0, []) : va_E)) = [] from rfl, List.append_nil]; exact hD) hS (gA_new hK) (by decide) (by decide) (by decide) (by decide) (by decide) (by decide) (by decide) rfl rfl hce hs (fun c => by show ({ cls := c, slots := Array.replicate 40 (.int 0), vm := .none } : Cell) = _; rw [arrV_new]; rfl) d (fun q r cA H1 hinj hfr hK1 hP1 hD1 hS1 => ?_)
  have e1 : cA = g.2.1 2 := by
    have h1 : s.vm.findClass ("[" ++ (FieldType.array .int).toString) = some cA := (hK1.2 3 (cA, .array .int) rfl).2
    have h2 : s.vm.findClass ("[" ++ (FieldType.array .int).toString) = some (g.2.1 2) := (hK.1.2 2 (g.2.1 2, .array .int) rfl).2
    exact Option.some.inj (h1.symm.trans h2)
  subst e1
  have e2 : va_pl ([] ++ (List.range 4).map r) (vr_up (fun _ => (.inr (0, []) : va_E)) ((List.range 4).map r) (.inl (g.2.1 0, (40, .inl (fun _ => 0))))) = ((List.range 4).map r).map (fun a => (a, (.inl (g.2.1 0, (40, .inl (fun _ => 0))) : va_E))) := (vr_rows (L := []) (fun _ _ h => by cases h)).symm
  rw [e2] at hP1 hD1
  have hperm : ((hp ++ [(q, (.inl (g.2.1 2, 4, .inr (.inr (.inr (.inr (fun i => if i < 4 then some (r i) else none))))) : va_E))]) ++ ((List.range 4).map r).map (fun a => (a, (.inl (g.2.1 0, (40, .inl (fun _ => 0))) : va_E)))).Perm ((q, .inl (g.2.1 2, 4, .inr (.inr (.inr (.inr (fun i => if i < 4 then some (r i) else none)))))) :: (r 0, .inl (g.2.1 0, 40, .inl (fun _ => 0))) :: (r 1, .inl (g.2.1 0, 40, .inl (fun _ => 0))) :: (r 2, .inl (g.2.1 0, 40, .inl (fun _ => 0))) :: (r 3, .inl (g.2.1 0, 40, .inl (fun _ => 0))) :: hp) := by
    rw [List.append_assoc]
    exact List.perm_append_comm
  exact kk q r H1 locs ls (va_P.ofPerm hperm hP1) (va_D.ofPerm hperm hD1) hS1 hl
end IX
