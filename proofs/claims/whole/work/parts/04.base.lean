
/-! the bundled judgement: G cells slots world locals pc stack; IsG says that G is the machine's W of a method with its context hidden -/
abbrev GT : Type := Nat → Nat → va_W → List (Nat × Value) → Nat → List Value → Prop
/-- (class numbers and slots), classes of arrays (0 int[], 1 YardKind[], 2 int[][]), where the new heap begins, addresses of what lay there before -/
abbrev GP : Type := va_G × (Nat → ClassId) × Nat × (Nat → Nat)
def gA (g : GP) : Nat → Prop := fun q => g.2.2.1 ≤ q
def gT (g : GP) : List (ClassId × FieldType) := [(g.2.1 0, .int), (g.2.1 1, .object "SweptRound$YardKind"), (g.2.1 2, .array .int)]
def gKab (j : Nat) : Value := .int (([-1, 0, 0, 0, 1, 2, 3] : List Int32).getD j 0)
def isNest : Cond → Bool
  | .fieldLinkNest .. => true
  | .methodLinkNest .. => true
  | _ => false
def gtb : List Cond := lw_tbl.filter goodWord
theorem gtb_of {w : Cond} (h : w ∈ lw_tbl) (hg : goodWord w = true) : w ∈ gtb := List.mem_filter.mpr ⟨h, hg⟩
def gN (U : State) : Prop := ∀ w ∈ lw_tbl, isNest w = true → va_Nw w U
theorem gN.warm {s U : State} (hW : s.WarmedH U.vm) (h : gN s) : gN U := by
  intro w hw hn
  have h1 := h w hw hn
  cases w <;> first | exact h1.warmF hW | exact h1.warmM hW | cases hn
theorem gN.same {s U : State} (hv : s.vm = U.vm) (h : gN s) : gN U := by
  intro w hw hn
  refine va_Nw.same ?_ hv (h w hw hn)
  cases w <;> first | rfl | cases hn
def gStr (g : GP) (U : State) : Prop := vk_R "SweptRound$Reader" 81 "ydx" (g.2.2.2 1) U ∧ vk_R "SweptRound$Reader" 83 "sde" (g.2.2.2 2) U ∧ vk_S 2 [3, 3] [[121, 100, 120], [115, 100, 101]] (fun i => g.2.2.2 (1 + i)) (fun i => g.2.2.2 (3 + i)) (gA g) U U.heap ∧ va_Z "java/lang/String" "COMPACT_STRINGS" "Z" (.int 1) (gA g) U U.heap
def gS (g : GP) (U : State) : Prop := gN U ∧ va_AO "SweptRound$YardKind" U ∧ gStr g U ∧ va_Z "SweptRound" "KIND_ABOVE" "[I" (.ref (g.2.2.2 0)) (gA g) U U.heap ∧ va_T .int (g.2.2.2 0) 7 gKab (gA g) U U.heap
def gK (g : GP) (U : State) : Prop := va_K g.1 vwCl (gT g) U ∧ g.2.2.1 ≤ U.heap.size ∧ gS g U
def gB (g : GP) (hp : va_W) (t : State) : Prop := va_P g.1 vwCl hp t.heap ∧ va_D (gA g) hp ∧ gK g t
theorem gK.moved {g : GP} {s U : State} (h : gK g s) (hW : s.WarmedH U.vm) (hz : s.heap.size ≤ U.heap.size) (hq : ∀ q : Nat, q < s.heap.size → ¬ gA g q → U.heap[q]? = s.heap[q]?) : gK g U := by
  obtain ⟨h1, h2, n, ao, ⟨r1, r2, r3, r4⟩, z, t⟩ := h
  exact ⟨h1.moved hW.alike, Nat.le_trans h2 hz, n.warm hW, ao.moved hW.alike, ⟨r1.warm hW, r2.warm hW, (r3.moved hW.alike).kept hq, (r4.moved hW.alike).kept hq⟩, (z.moved hW.alike).kept hq, (t.moved hW.alike).kept hq⟩
theorem gK.same {g : GP} {s U : State} (h : gK g s) (hv : s.vm = U.vm) (hh : U.heap = s.heap) : gK g U := by
  obtain ⟨h1, h2, n, ao, ⟨r1, r2, r3, r4⟩, z, t⟩ := h
  have ha : s.vm.Alike U.vm := by rw [hv]; exact Vm.Alike.refl _
  exact ⟨h1.moved ha, by rw [hh]; exact h2, n.same hv, ao.moved ha, ⟨r1.same hv.symm, r2.same hv.symm, by rw [hh]; exact r3.moved ha, by rw [hh]; exact r4.moved ha⟩, by rw [hh]; exact z.moved ha, by rw [hh]; exact t.moved ha⟩
theorem gA_new {g : GP} {s : State} (h : gK g s) : ∀ q, s.heap.size ≤ q → gA g q := fun _ hq => Nat.le_trans h.2.1 hq
def BW (g : GP) (p : Program) (l : Launch) (e : Env) (R : Room) (s : State) (m : MethodId) (args : Array Value) (below : List Frame) (meth : Method) (c : Code) (Q : State → Prop) (nL : Nat) : GT := fun cells slots hp L pc st =>
  ∀ (H : Heap) (locs : List Loc) (ls : Array Slot), va_P g.1 vwCl hp H → va_D (gA g) hp → va_S (gA g) s.heap H locs → lv_has ls nL L → W p l e R s m args below meth c H locs cells slots Q (F0 m pc ls st)
def IsG (g : GP) (l : Launch) (y : MethodName) (cc : ByteArray) (nL : Nat) (R : Room) (G : GT) : Prop :=
  ∃ (p : Program) (e : Env) (s : State) (m : MethodId) (args : Array Value) (below : List Frame) (meth : Method) (c : Code) (Q : State → Prop), p.tables.exec = Jvm.exec ∧ c.code = cc ∧ c.maxLocals = nL ∧ s.vm.findClass y.cls = some m.cls ∧ (∀ w ∈ gtb, w.before args s = true) ∧ gK g s ∧ meth.locks = false ∧ meth.name = y.name ∧ G = BW g p l e R s m args below meth c Q nL
def llk (k : Nat) : List (Nat × Value) → Option Value
  | [] => none
  | (j, v) :: t => if j == k then some v else llk k t
def lst (k : Nat) (v : Value) (L : List (Nat × Value)) : List (Nat × Value) := (k, v) :: L.filter (fun q => !(q.1 == k) && !(q.1 + 1 == k && q.2.category == 2))
theorem llk_mem {k : Nat} {v : Value} : ∀ {L : List (Nat × Value)}, llk k L = some v → (k, v) ∈ L
  | [], h => by cases h
  | (j, w) :: t, h => by
    unfold llk at h
    by_cases e : (j == k) = true
    · rw [if_pos e] at h
      cases h
      rw [beq_iff_eq] at e
      subst e
      exact List.mem_cons_self
    · rw [if_neg e] at h
      exact List.mem_cons_of_mem _ (llk_mem h)
theorem llk_at {ls : Array Slot} {n k : Nat} {L : List (Nat × Value)} {v : Value} (hl : lv_has ls n L) (h : llk k L = some v) : ls[k]? = some (.val v) := hl.2.2 (k, v) (llk_mem h)
theorem llk_ix {k : Nat} {v : Value} {L : List (Nat × Value)} (h : llk k L = some v) : ∃ i : Nat, L[i]? = some (k, v) := List.getElem?_of_mem (llk_mem h)
section ROWS
variable {g : GP} {l : Launch} {y : MethodName} {cc : ByteArray} {nL : Nat} {R : Room} {G : GT} {ce sl pc : Nat} {hp : va_W} {L : List (Nat × Value)} {st : List Value}

theorem g_iconst (hG : IsG g l y cc nL R G) {n : Int} (d : decode cc pc = .ok (.iconst n, 1)) (k : G ce sl hp L (pc + 1) (.int (Int32.ofInt n) :: st)) : G ce sl hp L pc (st) := by
  obtain ⟨p, e, s, m, args, below, meth, c, Q, hx, hb, hml, hown, hts, hK, hlk, hnm, rfl⟩ := hG
  intro H locs ls hP hD hS hl
  exact lv_iconst hx hb d rfl (k H locs ls hP hD hS hl)

theorem g_bipush (hG : IsG g l y cc nL R G) {n : Int} (d : decode cc pc = .ok (.bipush n, 2)) (k : G ce sl hp L (pc + 2) (.int (Int8.ofInt n).toInt32 :: st)) : G ce sl hp L pc (st) := by
  obtain ⟨p, e, s, m, args, below, meth, c, Q, hx, hb, hml, hown, hts, hK, hlk, hnm, rfl⟩ := hG
  intro H locs ls hP hD hS hl
  exact lv_bipush hx hb d rfl (k H locs ls hP hD hS hl)

theorem g_sipush (hG : IsG g l y cc nL R G) {n : Int} (d : decode cc pc = .ok (.sipush n, 3)) (k : G ce sl hp L (pc + 3) (.int (Int16.ofInt n).toInt32 :: st)) : G ce sl hp L pc (st) := by
  obtain ⟨p, e, s, m, args, below, meth, c, Q, hx, hb, hml, hown, hts, hK, hlk, hnm, rfl⟩ := hG
  intro H locs ls hP hD hS hl
  exact lv_sipush hx hb d rfl (k H locs ls hP hD hS hl)

theorem g_iconstv (hG : IsG g l y cc nL R G) {n : Int} {v : Int32} (d : decode cc pc = .ok (.iconst n, 1)) (hv : Int32.ofInt n = v) (k : G ce sl hp L (pc + 1) (.int v :: st)) : G ce sl hp L pc (st) := by
  obtain ⟨p, e, s, m, args, below, meth, c, Q, hx, hb, hml, hown, hts, hK, hlk, hnm, rfl⟩ := hG
  intro H locs ls hP hD hS hl
  exact lv_iconst hx hb d hv (k H locs ls hP hD hS hl)

theorem g_bipushv (hG : IsG g l y cc nL R G) {n : Int} {v : Int32} (d : decode cc pc = .ok (.bipush n, 2)) (hv : (Int8.ofInt n).toInt32 = v) (k : G ce sl hp L (pc + 2) (.int v :: st)) : G ce sl hp L pc (st) := by
  obtain ⟨p, e, s, m, args, below, meth, c, Q, hx, hb, hml, hown, hts, hK, hlk, hnm, rfl⟩ := hG
  intro H locs ls hP hD hS hl
  exact lv_bipush hx hb d hv (k H locs ls hP hD hS hl)

theorem g_sipushv (hG : IsG g l y cc nL R G) {n : Int} {v : Int32} (d : decode cc pc = .ok (.sipush n, 3)) (hv : (Int16.ofInt n).toInt32 = v) (k : G ce sl hp L (pc + 3) (.int v :: st)) : G ce sl hp L pc (st) := by
  obtain ⟨p, e, s, m, args, below, meth, c, Q, hx, hb, hml, hown, hts, hK, hlk, hnm, rfl⟩ := hG
  intro H locs ls hP hD hS hl
  exact lv_sipush hx hb d hv (k H locs ls hP hD hS hl)

theorem g_ldc (hG : IsG g l y cc nL R G) {i : Nat} {v : Int32} (d : decode cc pc = .ok (.ldc i, 2)) (hc : Cond.constant y.cls i v ∈ gtb) (k : G ce sl hp L (pc + 2) (.int v :: st)) : G ce sl hp L pc (st) := by
  obtain ⟨p, e, s, m, args, below, meth, c, Q, hx, hb, hml, hown, hts, hK, hlk, hnm, rfl⟩ := hG
  intro H locs ls hP hD hS hl
  exact lv_ldc hx hb hown (hts _ hc) d (k H locs ls hP hD hS hl)

theorem g_iload_n (hG : IsG g l y cc nL R G) {i : Fin 4} {x : Int32} (d : decode cc pc = .ok (.iload_n i, 1)) (hv : llk i L = some (.int x)) (k : G ce sl hp L (pc + 1) (.int x :: st)) : G ce sl hp L pc (st) := by
  obtain ⟨p, e, s, m, args, below, meth, c, Q, hx, hb, hml, hown, hts, hK, hlk, hnm, rfl⟩ := hG
  intro H locs ls hP hD hS hl
  exact lv_iload_n hx hb d rfl (llk_at hl hv) (k H locs ls hP hD hS hl)

theorem g_iload (hG : IsG g l y cc nL R G) {i : Nat} {x : Int32} (d : decode cc pc = .ok (.iload i, 2)) (hv : llk i L = some (.int x)) (k : G ce sl hp L (pc + 2) (.int x :: st)) : G ce sl hp L pc (st) := by
  obtain ⟨p, e, s, m, args, below, meth, c, Q, hx, hb, hml, hown, hts, hK, hlk, hnm, rfl⟩ := hG
  intro H locs ls hP hD hS hl
  exact lv_iload hx hb d (llk_at hl hv) (k H locs ls hP hD hS hl)

theorem g_aload_n (hG : IsG g l y cc nL R G) {i : Fin 4} {x : Nat} (d : decode cc pc = .ok (.aload_n i, 1)) (hv : llk i L = some (.ref x)) (k : G ce sl hp L (pc + 1) (.ref x :: st)) : G ce sl hp L pc (st) := by
  obtain ⟨p, e, s, m, args, below, meth, c, Q, hx, hb, hml, hown, hts, hK, hlk, hnm, rfl⟩ := hG
  intro H locs ls hP hD hS hl
  exact lv_aload_n hx hb d rfl (llk_at hl hv) (k H locs ls hP hD hS hl)

theorem g_aload (hG : IsG g l y cc nL R G) {i : Nat} {x : Nat} (d : decode cc pc = .ok (.aload i, 2)) (hv : llk i L = some (.ref x)) (k : G ce sl hp L (pc + 2) (.ref x :: st)) : G ce sl hp L pc (st) := by
  obtain ⟨p, e, s, m, args, below, meth, c, Q, hx, hb, hml, hown, hts, hK, hlk, hnm, rfl⟩ := hG
  intro H locs ls hP hD hS hl
  exact lv_aload hx hb d (llk_at hl hv) (k H locs ls hP hD hS hl)

theorem g_lload_n (hG : IsG g l y cc nL R G) {i : Fin 4} {x : Int64} (d : decode cc pc = .ok (.lload_n i, 1)) (hv : llk i L = some (.long x)) (k : G ce sl hp L (pc + 1) (.long x :: st)) : G ce sl hp L pc (st) := by
  obtain ⟨p, e, s, m, args, below, meth, c, Q, hx, hb, hml, hown, hts, hK, hlk, hnm, rfl⟩ := hG
  intro H locs ls hP hD hS hl
  exact lv_lload_n hx hb d rfl (llk_at hl hv) (k H locs ls hP hD hS hl)

theorem g_istore_n (hG : IsG g l y cc nL R G) {i : Fin 4} {x : Int32} (d : decode cc pc = .ok (.istore_n i, 1)) (hn : (i : Nat) < nL) (k : G ce sl hp (lst i (.int x) L) (pc + 1) st) : G ce sl hp L pc (.int x :: st) := by
  obtain ⟨p, e, s, m, args, below, meth, c, Q, hx, hb, hml, hown, hts, hK, hlk, hnm, rfl⟩ := hG
  intro H locs ls hP hD hS hl
  exact lv_istore_n hx hb d rfl hl hn rfl (fun ls hl => k H locs ls hP hD hS hl)

theorem g_istore (hG : IsG g l y cc nL R G) {i : Nat} {x : Int32} (d : decode cc pc = .ok (.istore i, 2)) (hn : (i : Nat) < nL) (k : G ce sl hp (lst i (.int x) L) (pc + 2) st) : G ce sl hp L pc (.int x :: st) := by
  obtain ⟨p, e, s, m, args, below, meth, c, Q, hx, hb, hml, hown, hts, hK, hlk, hnm, rfl⟩ := hG
  intro H locs ls hP hD hS hl
  exact lv_istore hx hb d hl hn rfl (fun ls hl => k H locs ls hP hD hS hl)

theorem g_astore_n (hG : IsG g l y cc nL R G) {i : Fin 4} {x : Nat} (d : decode cc pc = .ok (.astore_n i, 1)) (hn : (i : Nat) < nL) (k : G ce sl hp (lst i (.ref x) L) (pc + 1) st) : G ce sl hp L pc (.ref x :: st) := by
  obtain ⟨p, e, s, m, args, below, meth, c, Q, hx, hb, hml, hown, hts, hK, hlk, hnm, rfl⟩ := hG
  intro H locs ls hP hD hS hl
  exact lv_astore_n hx hb d rfl hl hn rfl (fun ls hl => k H locs ls hP hD hS hl)

theorem g_astore (hG : IsG g l y cc nL R G) {i : Nat} {x : Nat} (d : decode cc pc = .ok (.astore i, 2)) (hn : (i : Nat) < nL) (k : G ce sl hp (lst i (.ref x) L) (pc + 2) st) : G ce sl hp L pc (.ref x :: st) := by
  obtain ⟨p, e, s, m, args, below, meth, c, Q, hx, hb, hml, hown, hts, hK, hlk, hnm, rfl⟩ := hG
  intro H locs ls hP hD hS hl
  exact lv_astore hx hb d hl hn rfl (fun ls hl => k H locs ls hP hD hS hl)

theorem g_iinc (hG : IsG g l y cc nL R G) {i : Nat} {n : Int} {x : Int32} (d : decode cc pc = .ok (.iinc i n, 3)) (hv : llk i L = some (.int x)) (hn : i < nL) (k : G ce sl hp (lst i (.int (x + Int32.ofInt n)) L) (pc + 3) st) : G ce sl hp L pc st := by
  obtain ⟨p, e, s, m, args, below, meth, c, Q, hx, hb, hml, hown, hts, hK, hlk, hnm, rfl⟩ := hG
  intro H locs ls hP hD hS hl
  obtain ⟨j, hj⟩ := llk_ix hv
  exact lv_iinc hx hb d hl hj rfl hn rfl (fun ls hl => k H locs ls hP hD hS hl)

theorem g_iadd (hG : IsG g l y cc nL R G) {x z : Int32} (d : decode cc pc = .ok (.iadd, 1)) (k : G ce sl hp L (pc + 1) (.int (x + z) :: st)) : G ce sl hp L pc (.int z :: .int x :: st) := by
  obtain ⟨p, e, s, m, args, below, meth, c, Q, hx, hb, hml, hown, hts, hK, hlk, hnm, rfl⟩ := hG
  intro H locs ls hP hD hS hl
  exact lv_iadd hx hb d (k H locs ls hP hD hS hl)

theorem g_isub (hG : IsG g l y cc nL R G) {x z : Int32} (d : decode cc pc = .ok (.isub, 1)) (k : G ce sl hp L (pc + 1) (.int (x - z) :: st)) : G ce sl hp L pc (.int z :: .int x :: st) := by
  obtain ⟨p, e, s, m, args, below, meth, c, Q, hx, hb, hml, hown, hts, hK, hlk, hnm, rfl⟩ := hG
  intro H locs ls hP hD hS hl
  exact lv_isub hx hb d (k H locs ls hP hD hS hl)

theorem g_imul (hG : IsG g l y cc nL R G) {x z : Int32} (d : decode cc pc = .ok (.imul, 1)) (k : G ce sl hp L (pc + 1) (.int (x * z) :: st)) : G ce sl hp L pc (.int z :: .int x :: st) := by
  obtain ⟨p, e, s, m, args, below, meth, c, Q, hx, hb, hml, hown, hts, hK, hlk, hnm, rfl⟩ := hG
  intro H locs ls hP hD hS hl
  exact lv_imul hx hb d (k H locs ls hP hD hS hl)

theorem g_iand (hG : IsG g l y cc nL R G) {x z : Int32} (d : decode cc pc = .ok (.iand, 1)) (k : G ce sl hp L (pc + 1) (.int (x &&& z) :: st)) : G ce sl hp L pc (.int z :: .int x :: st) := by
  obtain ⟨p, e, s, m, args, below, meth, c, Q, hx, hb, hml, hown, hts, hK, hlk, hnm, rfl⟩ := hG
  intro H locs ls hP hD hS hl
  exact lv_iand hx hb d (k H locs ls hP hD hS hl)

theorem g_ior (hG : IsG g l y cc nL R G) {x z : Int32} (d : decode cc pc = .ok (.ior, 1)) (k : G ce sl hp L (pc + 1) (.int (x ||| z) :: st)) : G ce sl hp L pc (.int z :: .int x :: st) := by
  obtain ⟨p, e, s, m, args, below, meth, c, Q, hx, hb, hml, hown, hts, hK, hlk, hnm, rfl⟩ := hG
  intro H locs ls hP hD hS hl
  exact lv_ior hx hb d (k H locs ls hP hD hS hl)

theorem g_ixor (hG : IsG g l y cc nL R G) {x z : Int32} (d : decode cc pc = .ok (.ixor, 1)) (k : G ce sl hp L (pc + 1) (.int (x ^^^ z) :: st)) : G ce sl hp L pc (.int z :: .int x :: st) := by
  obtain ⟨p, e, s, m, args, below, meth, c, Q, hx, hb, hml, hown, hts, hK, hlk, hnm, rfl⟩ := hG
  intro H locs ls hP hD hS hl
  exact lv_ixor hx hb d (k H locs ls hP hD hS hl)

theorem g_ishl (hG : IsG g l y cc nL R G) {x z : Int32} (d : decode cc pc = .ok (.ishl, 1)) (k : G ce sl hp L (pc + 1) (.int (x <<< (z &&& 31)) :: st)) : G ce sl hp L pc (.int z :: .int x :: st) := by
  obtain ⟨p, e, s, m, args, below, meth, c, Q, hx, hb, hml, hown, hts, hK, hlk, hnm, rfl⟩ := hG
  intro H locs ls hP hD hS hl
  exact lv_ishl hx hb d (k H locs ls hP hD hS hl)

theorem g_ishr (hG : IsG g l y cc nL R G) {x z : Int32} (d : decode cc pc = .ok (.ishr, 1)) (k : G ce sl hp L (pc + 1) (.int (x >>> (z &&& 31)) :: st)) : G ce sl hp L pc (.int z :: .int x :: st) := by
  obtain ⟨p, e, s, m, args, below, meth, c, Q, hx, hb, hml, hown, hts, hK, hlk, hnm, rfl⟩ := hG
  intro H locs ls hP hD hS hl
  exact lv_ishr hx hb d (k H locs ls hP hD hS hl)

theorem g_iushr (hG : IsG g l y cc nL R G) {x z : Int32} (d : decode cc pc = .ok (.iushr, 1)) (k : G ce sl hp L (pc + 1) (.int (x.toUInt32 >>> (z.toUInt32 &&& Int32.toUInt32 31)).toInt32 :: st)) : G ce sl hp L pc (.int z :: .int x :: st) := by
  obtain ⟨p, e, s, m, args, below, meth, c, Q, hx, hb, hml, hown, hts, hK, hlk, hnm, rfl⟩ := hG
  intro H locs ls hP hD hS hl
  exact lv_iushr hx hb d rfl (k H locs ls hP hD hS hl)

theorem g_ineg (hG : IsG g l y cc nL R G) {x : Int32} (d : decode cc pc = .ok (.ineg, 1)) (k : G ce sl hp L (pc + 1) (.int (-x) :: st)) : G ce sl hp L pc (.int x :: st) := by
  obtain ⟨p, e, s, m, args, below, meth, c, Q, hx, hb, hml, hown, hts, hK, hlk, hnm, rfl⟩ := hG
  intro H locs ls hP hD hS hl
  exact lv_ineg hx hb d (k H locs ls hP hD hS hl)

theorem g_idiv (hG : IsG g l y cc nL R G) {x z : Int32} (d : decode cc pc = .ok (.idiv, 1)) (hz : ¬ z = 0) (k : G ce sl hp L (pc + 1) (.int (x / z) :: st)) : G ce sl hp L pc (.int z :: .int x :: st) := by
  obtain ⟨p, e, s, m, args, below, meth, c, Q, hx, hb, hml, hown, hts, hK, hlk, hnm, rfl⟩ := hG
  intro H locs ls hP hD hS hl
  exact lv_idiv hx hb d hz (k H locs ls hP hD hS hl)

theorem g_irem (hG : IsG g l y cc nL R G) {x z : Int32} (d : decode cc pc = .ok (.irem, 1)) (hz : ¬ z = 0) (k : G ce sl hp L (pc + 1) (.int (x - x / z * z) :: st)) : G ce sl hp L pc (.int z :: .int x :: st) := by
  obtain ⟨p, e, s, m, args, below, meth, c, Q, hx, hb, hml, hown, hts, hK, hlk, hnm, rfl⟩ := hG
  intro H locs ls hP hD hS hl
  exact lv_irem hx hb d hz (k H locs ls hP hD hS hl)

theorem g_i2b (hG : IsG g l y cc nL R G) {x : Int32} (d : decode cc pc = .ok (.i2b, 1)) (k : G ce sl hp L (pc + 1) (.int x.toInt8.toInt32 :: st)) : G ce sl hp L pc (.int x :: st) := by
  obtain ⟨p, e, s, m, args, below, meth, c, Q, hx, hb, hml, hown, hts, hK, hlk, hnm, rfl⟩ := hG
  intro H locs ls hP hD hS hl
  exact lv_i2b hx hb d rfl (k H locs ls hP hD hS hl)

theorem g_i2s (hG : IsG g l y cc nL R G) {x : Int32} (d : decode cc pc = .ok (.i2s, 1)) (k : G ce sl hp L (pc + 1) (.int x.toInt16.toInt32 :: st)) : G ce sl hp L pc (.int x :: st) := by
  obtain ⟨p, e, s, m, args, below, meth, c, Q, hx, hb, hml, hown, hts, hK, hlk, hnm, rfl⟩ := hG
  intro H locs ls hP hD hS hl
  exact lv_i2s hx hb d rfl (k H locs ls hP hD hS hl)

theorem g_i2l (hG : IsG g l y cc nL R G) {x : Int32} (d : decode cc pc = .ok (.i2l, 1)) (k : G ce sl hp L (pc + 1) (.long x.toInt64 :: st)) : G ce sl hp L pc (.int x :: st) := by
  obtain ⟨p, e, s, m, args, below, meth, c, Q, hx, hb, hml, hown, hts, hK, hlk, hnm, rfl⟩ := hG
  intro H locs ls hP hD hS hl
  exact lv_i2l hx hb d rfl (k H locs ls hP hD hS hl)

theorem g_l2i (hG : IsG g l y cc nL R G) {x : Int64} (d : decode cc pc = .ok (.l2i, 1)) (k : G ce sl hp L (pc + 1) (.int x.toInt32 :: st)) : G ce sl hp L pc (.long x :: st) := by
  obtain ⟨p, e, s, m, args, below, meth, c, Q, hx, hb, hml, hown, hts, hK, hlk, hnm, rfl⟩ := hG
  intro H locs ls hP hD hS hl
  exact lv_l2i hx hb d rfl (k H locs ls hP hD hS hl)

theorem g_land (hG : IsG g l y cc nL R G) {x z : Int64} (d : decode cc pc = .ok (.land, 1)) (k : G ce sl hp L (pc + 1) (.long (x &&& z) :: st)) : G ce sl hp L pc (.long z :: .long x :: st) := by
  obtain ⟨p, e, s, m, args, below, meth, c, Q, hx, hb, hml, hown, hts, hK, hlk, hnm, rfl⟩ := hG
  intro H locs ls hP hD hS hl
  exact lv_land hx hb d (k H locs ls hP hD hS hl)

theorem g_lor (hG : IsG g l y cc nL R G) {x z : Int64} (d : decode cc pc = .ok (.lor, 1)) (k : G ce sl hp L (pc + 1) (.long (x ||| z) :: st)) : G ce sl hp L pc (.long z :: .long x :: st) := by
  obtain ⟨p, e, s, m, args, below, meth, c, Q, hx, hb, hml, hown, hts, hK, hlk, hnm, rfl⟩ := hG
  intro H locs ls hP hD hS hl
  exact lv_lor hx hb d (k H locs ls hP hD hS hl)

theorem g_lshr (hG : IsG g l y cc nL R G) {x : Int64} {z : Int32} (d : decode cc pc = .ok (.lshr, 1)) (k : G ce sl hp L (pc + 1) (.long (x >>> (z.toInt64 &&& 63)) :: st)) : G ce sl hp L pc (.int z :: .long x :: st) := by
  obtain ⟨p, e, s, m, args, below, meth, c, Q, hx, hb, hml, hown, hts, hK, hlk, hnm, rfl⟩ := hG
  intro H locs ls hP hD hS hl
  exact lv_lshr hx hb d rfl (k H locs ls hP hD hS hl)

theorem g_lshl (hG : IsG g l y cc nL R G) {x : Int64} {z : Int32} (d : decode cc pc = .ok (.lshl, 1)) (k : G ce sl hp L (pc + 1) (.long (x <<< (z.toInt64 &&& 63)) :: st)) : G ce sl hp L pc (.int z :: .long x :: st) := by
  obtain ⟨p, e, s, m, args, below, meth, c, Q, hx, hb, hml, hown, hts, hK, hlk, hnm, rfl⟩ := hG
  intro H locs ls hP hD hS hl
  exact lv_lshl hx hb d rfl (k H locs ls hP hD hS hl)

theorem g_lushr (hG : IsG g l y cc nL R G) {x : Int64} {z : Int32} (d : decode cc pc = .ok (.lushr, 1)) (k : G ce sl hp L (pc + 1) (.long (x.toUInt64 >>> (z.toInt64.toUInt64 &&& Int64.toUInt64 63)).toInt64 :: st)) : G ce sl hp L pc (.int z :: .long x :: st) := by
  obtain ⟨p, e, s, m, args, below, meth, c, Q, hx, hb, hml, hown, hts, hK, hlk, hnm, rfl⟩ := hG
  intro H locs ls hP hD hS hl
  exact lv_lushr hx hb d rfl (k H locs ls hP hD hS hl)

theorem g_ldc2 (hG : IsG g l y cc nL R G) {i : Nat} {v : Int64} (d : decode cc pc = .ok (.ldc2_w i, 3)) (hc : Cond.constantLong y.cls i v ∈ gtb) (k : G ce sl hp L (pc + 3) (.long v :: st)) : G ce sl hp L pc (st) := by
  obtain ⟨p, e, s, m, args, below, meth, c, Q, hx, hb, hml, hown, hts, hK, hlk, hnm, rfl⟩ := hG
  intro H locs ls hP hD hS hl
  exact lv_ldc2 hx hb hown (hts _ hc) d (k H locs ls hP hD hS hl)

theorem g_dup (hG : IsG g l y cc nL R G) {v : Value} (d : decode cc pc = .ok (.dup, 1)) (hv : v.category = 1) (k : G ce sl hp L (pc + 1) (v :: v :: st)) : G ce sl hp L pc (v :: st) := by
  obtain ⟨p, e, s, m, args, below, meth, c, Q, hx, hb, hml, hown, hts, hK, hlk, hnm, rfl⟩ := hG
  intro H locs ls hP hD hS hl
  exact lv_dup hx hb d hv (k H locs ls hP hD hS hl)

theorem g_dup2 (hG : IsG g l y cc nL R G) {v w : Value} (d : decode cc pc = .ok (.dup2, 1)) (hv : v.category = 1) (hw : w.category = 1) (k : G ce sl hp L (pc + 1) (v :: w :: v :: w :: st)) : G ce sl hp L pc (v :: w :: st) := by
  obtain ⟨p, e, s, m, args, below, meth, c, Q, hx, hb, hml, hown, hts, hK, hlk, hnm, rfl⟩ := hG
  intro H locs ls hP hD hS hl
  exact lv_dup2_11 hx hb d hv hw (k H locs ls hP hD hS hl)

theorem g_if_eq (hG : IsG g l y cc nL R G) {x : Int32} {off : Int} {tgt : Nat} (d : decode cc pc = .ok (.ifCond .eq off, 3)) (ht : (pc : Int) + off = (tgt : Int)) (kt : x = 0 → G ce sl hp L tgt st) (kf : ¬ x = 0 → G ce sl hp L (pc + 3) st) : G ce sl hp L pc (.int x :: st) := by
  obtain ⟨p, e, s, m, args, below, meth, c, Q, hx, hb, hml, hown, hts, hK, hlk, hnm, rfl⟩ := hG
  intro H locs ls hP hD hS hl
  exact lv_if_eq hx hb d ht (fun q => kt q H locs ls hP hD hS hl) (fun q => kf q H locs ls hP hD hS hl)

theorem g_if_ne (hG : IsG g l y cc nL R G) {x : Int32} {off : Int} {tgt : Nat} (d : decode cc pc = .ok (.ifCond .ne off, 3)) (ht : (pc : Int) + off = (tgt : Int)) (kt : ¬ x = 0 → G ce sl hp L tgt st) (kf : x = 0 → G ce sl hp L (pc + 3) st) : G ce sl hp L pc (.int x :: st) := by
  obtain ⟨p, e, s, m, args, below, meth, c, Q, hx, hb, hml, hown, hts, hK, hlk, hnm, rfl⟩ := hG
  intro H locs ls hP hD hS hl
  exact lv_if_ne hx hb d ht (fun q => kt q H locs ls hP hD hS hl) (fun q => kf q H locs ls hP hD hS hl)

theorem g_if_lt (hG : IsG g l y cc nL R G) {x : Int32} {off : Int} {tgt : Nat} (d : decode cc pc = .ok (.ifCond .lt off, 3)) (ht : (pc : Int) + off = (tgt : Int)) (kt : x < 0 → G ce sl hp L tgt st) (kf : ¬ x < 0 → G ce sl hp L (pc + 3) st) : G ce sl hp L pc (.int x :: st) := by
  obtain ⟨p, e, s, m, args, below, meth, c, Q, hx, hb, hml, hown, hts, hK, hlk, hnm, rfl⟩ := hG
  intro H locs ls hP hD hS hl
  exact lv_if_lt hx hb d ht (fun q => kt q H locs ls hP hD hS hl) (fun q => kf q H locs ls hP hD hS hl)

theorem g_if_ge (hG : IsG g l y cc nL R G) {x : Int32} {off : Int} {tgt : Nat} (d : decode cc pc = .ok (.ifCond .ge off, 3)) (ht : (pc : Int) + off = (tgt : Int)) (kt : 0 ≤ x → G ce sl hp L tgt st) (kf : ¬ 0 ≤ x → G ce sl hp L (pc + 3) st) : G ce sl hp L pc (.int x :: st) := by
  obtain ⟨p, e, s, m, args, below, meth, c, Q, hx, hb, hml, hown, hts, hK, hlk, hnm, rfl⟩ := hG
  intro H locs ls hP hD hS hl
  exact lv_if_ge hx hb d ht (fun q => kt q H locs ls hP hD hS hl) (fun q => kf q H locs ls hP hD hS hl)

theorem g_if_gt (hG : IsG g l y cc nL R G) {x : Int32} {off : Int} {tgt : Nat} (d : decode cc pc = .ok (.ifCond .gt off, 3)) (ht : (pc : Int) + off = (tgt : Int)) (kt : 0 < x → G ce sl hp L tgt st) (kf : ¬ 0 < x → G ce sl hp L (pc + 3) st) : G ce sl hp L pc (.int x :: st) := by
  obtain ⟨p, e, s, m, args, below, meth, c, Q, hx, hb, hml, hown, hts, hK, hlk, hnm, rfl⟩ := hG
  intro H locs ls hP hD hS hl
  exact lv_if_gt hx hb d ht (fun q => kt q H locs ls hP hD hS hl) (fun q => kf q H locs ls hP hD hS hl)

theorem g_if_le (hG : IsG g l y cc nL R G) {x : Int32} {off : Int} {tgt : Nat} (d : decode cc pc = .ok (.ifCond .le off, 3)) (ht : (pc : Int) + off = (tgt : Int)) (kt : x ≤ 0 → G ce sl hp L tgt st) (kf : ¬ x ≤ 0 → G ce sl hp L (pc + 3) st) : G ce sl hp L pc (.int x :: st) := by
  obtain ⟨p, e, s, m, args, below, meth, c, Q, hx, hb, hml, hown, hts, hK, hlk, hnm, rfl⟩ := hG
  intro H locs ls hP hD hS hl
  exact lv_if_le hx hb d ht (fun q => kt q H locs ls hP hD hS hl) (fun q => kf q H locs ls hP hD hS hl)

theorem g_icmp_eq (hG : IsG g l y cc nL R G) {x z : Int32} {off : Int} {tgt : Nat} (d : decode cc pc = .ok (.if_icmp .eq off, 3)) (ht : (pc : Int) + off = (tgt : Int)) (kt : x = z → G ce sl hp L tgt st) (kf : ¬ x = z → G ce sl hp L (pc + 3) st) : G ce sl hp L pc (.int z :: .int x :: st) := by
  obtain ⟨p, e, s, m, args, below, meth, c, Q, hx, hb, hml, hown, hts, hK, hlk, hnm, rfl⟩ := hG
  intro H locs ls hP hD hS hl
  exact lv_icmp_eq hx hb d ht (fun q => kt q H locs ls hP hD hS hl) (fun q => kf q H locs ls hP hD hS hl)

theorem g_icmp_ne (hG : IsG g l y cc nL R G) {x z : Int32} {off : Int} {tgt : Nat} (d : decode cc pc = .ok (.if_icmp .ne off, 3)) (ht : (pc : Int) + off = (tgt : Int)) (kt : ¬ x = z → G ce sl hp L tgt st) (kf : x = z → G ce sl hp L (pc + 3) st) : G ce sl hp L pc (.int z :: .int x :: st) := by
  obtain ⟨p, e, s, m, args, below, meth, c, Q, hx, hb, hml, hown, hts, hK, hlk, hnm, rfl⟩ := hG
  intro H locs ls hP hD hS hl
  exact lv_icmp_ne hx hb d ht (fun q => kt q H locs ls hP hD hS hl) (fun q => kf q H locs ls hP hD hS hl)

theorem g_icmp_lt (hG : IsG g l y cc nL R G) {x z : Int32} {off : Int} {tgt : Nat} (d : decode cc pc = .ok (.if_icmp .lt off, 3)) (ht : (pc : Int) + off = (tgt : Int)) (kt : x < z → G ce sl hp L tgt st) (kf : ¬ x < z → G ce sl hp L (pc + 3) st) : G ce sl hp L pc (.int z :: .int x :: st) := by
  obtain ⟨p, e, s, m, args, below, meth, c, Q, hx, hb, hml, hown, hts, hK, hlk, hnm, rfl⟩ := hG
  intro H locs ls hP hD hS hl
  exact lv_icmp_lt hx hb d ht (fun q => kt q H locs ls hP hD hS hl) (fun q => kf q H locs ls hP hD hS hl)

theorem g_icmp_ge (hG : IsG g l y cc nL R G) {x z : Int32} {off : Int} {tgt : Nat} (d : decode cc pc = .ok (.if_icmp .ge off, 3)) (ht : (pc : Int) + off = (tgt : Int)) (kt : z ≤ x → G ce sl hp L tgt st) (kf : ¬ z ≤ x → G ce sl hp L (pc + 3) st) : G ce sl hp L pc (.int z :: .int x :: st) := by
  obtain ⟨p, e, s, m, args, below, meth, c, Q, hx, hb, hml, hown, hts, hK, hlk, hnm, rfl⟩ := hG
  intro H locs ls hP hD hS hl
  exact lv_icmp_ge hx hb d ht (fun q => kt q H locs ls hP hD hS hl) (fun q => kf q H locs ls hP hD hS hl)

theorem g_icmp_gt (hG : IsG g l y cc nL R G) {x z : Int32} {off : Int} {tgt : Nat} (d : decode cc pc = .ok (.if_icmp .gt off, 3)) (ht : (pc : Int) + off = (tgt : Int)) (kt : z < x → G ce sl hp L tgt st) (kf : ¬ z < x → G ce sl hp L (pc + 3) st) : G ce sl hp L pc (.int z :: .int x :: st) := by
  obtain ⟨p, e, s, m, args, below, meth, c, Q, hx, hb, hml, hown, hts, hK, hlk, hnm, rfl⟩ := hG
  intro H locs ls hP hD hS hl
  exact lv_icmp_gt hx hb d ht (fun q => kt q H locs ls hP hD hS hl) (fun q => kf q H locs ls hP hD hS hl)

theorem g_icmp_le (hG : IsG g l y cc nL R G) {x z : Int32} {off : Int} {tgt : Nat} (d : decode cc pc = .ok (.if_icmp .le off, 3)) (ht : (pc : Int) + off = (tgt : Int)) (kt : x ≤ z → G ce sl hp L tgt st) (kf : ¬ x ≤ z → G ce sl hp L (pc + 3) st) : G ce sl hp L pc (.int z :: .int x :: st) := by
  obtain ⟨p, e, s, m, args, below, meth, c, Q, hx, hb, hml, hown, hts, hK, hlk, hnm, rfl⟩ := hG
  intro H locs ls hP hD hS hl
  exact lv_icmp_le hx hb d ht (fun q => kt q H locs ls hP hD hS hl) (fun q => kf q H locs ls hP hD hS hl)

theorem g_goto (hG : IsG g l y cc nL R G) {off : Int} {tgt : Nat} (d : decode cc pc = .ok (.goto off, 3)) (ht : (pc : Int) + off = (tgt : Int)) (k : G ce sl hp L tgt st) : G ce sl hp L pc st := by
  obtain ⟨p, e, s, m, args, below, meth, c, Q, hx, hb, hml, hown, hts, hK, hlk, hnm, rfl⟩ := hG
  intro H locs ls hP hD hS hl
  exact lv_goto hx hb d ht (k H locs ls hP hD hS hl)

theorem g_tableOut (hG : IsG g l y cc nL R G) {dflt lo hi : Int} {offs : Array Int} {len : Nat} {x : Int32} {tgt : Nat} (d : decode cc pc = .ok (.tableswitch dflt lo hi offs, len)) (h : x.toInt < lo ∨ hi < x.toInt) (ht : (pc : Int) + dflt = (tgt : Int)) (k : G ce sl hp L tgt st) : G ce sl hp L pc (.int x :: st) := by
  obtain ⟨p, e, s, m, args, below, meth, c, Q, hx, hb, hml, hown, hts, hK, hlk, hnm, rfl⟩ := hG
  intro H locs ls hP hD hS hl
  exact lv_tableOut hx hb d h ht (k H locs ls hP hD hS hl)

theorem g_tableIn (hG : IsG g l y cc nL R G) {dflt lo hi : Int} {offs : Array Int} {len : Nat} {x : Int32} {off : Int} {tgt : Nat} (d : decode cc pc = .ok (.tableswitch dflt lo hi offs, len)) (h1 : ¬ x.toInt < lo) (h2 : ¬ hi < x.toInt) (ho : offs[(x.toInt - lo).toNat]? = some off) (ht : (pc : Int) + off = (tgt : Int)) (k : G ce sl hp L tgt st) : G ce sl hp L pc (.int x :: st) := by
  obtain ⟨p, e, s, m, args, below, meth, c, Q, hx, hb, hml, hown, hts, hK, hlk, hnm, rfl⟩ := hG
  intro H locs ls hP hD hS hl
  exact lv_tableIn hx hb d h1 h2 ho ht (k H locs ls hP hD hS hl)

theorem g_get (hG : IsG g l y cc nL R G) {k a ci idx f N : Nat} {fs : List Value} {C : String} {T : u_T} {v : Value} (d : decode cc pc = .ok (.getfield idx, 3)) (he : hp[k]? = some (a, .inr (ci, fs))) (hc : vwCl[ci]? = some (C, T, N)) (hin : ∀ w ∈ u_ws C T N, w ∈ gtb) (hf : f < N) (hT : (T f).1 = C) (hlk2 : Cond.fieldLink y.cls idx C (T f).2.1 (T f).2.2.1 ∈ gtb) (hv : fs[f]? = some v) (kk : G ce sl hp L (pc + 3) (v :: st)) : G ce sl hp L pc (.ref a :: st) := by
  obtain ⟨p, e, s, m, args, below, meth, c, Q, hx, hb, hml, hown, hts, hK, hlk, hnm, rfl⟩ := hG
  intro H locs ls hP hD hS hl
  exact va_get hx hb hts hin hown hK.1 hP k he hc f hf (hts _ hlk2) (by rw [hT]; exact fun _ h => h) hv d (kk H locs ls hP hD hS hl)
theorem g_getN (hG : IsG g l y cc nL R G) {k a ci idx f N : Nat} {fs : List Value} {C host : String} {T : u_T} {v : Value} (d : decode cc pc = .ok (.getfield idx, 3)) (he : hp[k]? = some (a, .inr (ci, fs))) (hc : vwCl[ci]? = some (C, T, N)) (hin : ∀ w ∈ u_ws C T N, w ∈ gtb) (hf : f < N) (hT : (T f).1 = C) (hlk2 : Cond.fieldLinkNest y.cls idx C (T f).2.1 (T f).2.2.1 host ∈ lw_tbl) (hv : fs[f]? = some v) (kk : G ce sl hp L (pc + 3) (v :: st)) : G ce sl hp L pc (.ref a :: st) := by
  obtain ⟨p, e, s, m, args, below, meth, c, Q, hx, hb, hml, hown, hts, hK, hlk, hnm, rfl⟩ := hG
  intro H locs ls hP hD hS hl
  exact va_getN hx hb hts hin hown hK.1 hP k he hc f hf ((hK.2.2.1 _ hlk2 rfl).use rfl) (by rw [hT]; exact fun _ h => h) hv d (kk H locs ls hP hD hS hl)
theorem g_put (hG : IsG g l y cc nL R G) {k a ci idx f N : Nat} {fs : List Value} {C : String} {T : u_T} {v : Value} {ty0 : Nat → FieldType} (d : decode cc pc = .ok (.putfield idx, 3)) (he : hp[k]? = some (a, .inr (ci, fs))) (hc : vwCl[ci]? = some (C, T, N)) (hin : ∀ w ∈ u_ws C T N, w ∈ gtb) (hty : ∀ k, k < N → parseFieldDescriptor (T k).2.2.1 = some (ty0 k)) (hnm2 : ∀ a, a < N → ∀ b, b < N → a ≠ b → (T a).2.1 ≠ (T b).2.1) (hf : f < N) (hT : (T f).1 = C) (hlk2 : Cond.fieldLink y.cls idx C (T f).2.1 (T f).2.2.1 ∈ gtb) (hfin : (T f).2.2.2 = false) (hn : narrow (ty0 f) v = v) (hfit : fits (ty0 f) v = true) (hl2 : f < fs.length) (kk : G ce sl (hp.set k (a, .inr (ci, fs.set f v))) L (pc + 3) st) : G ce sl hp L pc (v :: .ref a :: st) := by
  obtain ⟨p, e, s, m, args, below, meth, c, Q, hx, hb, hml, hown, hts, hK, hlk, hnm, rfl⟩ := hG
  intro H locs ls hP hD hS hl
  exact va_put hx hb hts hin ty0 hty hnm2 hown hK.1 hP hD hS k he hc f hf (hts _ hlk2) (by rw [hT]; exact fun _ h => h) hfin (hty f hf) hn hfit hl2 d (fun H1 locs1 hP hD hS => kk H1 locs1 ls hP hD hS hl)
theorem g_putN (hG : IsG g l y cc nL R G) {k a ci idx f N : Nat} {fs : List Value} {C host : String} {T : u_T} {v : Value} {ty0 : Nat → FieldType} (d : decode cc pc = .ok (.putfield idx, 3)) (he : hp[k]? = some (a, .inr (ci, fs))) (hc : vwCl[ci]? = some (C, T, N)) (hin : ∀ w ∈ u_ws C T N, w ∈ gtb) (hty : ∀ k, k < N → parseFieldDescriptor (T k).2.2.1 = some (ty0 k)) (hnm2 : ∀ a, a < N → ∀ b, b < N → a ≠ b → (T a).2.1 ≠ (T b).2.1) (hf : f < N) (hT : (T f).1 = C) (hlk2 : Cond.fieldLinkNest y.cls idx C (T f).2.1 (T f).2.2.1 host ∈ lw_tbl) (hfin : (T f).2.2.2 = false) (hn : narrow (ty0 f) v = v) (hfit : fits (ty0 f) v = true) (hl2 : f < fs.length) (kk : G ce sl (hp.set k (a, .inr (ci, fs.set f v))) L (pc + 3) st) : G ce sl hp L pc (v :: .ref a :: st) := by
  obtain ⟨p, e, s, m, args, below, meth, c, Q, hx, hb, hml, hown, hts, hK, hlk, hnm, rfl⟩ := hG
  intro H locs ls hP hD hS hl
  exact va_putN hx hb hts hin ty0 hty hnm2 hown hK.1 hP hD hS k he hc f hf ((hK.2.2.1 _ hlk2 rfl).use rfl) (by rw [hT]; exact fun _ h => h) hfin (hty f hf) hn hfit hl2 d (fun H1 locs1 hP hD hS => kk H1 locs1 ls hP hD hS hl)
theorem g_putF (hG : IsG g l y cc nL R G) {k a ci idx f N : Nat} {fs : List Value} {C : String} {T : u_T} {v : Value} {ty0 : Nat → FieldType} (d : decode cc pc = .ok (.putfield idx, 3)) (he : hp[k]? = some (a, .inr (ci, fs))) (hc : vwCl[ci]? = some (C, T, N)) (hin : ∀ w ∈ u_ws C T N, w ∈ gtb) (hty : ∀ k, k < N → parseFieldDescriptor (T k).2.2.1 = some (ty0 k)) (hnm2 : ∀ a, a < N → ∀ b, b < N → a ≠ b → (T a).2.1 ≠ (T b).2.1) (hf : f < N) (hT : (T f).1 = C) (hC : C = y.cls) (hlk2 : Cond.fieldLink y.cls idx C (T f).2.1 (T f).2.2.1 ∈ gtb) (hfin : (T f).2.2.2 = true) (hy : y.name = "<init>") (hn : narrow (ty0 f) v = v) (hfit : fits (ty0 f) v = true) (hl2 : f < fs.length) (kk : G ce sl (hp.set k (a, .inr (ci, fs.set f v))) L (pc + 3) st) : G ce sl hp L pc (v :: .ref a :: st) := by
  obtain ⟨p, e, s, m, args, below, meth, c, Q, hx, hb, hml, hown, hts, hK, hlk, hnm, rfl⟩ := hG
  intro H locs ls hP hD hS hl
  exact va_putF hx hb hts hin ty0 hty hnm2 hown hK.1 hP hD hS k he hc f hf (hts _ hlk2) (by rw [hT]; exact fun _ h => h) hfin (hnm.trans hy) (hT.trans hC) (hty f hf) hn hfit hl2 d (fun H1 locs1 hP hD hS => kk H1 locs1 ls hP hD hS hl)
theorem g_iald (hG : IsG g l y cc nL R G) {k a n : Nat} {f : Nat → Int32} {i : Int32} (d : decode cc pc = .ok (.iaload, 1)) (he : hp[k]? = some (a, .inl (g.2.1 0, n, .inl f))) (hi : vp_in i n) (kk : G ce sl hp L (pc + 1) (.int (f i.toNatClampNeg) :: st)) : G ce sl hp L pc (.int i :: .ref a :: st) := by
  obtain ⟨p, e, s, m, args, below, meth, c, Q, hx, hb, hml, hown, hts, hK, hlk, hnm, rfl⟩ := hG
  intro H locs ls hP hD hS hl
  exact va_iald hx hb hK.1 hP k 0 he rfl hi d (kk H locs ls hP hD hS hl)
theorem g_iast (hG : IsG g l y cc nL R G) {k a n : Nat} {f : Nat → Int32} {i x : Int32} (d : decode cc pc = .ok (.iastore, 1)) (he : hp[k]? = some (a, .inl (g.2.1 0, n, .inl f))) (hi : vp_in i n) (kk : G ce sl (hp.set k (a, .inl (g.2.1 0, n, .inl (upd f i.toNatClampNeg x)))) L (pc + 1) st) : G ce sl hp L pc (.int x :: .int i :: .ref a :: st) := by
  obtain ⟨p, e, s, m, args, below, meth, c, Q, hx, hb, hml, hown, hts, hK, hlk, hnm, rfl⟩ := hG
  intro H locs ls hP hD hS hl
  exact va_iast hx hb hK.1 hP hD hS k 0 he rfl hi d (fun H1 locs1 hP hD hS => kk H1 locs1 ls hP hD hS hl)
theorem g_alen (hG : IsG g l y cc nL R G) {k a n : Nat} {f : Nat → Int32} (d : decode cc pc = .ok (.arraylength, 1)) (he : hp[k]? = some (a, .inl (g.2.1 0, n, .inl f))) (kk : G ce sl hp L (pc + 1) (.int (Int32.ofNat n) :: st)) : G ce sl hp L pc (.ref a :: st) := by
  obtain ⟨p, e, s, m, args, below, meth, c, Q, hx, hb, hml, hown, hts, hK, hlk, hnm, rfl⟩ := hG
  intro H locs ls hP hD hS hl
  exact va_alen hx hb hK.1 hP k 0 he rfl rfl d (kk H locs ls hP hD hS hl)

end ROWS
