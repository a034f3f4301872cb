/-! options, guards; the reference's state, its world, its rows -/
abbrev ix (i : Int32) : Nat := i.toNatClampNeg
def irm (x z : Int32) : Int32 := x - x / z * z
def iush (x z : Int32) : Int32 := (x.toUInt32 >>> (z.toUInt32 &&& Int32.toUInt32 31)).toInt32
def inb (i : Int32) (n : Nat) : Bool := !(decide (i < 0) || decide (n ≤ i.toNatClampNeg))
theorem inb_in {i : Int32} {n : Nat} (h : inb i n = true) : vp_in i n := by
  unfold inb at h
  unfold vp_in
  simpa using h
def isb (v : Int32) : Bool := decide (v = 0) || decide (v = 1)
theorem isb_n {v : Int32} (h : isb v = true) : narrow .boolean (.int v) = .int v := by
  unfold isb at h
  simp only [Bool.or_eq_true, decide_eq_true_eq] at h
  rcases h with rfl | rfl <;> decide
theorem isb_f {v : Int32} (h : isb v = true) : fits .boolean (.int v) = true := by
  unfold isb at h
  simp only [Bool.or_eq_true, decide_eq_true_eq] at h
  rcases h with rfl | rfl <;> decide
theorem isb_ite {c : Prop} [Decidable c] {a b : Int32} (ha : isb a = true) (hb : isb b = true) : isb (if c then a else b) = true := by
  split <;> assumption
def nz (v : Int32) : Bool := !(decide (v = 0))
theorem nz_ne {v : Int32} (h : nz v = true) : ¬ v = 0 := by
  unfold nz at h
  simpa using h
def gd {α : Type} (b : Bool) (k : Option α) : Option α := if b = true then k else none
theorem gd_some {α : Type} {b : Bool} {k : Option α} {q : α} (h : gd b k = some q) : b = true ∧ k = some q := by
  unfold gd at h
  by_cases e : b = true
  · rw [if_pos e] at h; exact ⟨e, h⟩
  · rw [if_neg e] at h; cases h
def ob {α β γ : Type} (x : Option (α × β)) (k : α → β → Option γ) : Option γ := match x with
  | none => none
  | some q => k q.1 q.2
theorem ob_some {α β γ : Type} {x : Option (α × β)} {k : α → β → Option γ} {q : γ} (h : ob x k = some q) : ∃ (a : α) (b : β), x = some (a, b) ∧ k a b = some q := by
  match x, h with
  | some (a, b), h => exact ⟨a, b, rfl, h⟩
def lt {α β : Type} (x : α) (k : α → β) : β := k x
theorem lt_ex {α β : Type} {x : α} {k : α → Option β} {q : β} (h : lt x k = some q) : ∃ y, y = x ∧ k y = some q := ⟨x, rfl, h⟩
theorem if_some {α : Type} {c : Prop} [Decidable c] {a b : Option α} {q : α} (h : (if c then a else b) = some q) : (c ∧ a = some q) ∨ (¬ c ∧ b = some q) := by
  by_cases e : c
  · rw [if_pos e] at h; exact Or.inl ⟨e, h⟩
  · rw [if_neg e] at h; exact Or.inr ⟨e, h⟩
theorem i32ne {x c : Int32} {n : Int} (h : ¬ x = c) (hc : c.toInt = n) : x.toInt ≠ n := fun e => h (Int32.toInt_inj.mp (e.trans hc.symm))
def lsub (L : List (Nat × Value)) : List (Nat × Value) → Prop
  | [] => True
  | (k, v) :: t => llk k L = some v ∧ lsub L t
theorem lsub_mem {L : List (Nat × Value)} : ∀ {L' : List (Nat × Value)}, lsub L L' → ∀ q ∈ L', q ∈ L
  | [], _, q, hq => by cases hq
  | (k, v) :: t, h, q, hq => by
    rcases List.mem_cons.mp hq with e | e
    · rw [e]; exact llk_mem h.1
    · exact lsub_mem h.2 q e
section R2
variable {g : GP} {l : Launch} {y : MethodName} {cc : ByteArray} {nL : Nat} {R : Room} {G : GT} {ce sl pc : Nat} {hp : va_W} {L : List (Nat × Value)} {st : List Value}
theorem g_loc (hG : IsG g l y cc nL R G) (L' : List (Nat × Value)) (h : lsub L L') (k : G ce sl hp L' pc st) : G ce sl hp L pc st := by
  obtain ⟨p, e, s, m, args, below, meth, c, Q, hx, hb, hml, hown, hts, hK, hlk, hnm, rfl⟩ := hG
  intro H locs ls hP hD hS hl
  exact k H locs ls hP hD hS ⟨hl.1, hl.2.1, fun q hq => hl.2.2 q (lsub_mem h q hq)⟩
theorem g_nam {x e : Int32} (h : x = e) (k : G ce sl hp L pc (.int x :: st)) : G ce sl hp L pc (.int e :: st) := h ▸ k
theorem g_dia1 {x : Int32} (v : Int32) (J : Nat) (br : G ce sl hp L J (.int v :: st) → G ce sl hp L pc (.int x :: st)) (k : G ce sl hp L J (.int v :: st)) : G ce sl hp L pc (.int x :: st) := br k
theorem g_dia2 {x z : Int32} (v : Int32) (J : Nat) (br : G ce sl hp L J (.int v :: st) → G ce sl hp L pc (.int z :: .int x :: st)) (k : G ce sl hp L J (.int v :: st)) : G ce sl hp L pc (.int z :: .int x :: st) := br k
theorem g_irm (hG : IsG g l y cc nL R G) {x z : Int32} (d : decode cc pc = .ok (.irem, 1)) (hz : ¬ z = 0) (k : G ce sl hp L (pc + 1) (.int (irm x z) :: st)) : G ce sl hp L pc (.int z :: .int x :: st) := g_irem hG d hz k
theorem g_iush (hG : IsG g l y cc nL R G) {x z : Int32} (d : decode cc pc = .ok (.iushr, 1)) (k : G ce sl hp L (pc + 1) (.int (iush x z) :: st)) : G ce sl hp L pc (.int z :: .int x :: st) := g_iushr hG d k
theorem g_tabC (hG : IsG g l y cc nL R G) {dflt lo hi : Int} {offs : Array Int} {len : Nat} {x c : Int32} {off : Int} {tgt : Nat} (hxc : x = c) (d : decode cc pc = .ok (.tableswitch dflt lo hi offs, len)) (h1 : ¬ c.toInt < lo) (h2 : ¬ hi < c.toInt) (ho : offs[(c.toInt - lo).toNat]? = some off) (ht : (pc : Int) + off = (tgt : Int)) (k : G ce sl hp L tgt st) : G ce sl hp L pc (.int x :: st) := by
  subst hxc
  exact g_tableIn hG d h1 h2 ho ht k
theorem g_iincv (hG : IsG g l y cc nL R G) {i : Nat} {n : Int} {x c : Int32} (d : decode cc pc = .ok (.iinc i n, 3)) (hv : llk i L = some (.int x)) (hc : Int32.ofInt n = c) (hn : i < nL) (k : G ce sl hp (lst i (.int (x + c)) L) (pc + 3) st) : G ce sl hp L pc st := by
  subst hc
  exact g_iinc hG d hv hn k
variable {y' : MethodName} {cc' : ByteArray} {nL' n idx : Nat} {ret : Option FieldType} {rm : Room} {As : List Value}
theorem g_cV (hG : IsG g l y cc nL R G) {k a ci N : Nat} {fs : List Value} {T : u_T} {v : Int32} {hp' : va_W} (d : decode cc pc = .ok (.invokevirtual idx, 3)) (hM : CI g l y' cc' nL' ret rm (.ref a :: As) hp (fun r w => r = v ∧ w = hp')) (b : LkB y' cc' nL' ret n) (lk : LkV y.cls idx y') (hn : As.length = n) (he : hp[k]? = some (a, .inr (ci, fs))) (hc : vwCl[ci]? = some (y'.cls, T, N)) (hR : rm.frames + 1 ≤ R.frames ∧ 8 + (nL' + 11) + rm.locals ≤ R.locals) (hz : rm.cells = 0 ∧ rm.slots = 0) (hf : ce ≤ R.cells ∧ sl ≤ R.slots) (st0 : List Value) (hst0 : st0 = As.reverse ++ .ref a :: st) (hst : (st.map fun v => v.category).sum ≤ 8)
    (kk : G ce sl hp' L (pc + 3) (.int v :: st)) : G ce sl hp L pc st0 := by
  subst hst0
  refine g_callV_i hG d hM b lk hn he hc hR hst (by rw [hz.1, hz.2]; exact hf) (fun r w hw => ?_)
  obtain ⟨rfl, rfl⟩ := hw
  rw [hz.1, hz.2]
  exact kk
theorem g_cVv (hG : IsG g l y cc nL R G) {k a ci N : Nat} {fs : List Value} {T : u_T} {hp' : va_W} (d : decode cc pc = .ok (.invokevirtual idx, 3)) (hM : CV g l y' cc' nL' rm (.ref a :: As) hp (fun w => w = hp')) (b : LkB y' cc' nL' none n) (lk : LkV y.cls idx y') (hn : As.length = n) (he : hp[k]? = some (a, .inr (ci, fs))) (hc : vwCl[ci]? = some (y'.cls, T, N)) (hR : rm.frames + 1 ≤ R.frames ∧ 8 + (nL' + 11) + rm.locals ≤ R.locals) (hz : rm.cells = 0 ∧ rm.slots = 0) (hf : ce ≤ R.cells ∧ sl ≤ R.slots) (st0 : List Value) (hst0 : st0 = As.reverse ++ .ref a :: st) (hst : (st.map fun v => v.category).sum ≤ 8)
    (kk : G ce sl hp' L (pc + 3) st) : G ce sl hp L pc st0 := by
  subst hst0
  refine g_callV_v hG d hM b lk hn he hc hR hst (by rw [hz.1, hz.2]; exact hf) (fun w hw => ?_)
  obtain rfl := hw
  rw [hz.1, hz.2]
  exact kk
theorem g_cS (hG : IsG g l y cc nL R G) {v : Int32} {hp' : va_W} (d : decode cc pc = .ok (.invokestatic idx, 3)) (hM : CI g l y' cc' nL' ret rm As hp (fun r w => r = v ∧ w = hp')) (b : LkB y' cc' nL' ret n) (lk : LkS y.cls idx y') (hn : As.length = n) (hR : rm.frames + 1 ≤ R.frames ∧ 8 + (nL' + 11) + rm.locals ≤ R.locals) (hz : rm.cells = 0 ∧ rm.slots = 0) (hf : ce ≤ R.cells ∧ sl ≤ R.slots) (st0 : List Value) (hst0 : st0 = As.reverse ++ st) (hst : (st.map fun v => v.category).sum ≤ 8)
    (kk : G ce sl hp' L (pc + 3) (.int v :: st)) : G ce sl hp L pc st0 := by
  subst hst0
  refine g_callS_i hG d hM b lk hn hR hst (by rw [hz.1, hz.2]; exact hf) (fun r w hw => ?_)
  obtain ⟨rfl, rfl⟩ := hw
  rw [hz.1, hz.2]
  exact kk
end R2
abbrev RS : Type := (Nat → Int32) × (Nat → Nat → Int32)
def ri (σ : RS) (f : Nat) (v : Int32) : RS := (upd σ.1 f v, σ.2)
def ra (σ : RS) (f : Nat) (h : Nat → Int32) : RS := (σ.1, va_up σ.2 f h)
def rfs (r : Nat → Nat) (σ : RS) : List Value := [.ref (r 0), .ref (r 1), .ref (r 2), .ref (r 3), .int (σ.1 4), .int (σ.1 5), .ref (r 6), .int (σ.1 7), .int (σ.1 8), .int (σ.1 9), .int (σ.1 10), .int (σ.1 11), .int (σ.1 12), .int (σ.1 13), .int (σ.1 14), .int (σ.1 15), .ref (r 16), .ref (r 17), .ref (r 18), .ref (r 19), .ref (r 20), .int (σ.1 21), .int (σ.1 22), .int (σ.1 23), .int (σ.1 24)]
def rar (g : GP) (r : Nat → Nat) (σ : RS) (f n : Nat) : Nat × va_E := (r f, .inl (g.2.1 0, n, .inl (σ.2 f)))
def wR (g : GP) (r : Nat → Nat) (σ : RS) (X : va_W) : va_W := (r 25, .inr (12, rfs r σ)) :: rar g r σ 0 240 :: rar g r σ 1 240 :: rar g r σ 2 240 :: rar g r σ 3 240 :: rar g r σ 6 6 :: rar g r σ 16 4 :: rar g r σ 17 4 :: rar g r σ 18 160 :: rar g r σ 19 40 :: rar g r σ 20 40 :: X
section R3
variable {g : GP} {l : Launch} {y : MethodName} {cc : ByteArray} {nL : Nat} {R : Room} {G : GT} {ce sl pc : Nat} {L : List (Nat × Value)} {st : List Value} {r : Nat → Nat} {σ σ' : RS} {X : va_W}
theorem r_get (f : Nat) (hG : IsG g l y cc nL R G) {idx : Nat} {v : Value} (d : decode cc pc = .ok (.getfield idx, 3)) (hlk : Cond.fieldLink y.cls idx RX12 (TX12 f).2.1 (TX12 f).2.2.1 ∈ gtb) (hf : f < 25) (hv : (rfs r σ)[f]? = some v) (kk : G ce sl (wR g r σ X) L (pc + 3) (v :: st)) : G ce sl (wR g r σ X) L pc (.ref (r 25) :: st) := g_get hG d (k := 0) (ci := 12) rfl rfl inX12 hf (hTX12 f hf) hlk hv kk
theorem r_put (f : Nat) (hG : IsG g l y cc nL R G) {idx : Nat} {v : Int32} (hσ : σ' = ri σ f v) (d : decode cc pc = .ok (.putfield idx, 3)) (hlk : Cond.fieldLink y.cls idx RX12 (TX12 f).2.1 (TX12 f).2.2.1 ∈ gtb) (hf : f < 25) (hfin : (TX12 f).2.2.2 = false) (hn : narrow (tyX12 f) (.int v) = .int v) (hfit : fits (tyX12 f) (.int v) = true) (hset : (wR g r σ X).set 0 (r 25, .inr (12, (rfs r σ).set f (.int v))) = wR g r (ri σ f v) X) (kk : G ce sl (wR g r σ' X) L (pc + 3) st) : G ce sl (wR g r σ X) L pc (.int v :: .ref (r 25) :: st) := by
  subst hσ
  rw [← hset] at kk
  exact g_put hG d (k := 0) (ci := 12) rfl rfl inX12 tyX12_ok nmX12 hf (hTX12 f hf) hlk hfin hn hfit hf kk
theorem r_iald (k f n : Nat) (hG : IsG g l y cc nL R G) {i : Int32} {j : Nat} (d : decode cc pc = .ok (.iaload, 1)) (he : (wR g r σ X)[k]? = some (rar g r σ f n)) (hi : inb i n = true) (hj : i.toNatClampNeg = j) (kk : G ce sl (wR g r σ X) L (pc + 1) (.int (σ.2 f j) :: st)) : G ce sl (wR g r σ X) L pc (.int i :: .ref (r f) :: st) := by
  subst hj
  exact g_iald hG d he (inb_in hi) kk
theorem r_iast (k f n : Nat) (hG : IsG g l y cc nL R G) {i x : Int32} {j : Nat} (hσ : σ' = ra σ f (upd (σ.2 f) j x)) (d : decode cc pc = .ok (.iastore, 1)) (he : (wR g r σ X)[k]? = some (rar g r σ f n)) (hi : inb i n = true) (hj : i.toNatClampNeg = j) (hset : (wR g r σ X).set k (r f, .inl (g.2.1 0, n, .inl (upd (σ.2 f) j x))) = wR g r (ra σ f (upd (σ.2 f) j x)) X) (kk : G ce sl (wR g r σ' X) L (pc + 1) st) : G ce sl (wR g r σ X) L pc (.int x :: .int i :: .ref (r f) :: st) := by
  subst hσ
  subst hj
  rw [← hset] at kk
  exact g_iast hG d he (inb_in hi) kk
end R3
/-- a bound on rounds of loops, far above what any run needs -/
def FU : Nat := 1000
