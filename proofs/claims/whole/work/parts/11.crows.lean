/-! rows for the class: arrays of references, library calls, more calls, its own fields and arrays -/
section C1
variable {g : GP} {l : Launch} {y : MethodName} {cc : ByteArray} {nL : Nat} {R : Room} {G : GT} {ce sl pc : Nat} {hp : va_W} {L : List (Nat × Value)} {st : List Value}
theorem g_aald (t0 : Nat) (hG : IsG g l y cc nL R G) {k a n : Nat} {f : Nat → Option Nat} {ty : FieldType} {cA : ClassId} {i : Int32} (d : decode cc pc = .ok (.aaload, 1)) (he : hp[k]? = some (a, .inl (cA, n, .inr (.inr (.inr (.inr f)))))) (ht : (gT g)[t0]? = some (cA, ty)) (hr : ty.isReference = true) (hi : vp_in i n) (kk : G ce sl hp L (pc + 1) (va_rf (f i.toNatClampNeg) :: st)) : G ce sl hp L pc (.int i :: .ref a :: st) := by
  obtain ⟨p, e, s, m, args, below, meth, c, Q, hx, hb, hml, hown, hts, hK, hlk, hnm, rfl⟩ := hG
  intro H locs ls hP hD hS hl
  have hlt : i.toNatClampNeg < n := Nat.not_le.mp fun q => hi (Or.inr q)
  exact W.aald (v := va_rf (f i.toNatClampNeg)) (ty := ty) hx hb (hP k _ he) ((hK.1.2 t0 _ ht).1 n (fun j => va_rf (f j))) hr (fun q => by cases q) (by show ¬ (i < 0 ∨ (arrV _ _ _).slots.size ≤ _); rw [arrV_size]; exact hi) (by show (arrV _ _ _).slots[_]? = _; rw [arrV_read _ _ hlt]) rfl rfl d (kk H locs ls hP hD hS hl)
theorem g_ldcw (hG : IsG g l y cc nL R G) {i : Nat} {v : Int32} (d : decode cc pc = .ok (.ldc_w i, 3)) (hc : Cond.constant y.cls i v ∈ gtb) (k : G ce sl hp L (pc + 3) (.int v :: st)) : G ce sl hp L pc st := by
  obtain ⟨p, e, s, m, args, below, meth, c, Q, hx, hb, hml, hown, hts, hK, hlk, hnm, rfl⟩ := hG
  intro H locs ls hP hD hS hl
  exact lv_ldcw hx hb hown (hts _ hc) d (k H locs ls hP hD hS hl)
theorem g_min (hG : IsG g l y cc nL R G) {idx : Nat} {x z : Int32} (d : decode cc pc = .ok (.invokestatic idx, 3)) (h1 : Cond.methodLink y.cls idx Lib.Math.min.name ∈ gtb) (h2 : Cond.static Lib.Math.min.name ∈ gtb) (h3 : Cond.initialized "java/lang/Math" ∈ gtb) (h4 : Cond.code Lib.Math.min.name Lib.Math.min.code 2 (some .int) ∈ gtb) (hf : 1 ≤ R.frames) (hlo : (st.map fun v => v.category).sum + 13 ≤ R.locals) (hc : ce ≤ R.cells) (hs : sl ≤ R.slots) (k : G ce sl hp L (pc + 3) (.int (if z < x then z else x) :: st)) : G ce sl hp L pc (.int z :: .int x :: st) := by
  obtain ⟨p, e, s, m, args, below, meth, c, Q, hx, hb, hml, hown, hts, hK, hlk, hnm, rfl⟩ := hG
  intro H locs ls hP hD hS hl
  exact va_mmin hx hb (hml.trans hl.1.symm) hown (hts _ h1) (hts _ h2) (hts _ h3) (hts _ h4) hf hlo hc hs d (k H locs ls hP hD hS hl)
theorem g_max (hG : IsG g l y cc nL R G) {idx : Nat} {x z : Int32} (d : decode cc pc = .ok (.invokestatic idx, 3)) (h1 : Cond.methodLink y.cls idx Lib.Math.max.name ∈ gtb) (h2 : Cond.static Lib.Math.max.name ∈ gtb) (h3 : Cond.initialized "java/lang/Math" ∈ gtb) (h4 : Cond.code Lib.Math.max.name Lib.Math.max.code 2 (some .int) ∈ gtb) (hf : 1 ≤ R.frames) (hlo : (st.map fun v => v.category).sum + 13 ≤ R.locals) (hc : ce ≤ R.cells) (hs : sl ≤ R.slots) (k : G ce sl hp L (pc + 3) (.int (if x < z then z else x) :: st)) : G ce sl hp L pc (.int z :: .int x :: st) := by
  obtain ⟨p, e, s, m, args, below, meth, c, Q, hx, hb, hml, hown, hts, hK, hlk, hnm, rfl⟩ := hG
  intro H locs ls hP hD hS hl
  exact va_mmax hx hb (hml.trans hl.1.symm) hown (hts _ h1) (hts _ h2) (hts _ h3) (hts _ h4) hf hlo hc hs d (k H locs ls hP hD hS hl)
def cpok (sp dp n : Int32) (n0 n1 : Nat) : Bool := !decide (sp < 0) && (!decide (dp < 0) && (!decide (n < 0) && (decide (sp.toNatClampNeg + n.toNatClampNeg ≤ n0) && decide (dp.toNatClampNeg + n.toNatClampNeg ≤ n1))))
theorem g_copy (hG : IsG g l y cc nL R G) {idx k0 k1 a0 a1 n0 n1 : Nat} {f h : Nat → Int32} {sp dp n : Int32} (d : decode cc pc = .ok (.invokestatic idx, 3)) (h1 : Cond.methodLink y.cls idx arraycopyName ∈ gtb) (h2 : Cond.native arraycopyName ∈ gtb) (h3 : Cond.static arraycopyName ∈ gtb) (h4 : Cond.initialized "java/lang/System" ∈ gtb) (he0 : hp[k0]? = some (a0, .inl (g.2.1 0, n0, .inl f))) (he1 : hp[k1]? = some (a1, .inl (g.2.1 0, n1, .inl h))) (hok : cpok sp dp n n0 n1 = true) (hf : 1 ≤ R.frames) (hlo : (st.map fun v => v.category).sum + (nativeFrameWords "java/lang/System" "arraycopy" 5 + 11) ≤ R.locals)
    (kk : G ce sl (hp.set k1 (a1, .inl (g.2.1 0, n1, .inl (va_cpy f h sp.toNatClampNeg dp.toNatClampNeg n.toNatClampNeg)))) L (pc + 3) st) : G ce sl hp L pc (.int n :: .int dp :: .ref a1 :: .int sp :: .ref a0 :: st) := by
  obtain ⟨p, e, s, m, args, below, meth, c, Q, hx, hb, hml, hown, hts, hK, hlk, hnm, rfl⟩ := hG
  intro H locs ls hP hD hS hl
  unfold cpok at hok
  simp only [Bool.and_eq_true, Bool.not_eq_true', decide_eq_false_iff_not, decide_eq_true_eq] at hok
  obtain ⟨q1, q2, q3, q4, q5⟩ := hok
  exact va_copyi hx hb (hml.trans hl.1.symm) hown (hts _ h1) (hts _ h2) (hts _ h3) (hts _ h4) hK.1 hP hD hS k0 k1 0 0 (ty := .int) he0 he1 rfl rfl rfl q1 q2 q3 q4 q5 (fun _ _ => rfl) hf hlo d (fun H1 locs1 hP hD hS => kk H1 locs1 ls hP hD hS hl)
variable {y' : MethodName} {cc' : ByteArray} {nL' n idx : Nat} {ret : Option FieldType} {rm : Room} {As : List Value}
theorem g_cSN (hG : IsG g l y cc nL R G) {v : Int32} {hp' : va_W} {host : String} (d : decode cc pc = .ok (.invokestatic idx, 3)) (hM : CI g l y' cc' nL' ret rm As hp (fun r w => r = v ∧ w = hp')) (b : LkB y' cc' nL' ret n) (lk : LkSN y.cls idx y' host) (hn : As.length = n) (hR : rm.frames + 1 ≤ R.frames ∧ 8 + (nL' + 11) + rm.locals ≤ R.locals) (hz : rm.cells = 0 ∧ rm.slots = 0) (hf : ce ≤ R.cells ∧ sl ≤ R.slots) (st0 : List Value) (hst0 : st0 = As.reverse ++ st) (hst : (st.map fun v => v.category).sum ≤ 8)
    (kk : G ce sl hp' L (pc + 3) (.int v :: st)) : G ce sl hp L pc st0 := by
  subst hst0
  obtain ⟨p, e, s, m, args, below, meth, c, Q, hx, hb, hml, hown, hts, hK, hlk, hnm, rfl⟩ := hG
  intro H locs ls hP hD hS hl
  refine va_calli (va_runSN (As := As) (rest := st) (host := host) ⟨hx, hb, hml, hown, hts⟩ hM ⟨va_cnB n hts (tbl_goodIn (fun _ h => h) b.1) rfl rfl rfl (hK.2.2.1 _ lk.1 rfl) (hts _ b.2.1) b.2.2 hR, hts _ lk.2, trivial⟩ ⟨CP.blind _ _ _, fun U hU hW => ⟨rfl, by rw [hU]; exact hP, hD, hK.moved hW (by rw [hU]; exact hS.1) (fun q h1 h2 => by rw [hU]; exact hS.2.1 q h1 h2)⟩⟩ rfl hn hl.1 rfl (lv_room hst) d (by rw [hz.1, hz.2]; exact hf)) hS (fun q _ h => h) (fun q h => h) (fun r u t H1 locs ht hvm hw hB hz1 hk1 hS => ?_)
  rw [hz.1, hz.2]
  obtain ⟨rfl, rfl⟩ := hw
  exact kk H1 locs ls (by rw [← ht]; exact hB.1) hB.2.1 hS hl
/-- words of a call of x on a C whose method is y, x being declared by owner -/
def LkU (own : String) (idx : Nat) (C owner : String) (x y : MethodName) : Prop := Cond.methodLink own idx x ∈ gtb ∧ Cond.sameMethod x.cls owner x.name x.desc ∈ gtb ∧ Cond.instanceMethod ⟨owner, x.name, x.desc⟩ ∈ gtb ∧ Cond.selects C x y ∈ gtb ∧ Cond.instanceMethod y ∈ gtb ∧ owner ≠ "java/lang/invoke/MethodHandle" ∧ owner ≠ "java/lang/invoke/VarHandle" ∧ (∃ b0 m0 r0, Cond.code ⟨owner, x.name, x.desc⟩ b0 m0 r0 ∈ gtb) ∧ (parseMethodDescriptor x.desc).map (fun d => d.parameters.length) = (parseMethodDescriptor y.desc).map (fun d => d.parameters.length)
theorem g_cU (hG : IsG g l y cc nL R G) {C owner : String} {x : MethodName} {k a ci N : Nat} {fs : List Value} {T : u_T} {v : Int32} {hp' : va_W} (d : decode cc pc = .ok (.invokevirtual idx, 3)) (hM : CI g l y' cc' nL' ret rm (.ref a :: As) hp (fun r w => r = v ∧ w = hp')) (b : LkB y' cc' nL' ret n) (lk : LkU y.cls idx C owner x y') (hn : As.length = n) (he : hp[k]? = some (a, .inr (ci, fs))) (hc : vwCl[ci]? = some (C, T, N)) (hR : rm.frames + 1 ≤ R.frames ∧ 8 + (nL' + 11) + rm.locals ≤ R.locals) (hz : rm.cells = 0 ∧ rm.slots = 0) (hf : ce ≤ R.cells ∧ sl ≤ R.slots) (st0 : List Value) (hst0 : st0 = As.reverse ++ .ref a :: st) (hst : (st.map fun v => v.category).sum ≤ 8)
    (kk : G ce sl hp' L (pc + 3) (.int v :: st)) : G ce sl hp L pc st0 := by
  subst hst0
  obtain ⟨p, e, s, m, args, below, meth, c, Q, hx, hb, hml, hown, hts, hK, hlk, hnm, rfl⟩ := hG
  intro H locs ls hP hD hS hl
  obtain ⟨k1, k2, k3, k4, k5, k6, k7, ⟨b0, m0, r0, k8⟩, k9⟩ := lk
  have hgi := tbl_goodIn (big := gtb) (fun _ h => h) b.1
  have hO : GoodIn gtb (va_wsO y.cls idx C owner x y' (.code y' cc' nL' ret :: gtb)) := by
    intro w hw
    unfold va_wsO at hw
    rcases List.mem_append.mp hw with q | q
    · have hm : w ∈ gtb := by
        simp only [List.mem_cons, List.not_mem_nil, or_false] at q
        rcases q with rfl | rfl | rfl | rfl | rfl | rfl
        · exact k1
        · exact k2
        · exact k3
        · exact k4
        · exact k5
        · exact b.2.1
      exact ⟨hm, good_of_word (List.mem_filter.mp hm).2⟩
    · exact hgi w q
  refine va_calli (va_runU (As := As) (rest := st) (C := C) ⟨hx, hb, hml, hown, hts⟩ hM (va_cwO n hts hO rfl rfl rfl k8 ⟨k6, k7, k9.trans b.2.2.2.2⟩ hR) ⟨CP.blind _ _ _, va_recv hK.1 hP hc he, fun U hU hW => ⟨rfl, by rw [hU]; exact hP, hD, hK.moved hW (by rw [hU]; exact hS.1) (fun q h1 h2 => by rw [hU]; exact hS.2.1 q h1 h2)⟩⟩ rfl hn hl.1 rfl (lv_room hst) d (by rw [hz.1, hz.2]; exact hf)) hS (fun q _ h => h) (fun q h => h) (fun r u t H1 locs ht hvm hw hB hz1 hk1 hS => ?_)
  rw [hz.1, hz.2]
  obtain ⟨rfl, rfl⟩ := hw
  exact kk H1 locs ls (by rw [← ht]; exact hB.1) hB.2.1 hS hl
theorem CR.mk {C : String} {As : List Value} {post : Nat × va_W → Prop} (hy : plainName y.cls = true) (hAs : (lg_sl As).length ≤ nL)
    (h : ∀ G : GT, IsG g l y cc nL rm G → (∀ (hp' : va_W) (L : List (Nat × Value)) (pc a : Nat), decode cc pc = .ok (.areturn, 1) → post (a, hp') → G rm.cells rm.slots hp' L pc [.ref a]) → G 0 0 hp (lv_args 0 As) 0 []) : CR g l y cc nL (some (.object C)) rm As hp post := by
  refine Met.ofW (cc := cc) (maxL := nL) (ret := some (.object C)) hy rfl ?_
  intro p e s m args below meth c s₁ B hml hv
  obtain ⟨rfl, hP, hD, hK⟩ := hv
  have hts : ∀ w ∈ gtb, w.before As.toArray s = true := fun w hw => atoms_spec (ws := .code y cc nL (some (.object C)) :: gtb) B.pre w (List.mem_cons_of_mem _ hw)
  have hlk := B.notSynchronized
  have key := h (BW g p l e rm s m As.toArray below meth c (MQ below (va_Qr post (fun u a t => a = u.1 ∧ gB g u.2 t) (gA g)) As.toArray s rm.cells rm.slots (gA g)) nL) ⟨p, e, s, m, As.toArray, below, meth, c, _, B.exec, B.bytes, hml, findClass_of_methodNamed B.named, hts, hK, hlk, (name_of_methodNamed B.named B.method).1, rfl⟩ ?_
  · have hl := lv_entry As hAs
    rw [lg_entry_eq]
    exact key s.heap [] _ hP hD va_S.rf hl
  · intro hp' L pc a d hpost H locs ls hP hD hS hl
    exact W.aret B.exec B.bytes B.returns (Or.inl ⟨_, rfl⟩) (Or.inr ⟨_, rfl⟩) (fun t ht hW => ⟨⟨(a, hp'), a, rfl, hpost, rfl, gB.end hK hP hD hS ht hW⟩, hS.F ht⟩) hS.2.2 d
theorem g_cVr (hG : IsG g l y cc nL R G) {k a ci N : Nat} {fs : List Value} {T : u_T} {post : Nat × va_W → Prop} (d : decode cc pc = .ok (.invokevirtual idx, 3)) (hM : CR g l y' cc' nL' ret rm (.ref a :: As) hp post) (b : LkB y' cc' nL' ret n) (lk : LkV y.cls idx y') (hn : As.length = n) (he : hp[k]? = some (a, .inr (ci, fs))) (hc : vwCl[ci]? = some (y'.cls, T, N)) (hR : rm.frames + 1 ≤ R.frames ∧ 8 + (nL' + 11) + rm.locals ≤ R.locals) (hf : ce + rm.cells ≤ R.cells ∧ sl + rm.slots ≤ R.slots) (st0 : List Value) (hst0 : st0 = As.reverse ++ .ref a :: st) (hst : (st.map fun v => v.category).sum ≤ 8)
    (kk : ∀ (q : Nat) (hp' : va_W), post (q, hp') → G (ce + rm.cells) (sl + rm.slots) hp' L (pc + 3) (.ref q :: st)) : G ce sl hp L pc st0 := by
  subst hst0
  obtain ⟨p, e, s, m, args, below, meth, c, Q, hx, hb, hml, hown, hts, hK, hlk, hnm, rfl⟩ := hG
  intro H locs ls hP hD hS hl
  refine va_callr (va_runV (As := As) (rest := st) (C := y'.cls) ⟨hx, hb, hml, hown, hts⟩ hM ⟨callB_g hts b lk.1 hR, hts _ lk.2.1, hts _ lk.2.2⟩ ⟨CP.blind _ _ _, va_recv hK.1 hP hc he, fun U hU hW => ⟨rfl, by rw [hU]; exact hP, hD, hK.moved hW (by rw [hU]; exact hS.1) (fun q h1 h2 => by rw [hU]; exact hS.2.1 q h1 h2)⟩⟩ rfl hn hl.1 rfl (lv_room hst) d hf) hS (fun q _ h => h) (fun q h => h) ?_
  intro u a1 t H1 locs1 ht hvm hw hB hz1 hk1 hS1
  obtain ⟨q, hp'⟩ := u
  obtain ⟨e1, hB⟩ := hB
  subst e1
  exact kk _ hp' hw H1 locs1 ls (by rw [← ht]; exact hB.1) hB.2.1 hS1 hl
end C1
section C2
variable {g : GP} {l : Launch} {y : MethodName} {cc : ByteArray} {nL : Nat} {R : Room} {G : GT} {ce sl pc : Nat} {L : List (Nat × Value)} {st : List Value} {A : Nat → Nat → Nat} {τ σ' : CS} {X : va_W}
theorem c_iald (hG : IsG g l y cc nL R G) {k o f n : Nat} {i : Int32} {j : Nat} (d : decode cc pc = .ok (.iaload, 1)) (ha : AC g A k o f n) (hi : inb i n = true) (hj : i.toNatClampNeg = j) (kk : G ce sl (wC g A τ X) L (pc + 1) (.int (τ.2.1 o f j) :: st)) : G ce sl (wC g A τ X) L pc (.int i :: .ref (A o f) :: st) := by
  subst hj
  exact g_iald hG d (ha τ X).1 (inb_in hi) kk
theorem c_iast (hG : IsG g l y cc nL R G) {k o f n : Nat} {i x : Int32} {j : Nat} (hσ : σ' = sa τ o f (upd (τ.2.1 o f) j x)) (d : decode cc pc = .ok (.iastore, 1)) (ha : AC g A k o f n) (hi : inb i n = true) (hj : i.toNatClampNeg = j) (kk : G ce sl (wC g A σ' X) L (pc + 1) st) : G ce sl (wC g A τ X) L pc (.int x :: .int i :: .ref (A o f) :: st) := by
  subst hσ
  subst hj
  rw [← (ha τ X).2 _] at kk
  exact g_iast hG d (ha τ X).1 (inb_in hi) kk
theorem c_alen (hG : IsG g l y cc nL R G) {k o f n : Nat} {v : Int32} (d : decode cc pc = .ok (.arraylength, 1)) (ha : AC g A k o f n) (hv : Int32.ofNat n = v) (kk : G ce sl (wC g A τ X) L (pc + 1) (.int v :: st)) : G ce sl (wC g A τ X) L pc (.ref (A o f) :: st) := by
  subst hv
  exact g_alen hG d (ha τ X).1 kk
theorem c_copy (hG : IsG g l y cc nL R G) {idx k0 k1 o0 f0 o1 f1 n0 n1 : Nat} {sp dp n : Int32} (hσ : σ' = sa τ o1 f1 (va_cpy (τ.2.1 o0 f0) (τ.2.1 o1 f1) (ix sp) (ix dp) (ix n))) (d : decode cc pc = .ok (.invokestatic idx, 3)) (h1 : Cond.methodLink y.cls idx arraycopyName ∈ gtb) (h2 : Cond.native arraycopyName ∈ gtb) (h3 : Cond.static arraycopyName ∈ gtb) (h4 : Cond.initialized "java/lang/System" ∈ gtb) (ha0 : AC g A k0 o0 f0 n0) (ha1 : AC g A k1 o1 f1 n1) (hok : cpok sp dp n n0 n1 = true) (hf : 1 ≤ R.frames) (hlo : (st.map fun v => v.category).sum + (nativeFrameWords "java/lang/System" "arraycopy" 5 + 11) ≤ R.locals) (kk : G ce sl (wC g A σ' X) L (pc + 3) st) : G ce sl (wC g A τ X) L pc (.int n :: .int dp :: .ref (A o1 f1) :: .int sp :: .ref (A o0 f0) :: st) := by
  subst hσ
  rw [← (ha1 τ X).2 _] at kk
  exact g_copy hG d h1 h2 h3 h4 (ha0 τ X).1 (ha1 τ X).1 hok hf hlo kk
theorem c_kind (hG : IsG g l y cc nL R G) {i : Int32} (d : decode cc pc = .ok (.aaload, 1)) (hi : inb i 7 = true) (kk : G ce sl (wC g A τ X) L (pc + 1) (.ref (A 7 (ix i + 10)) :: st)) : G ce sl (wC g A τ X) L pc (.int i :: .ref (A 7 7) :: st) := by
  refine g_aald 1 hG (k := 27) d rfl rfl rfl (inb_in hi) ?_
  have h := inb_in hi
  have hlt : i.toNatClampNeg < 7 := Nat.not_le.mp fun q => h (Or.inr q)
  rw [if_pos hlt]
  exact kk
theorem c_num (hG : IsG g l y cc nL R G) {i : Int32} (d : decode cc pc = .ok (.aaload, 1)) (hi : inb i 4 = true) (kk : G ce sl (wC g A τ X) L (pc + 1) (.ref (A 6 (ix i)) :: st)) : G ce sl (wC g A τ X) L pc (.int i :: .ref (A 5 5) :: st) := by
  refine g_aald 2 hG (k := 35) d rfl rfl rfl (inb_in hi) ?_
  have h := inb_in hi
  have hlt : i.toNatClampNeg < 4 := Nat.not_le.mp fun q => h (Or.inr q)
  rw [if_pos hlt]
  exact kk
theorem inb_lt {i : Int32} {n : Nat} (hi : inb i n = true) : ix i < n := Nat.not_le.mp fun q => inb_in hi (Or.inr q)
theorem t_put (f : Nat) (hG : IsG g l y cc nL R G) {idx d0 : Nat} {v : Int32} (hd0 : d0 < 3) (hσ : σ' = si τ d0 f v) (d : decode cc pc = .ok (.putfield idx, 3)) (hlk : Cond.fieldLink y.cls idx RX7 (TX7 f).2.1 (TX7 f).2.2.1 ∈ gtb) (hm : f ∈ [5, 6, 7, 8, 9, 10, 14, 16, 17]) (hf : f < 18) (hfin : (TX7 f).2.2.2 = false) (hn : narrow (tyX7 f) (.int v) = .int v) (hfit : fits (tyX7 f) (.int v) = true) (kk : G ce sl (wC g A σ' X) L (pc + 3) st) : G ce sl (wC g A τ X) L pc (.int v :: .ref (A d0 99) :: st) := by
  subst hσ
  rw [← uS hd0 hm] at kk
  exact g_put hG d (eS hd0) rfl inX7 tyX7_ok nmX7 hf (hTX7 f hf) hlk hfin hn hfit hf kk
theorem t_putN (f : Nat) (hG : IsG g l y cc nL R G) {idx d0 : Nat} {v : Int32} {host : String} (hd0 : d0 < 3) (hσ : σ' = si τ d0 f v) (d : decode cc pc = .ok (.putfield idx, 3)) (hlk : Cond.fieldLinkNest y.cls idx RX7 (TX7 f).2.1 (TX7 f).2.2.1 host ∈ lw_tbl) (hm : f ∈ [5, 6, 7, 8, 9, 10, 14, 16, 17]) (hf : f < 18) (hfin : (TX7 f).2.2.2 = false) (hn : narrow (tyX7 f) (.int v) = .int v) (hfit : fits (tyX7 f) (.int v) = true) (kk : G ce sl (wC g A σ' X) L (pc + 3) st) : G ce sl (wC g A τ X) L pc (.int v :: .ref (A d0 99) :: st) := by
  subst hσ
  rw [← uS hd0 hm] at kk
  exact g_putN hG d (eS hd0) rfl inX7 tyX7_ok nmX7 hf (hTX7 f hf) hlk hfin hn hfit hf kk
theorem t_putL (f : Nat) (hG : IsG g l y cc nL R G) {idx d0 j : Nat} (hd0 : d0 < 3) (hσ : σ' = slw τ d0 f j) (d : decode cc pc = .ok (.putfield idx, 3)) (hlk : Cond.fieldLink y.cls idx RX7 (TX7 f).2.1 (TX7 f).2.2.1 ∈ gtb) (hm : f ∈ [11, 12]) (hf : f < 18) (hfin : (TX7 f).2.2.2 = false) (hn : narrow (tyX7 f) (.ref (A (j + 8) 99)) = .ref (A (j + 8) 99)) (hfit : fits (tyX7 f) (.ref (A (j + 8) 99)) = true) (kk : G ce sl (wC g A σ' X) L (pc + 3) st) : G ce sl (wC g A τ X) L pc (.ref (A (j + 8) 99) :: .ref (A d0 99) :: st) := by
  subst hσ
  rw [← uL hd0 hm] at kk
  exact g_put hG d (eS hd0) rfl inX7 tyX7_ok nmX7 hf (hTX7 f hf) hlk hfin hn hfit hf kk
theorem t_putLN (f : Nat) (hG : IsG g l y cc nL R G) {idx d0 j : Nat} {host : String} (hd0 : d0 < 3) (hσ : σ' = slw τ d0 f j) (d : decode cc pc = .ok (.putfield idx, 3)) (hlk : Cond.fieldLinkNest y.cls idx RX7 (TX7 f).2.1 (TX7 f).2.2.1 host ∈ lw_tbl) (hm : f ∈ [11, 12]) (hf : f < 18) (hfin : (TX7 f).2.2.2 = false) (hn : narrow (tyX7 f) (.ref (A (j + 8) 99)) = .ref (A (j + 8) 99)) (hfit : fits (tyX7 f) (.ref (A (j + 8) 99)) = true) (kk : G ce sl (wC g A σ' X) L (pc + 3) st) : G ce sl (wC g A τ X) L pc (.ref (A (j + 8) 99) :: .ref (A d0 99) :: st) := by
  subst hσ
  rw [← uL hd0 hm] at kk
  exact g_putN hG d (eS hd0) rfl inX7 tyX7_ok nmX7 hf (hTX7 f hf) hlk hfin hn hfit hf kk
theorem q_put (f : Nat) (hG : IsG g l y cc nL R G) {idx : Nat} {v : Int32} (hσ : σ' = si τ 3 f v) (d : decode cc pc = .ok (.putfield idx, 3)) (hlk : Cond.fieldLink y.cls idx RX5 (TX5 f).2.1 (TX5 f).2.2.1 ∈ gtb) (hm : f ∈ [2, 3, 4, 5]) (hf : f < 6) (hfin : (TX5 f).2.2.2 = false) (hn : narrow (tyX5 f) (.int v) = .int v) (hfit : fits (tyX5 f) (.int v) = true) (kk : G ce sl (wC g A σ' X) L (pc + 3) st) : G ce sl (wC g A τ X) L pc (.int v :: .ref (A 3 99) :: st) := by
  subst hσ
  rw [← uQ hm] at kk
  exact g_put hG d (eQ g A τ X) rfl inX5 tyX5_ok nmX5 hf (hTX5 f hf) hlk hfin hn hfit hf kk
theorem p_put (f : Nat) (hG : IsG g l y cc nL R G) {idx : Nat} {v : Int32} (hσ : σ' = si τ 4 f v) (d : decode cc pc = .ok (.putfield idx, 3)) (hlk : Cond.fieldLink y.cls idx RX6 (TX6 f).2.1 (TX6 f).2.2.1 ∈ gtb) (hm : f ∈ [1, 2, 3]) (hf : f < 4) (hfin : (TX6 f).2.2.2 = false) (hn : narrow (tyX6 f) (.int v) = .int v) (hfit : fits (tyX6 f) (.int v) = true) (kk : G ce sl (wC g A σ' X) L (pc + 3) st) : G ce sl (wC g A τ X) L pc (.int v :: .ref (A 4 99) :: st) := by
  subst hσ
  rw [← uP hm] at kk
  exact g_put hG d (eP g A τ X) rfl inX6 tyX6_ok nmX6 hf (hTX6 f hf) hlk hfin hn hfit hf kk
theorem this_put (hG : IsG g l y cc nL R G) {idx : Nat} {v : Int32} (hσ : σ' = si τ 5 9 v) (d : decode cc pc = .ok (.putfield idx, 3)) (hlk : Cond.fieldLink y.cls idx RX11 (TX11 9).2.1 (TX11 9).2.2.1 ∈ gtb) (kk : G ce sl (wC g A σ' X) L (pc + 3) st) : G ce sl (wC g A τ X) L pc (.int v :: .ref (A 5 99) :: st) := by
  subst hσ
  rw [← uT] at kk
  exact g_put hG d (eT g A τ X) rfl inX11 tyX11_ok nmX11 (f := 9) (by decide) rfl hlk rfl rfl rfl (by show 9 < 10; decide) kk
end C2

theorem v_X11_103 : Cond.methodLink RX11 103 Lib.Math.max.name ∈ gtb := (gtb_of (tm 274 (by decide +kernel)) rfl)
theorem v_X11_215 : Cond.methodLink RX11 215 Lib.Math.min.name ∈ gtb := (gtb_of (tm 647 (by decide +kernel)) rfl)
theorem v_X11_280 : Cond.methodLink RX11 280 arraycopyName ∈ gtb := (gtb_of (tm 832 (by decide +kernel)) rfl)
theorem v_X2_15 : Cond.methodLink RX2 15 Lib.Math.min.name ∈ gtb := (gtb_of (tm 366 (by decide +kernel)) rfl)
theorem v_X3_15 : Cond.methodLink RX3 15 Lib.Math.min.name ∈ gtb := (gtb_of (tm 371 (by decide +kernel)) rfl)
theorem v_X4_30 : Cond.methodLink RX4 30 Lib.Math.min.name ∈ gtb := (gtb_of (tm 309 (by decide +kernel)) rfl)
theorem v_X4_35 : Cond.methodLink RX4 35 Lib.Math.max.name ∈ gtb := (gtb_of (tm 312 (by decide +kernel)) rfl)
theorem v_X5_18 : Cond.methodLink RX5 18 arraycopyName ∈ gtb := (gtb_of (tm 424 (by decide +kernel)) rfl)
theorem v_X7_48 : Cond.methodLink RX7 48 arraycopyName ∈ gtb := (gtb_of (tm 616 (by decide +kernel)) rfl)
theorem v_X7_103 : Cond.methodLink RX7 103 Lib.Math.max.name ∈ gtb := (gtb_of (tm 344 (by decide +kernel)) rfl)
theorem v_X7_123 : Cond.methodLink RX7 123 Lib.Math.min.name ∈ gtb := (gtb_of (tm 581 (by decide +kernel)) rfl)
theorem v_X9_7 : Cond.methodLink RX9 7 Lib.Math.min.name ∈ gtb := (gtb_of (tm 356 (by decide +kernel)) rfl)
theorem st_min : Cond.static Lib.Math.min.name ∈ gtb := (gtb_of (tm 310 (by decide +kernel)) rfl)
theorem co_min : Cond.code Lib.Math.min.name Lib.Math.min.code 2 (some .int) ∈ gtb := (gtb_of (tm 311 (by decide +kernel)) rfl)
theorem st_max : Cond.static Lib.Math.max.name ∈ gtb := (gtb_of (tm 275 (by decide +kernel)) rfl)
theorem co_max : Cond.code Lib.Math.max.name Lib.Math.max.code 2 (some .int) ∈ gtb := (gtb_of (tm 276 (by decide +kernel)) rfl)
theorem in_Math : Cond.initialized "java/lang/Math" ∈ gtb := (gtb_of (tm 14 (by decide +kernel)) rfl)
theorem na_ac : Cond.native arraycopyName ∈ gtb := (gtb_of (tm 426 (by decide +kernel)) rfl)
theorem st_ac : Cond.static arraycopyName ∈ gtb := (gtb_of (tm 425 (by decide +kernel)) rfl)
theorem in_System : Cond.initialized "java/lang/System" ∈ gtb := (gtb_of (tm 15 (by decide +kernel)) rfl)
