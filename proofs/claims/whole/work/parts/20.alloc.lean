/-! rows that make cells; the order of a world's cells doesn't matter -/
section AL
variable {g : GP} {l : Launch} {y : MethodName} {cc : ByteArray} {nL : Nat} {R : Room} {G : GT} {ce sl pc : Nat} {hp : va_W} {L : List (Nat × Value)} {st : List Value}
theorem g_widen (hG : IsG g l y cc nL R G) {k n : Nat} (h1 : ce ≤ k) (h2 : sl ≤ n) (kk : G k n hp L pc st) : G ce sl hp L pc st := by
  obtain ⟨p, e, s, m, args, below, meth, c, Q, hx, hb, hml, hown, hts, hK, hlk, hnm, rfl⟩ := hG
  intro H locs ls hP hD hS hl
  exact W.widen h1 h2 (kk H locs ls hP hD hS hl)
theorem va_D.ofPerm {A : Nat → Prop} {ws ws' : va_W} (h : ws.Perm ws') (hD : va_D A ws) : va_D A ws' := by
  have hn : (ws.map Prod.fst).Nodup := by
    rw [List.nodup_iff_pairwise_ne, List.pairwise_iff_getElem]
    intro i j hi hj hij e
    rw [List.length_map] at hi hj
    rw [List.getElem_map, List.getElem_map] at e
    have := hD.1 i j ws[i] ws[j] (List.getElem?_eq_getElem hi) (List.getElem?_eq_getElem hj) e
    omega
  have hn' : (ws'.map Prod.fst).Nodup := (h.map Prod.fst).nodup_iff.mp hn
  rw [List.nodup_iff_pairwise_ne, List.pairwise_iff_getElem] at hn'
  refine ⟨fun i j p q hi hj e => ?_, fun k q hk => ?_⟩
  · obtain ⟨hi1, hi2⟩ := List.getElem?_eq_some_iff.mp hi
    obtain ⟨hj1, hj2⟩ := List.getElem?_eq_some_iff.mp hj
    rcases Nat.lt_trichotomy i j with c | c | c
    · exact absurd (by rw [List.getElem_map, List.getElem_map, hi2, hj2]; exact e) (hn' i j (by rw [List.length_map]; exact hi1) (by rw [List.length_map]; exact hj1) c)
    · exact c
    · exact absurd (by rw [List.getElem_map, List.getElem_map, hi2, hj2]; exact e.symm) (hn' j i (by rw [List.length_map]; exact hj1) (by rw [List.length_map]; exact hi1) c)
  · obtain ⟨i, hi⟩ := List.getElem?_of_mem (h.mem_iff.mpr (List.mem_of_getElem? hk))
    exact hD.2 i q hi
theorem va_P.ofPerm {D : va_G} {cl : List vw_C} {ws ws' : va_W} {H : Heap} (h : ws.Perm ws') (hP : va_P D cl ws H) : va_P D cl ws' H := by
  intro k q hk
  obtain ⟨i, hi⟩ := List.getElem?_of_mem (h.mem_iff.mpr (List.mem_of_getElem? hk))
  exact hP i q hi
theorem g_perm (hG : IsG g l y cc nL R G) {hp' : va_W} (h : hp.Perm hp') (k : G ce sl hp' L pc st) : G ce sl hp L pc st := by
  obtain ⟨p, e, s, m, args, below, meth, c, Q, hx, hb, hml, hown, hts, hK, hlk, hnm, rfl⟩ := hG
  intro H locs ls hP hD hS hl
  exact k H locs ls (va_P.ofPerm h hP) (va_D.ofPerm h hD) hS hl
theorem g_newa (hG : IsG g l y cc nL R G) {n : Int32} {N : Nat} (d : decode cc pc = .ok (.newarray .int, 2)) (hw : Cond.arrayClass .int ∈ gtb) (hn : ¬ n < 0) (hN : n.toNatClampNeg = N) (hb1 : N * 4 ≤ 536870912) (hc : ce + 1 ≤ R.cells) (hs : sl + N ≤ R.slots) (kk : ∀ q : Nat, G (ce + 1) (sl + N) (hp ++ [(q, .inl (g.2.1 0, N, .inl (fun _ => 0)))]) L (pc + 2) (.ref q :: st)) : G ce sl hp L pc (.int n :: st) := by
  obtain ⟨p, e, s, m, args, below, meth, c, Q, hx, hb, hml, hown, hts, hK, hlk, hnm, rfl⟩ := hG
  intro H locs ls hP hD hS hl
  refine va_newa (atype := .int) (a0 := (N, .inl (fun _ => 0))) (ty := .int) hx hb (hts _ hw) rfl hK.1 hP hD hS (gA_new hK) (fun cA => rfl) hn hN hb1 hc hs d (fun q cA H1 hK1 hP1 hD1 hS1 => ?_)
  have e : cA = g.2.1 0 := by
    have h1 : s.vm.findClass ("[" ++ FieldType.int.toString) = some cA := (hK1.2 3 (cA, .int) rfl).2
    have h2 : s.vm.findClass ("[" ++ FieldType.int.toString) = some (g.2.1 0) := (hK.1.2 0 (g.2.1 0, .int) rfl).2
    exact Option.some.inj (h1.symm.trans h2)
  subst e
  exact kk q H1 locs ls hP1 hD1 hS1 hl
theorem g_new (hG : IsG g l y cc nL R G) {idx ci N : Nat} {C : String} {T : u_T} {ty : Nat → FieldType} {fs : List Value} (d : decode cc pc = .ok (.new idx, 3)) (hc : vwCl[ci]? = some (C, T, N)) (hin : ∀ w ∈ u_ws C T N, w ∈ gtb) (hty : ∀ k, k < N → parseFieldDescriptor (T k).2.2.1 = some (ty k)) (h1 : Cond.classLink y.cls idx C ∈ gtb) (h2 : Cond.instantiable C N ∈ gtb) (h3 : Cond.initialized C ∈ gtb) (hfs : ∀ j, j < N → defaultValue (ty j) = vp_V fs j) (hce : ce + 1 ≤ R.cells) (hsl : sl + N ≤ R.slots) (kk : ∀ q : Nat, G (ce + 1) (sl + N) (hp ++ [(q, .inr (ci, fs))]) L (pc + 3) (.ref q :: st)) : G ce sl hp L pc st := by
  obtain ⟨p, e, s, m, args, below, meth, c, Q, hx, hb, hml, hown, hts, hK, hlk, hnm, rfl⟩ := hG
  intro H locs ls hP hD hS hl
  exact va_new hx hb hts hin ty hty hown (hts _ h1) (hts _ h2) (hts _ h3) hK.1 hP hD hS (gA_new hK) hc hfs hce hsl d (fun q H1 hP1 hD1 hS1 => kk q H1 locs ls hP1 hD1 hS1 hl)
theorem g_obj (hG : IsG g l y cc nL R G) {idx a : Nat} (d : decode cc pc = .ok (.invokespecial idx, 3)) (h1 : Cond.methodLink y.cls idx Lib.objectInit ∈ gtb) (h2 : Cond.instanceMethod Lib.objectInit ∈ gtb) (h3 : Cond.code Lib.objectInit ⟨#[0xb1]⟩ 1 none ∈ gtb) (hf : 1 ≤ R.frames) (hlo : (st.map fun v => v.category).sum + 12 ≤ R.locals) (kk : G ce sl hp L (pc + 3) st) : G ce sl hp L pc (.ref a :: st) := by
  obtain ⟨p, e, s, m, args, below, meth, c, Q, hx, hb, hml, hown, hts, hK, hlk, hnm, rfl⟩ := hG
  intro H locs ls hP hD hS hl
  exact W.objInit hx hb hown (hts _ h1) (hts _ h2) (hts _ h3) rfl (hl.1.trans hml.symm) rfl d hf (by simpa [JFrame.monitorRoom] using hlo) (kk H locs ls hP hD hS hl)
variable {y' : MethodName} {cc' : ByteArray} {nL' n idx : Nat} {rm : Room} {As : List Value}
theorem g_callI (hG : IsG g l y cc nL R G) {a : Nat} {post : va_W → Prop} (d : decode cc pc = .ok (.invokespecial idx, 3)) (hM : CV g l y' cc' nL' rm (.ref a :: As) hp post) (b : LkB y' cc' nL' none n) (lk : Cond.methodLink y.cls idx y' ∈ gtb ∧ Cond.instanceMethod y' ∈ gtb ∧ y'.name = "<init>") (hn : As.length = n) (hR : rm.frames + 1 ≤ R.frames ∧ 8 + (nL' + 11) + rm.locals ≤ R.locals) (hf : ce + rm.cells ≤ R.cells ∧ sl + rm.slots ≤ R.slots) (st0 : List Value) (hst0 : st0 = As.reverse ++ .ref a :: st) (hst : (st.map fun v => v.category).sum ≤ 8)
    (kk : ∀ hp' : va_W, post hp' → G (ce + rm.cells) (sl + rm.slots) hp' L (pc + 3) st) : G ce sl hp L pc st0 := by
  subst hst0
  obtain ⟨p, e, s, m, args, below, meth, c, Q, hx, hb, hml, hown, hts, hK, hlk, hnm, rfl⟩ := hG
  intro H locs ls hP hD hS hl
  refine va_callv (va_runI (As := As) (rest := st) ⟨hx, hb, hml, hown, hts⟩ hM ⟨callB_g hts b lk.1 hR, lk.2.2, hts _ lk.2.1⟩ ⟨CP.blind _ _ _, fun U hU hW => ⟨rfl, by rw [hU]; exact hP, hD, hK.moved hW (by rw [hU]; exact hS.1) (fun q h1 h2 => by rw [hU]; exact hS.2.1 q h1 h2)⟩⟩ rfl hn hl.1 rfl (lv_room hst) d hf) hS (fun q _ h => h) (fun q h => h) (fun u t H1 locs ht hvm hw hB hz1 hk1 hS => ?_)
  exact kk u hw H1 locs ls (by rw [← ht]; exact hB.1) hB.2.1 hS hl
theorem g_callIN (hG : IsG g l y cc nL R G) {a : Nat} {host : String} {post : va_W → Prop} (d : decode cc pc = .ok (.invokespecial idx, 3)) (hM : CV g l y' cc' nL' rm (.ref a :: As) hp post) (b : LkB y' cc' nL' none n) (lk : Cond.methodLinkNest y.cls idx y' host ∈ lw_tbl ∧ Cond.instanceMethod y' ∈ gtb ∧ y'.name = "<init>") (hn : As.length = n) (hR : rm.frames + 1 ≤ R.frames ∧ 8 + (nL' + 11) + rm.locals ≤ R.locals) (hf : ce + rm.cells ≤ R.cells ∧ sl + rm.slots ≤ R.slots) (st0 : List Value) (hst0 : st0 = As.reverse ++ .ref a :: st) (hst : (st.map fun v => v.category).sum ≤ 8)
    (kk : ∀ hp' : va_W, post hp' → G (ce + rm.cells) (sl + rm.slots) hp' L (pc + 3) st) : G ce sl hp L pc st0 := by
  subst hst0
  obtain ⟨p, e, s, m, args, below, meth, c, Q, hx, hb, hml, hown, hts, hK, hlk, hnm, rfl⟩ := hG
  intro H locs ls hP hD hS hl
  refine va_callv (va_runIN (As := As) (rest := st) (host := host) ⟨hx, hb, hml, hown, hts⟩ hM ⟨va_cnB n hts (tbl_goodIn (fun _ h => h) b.1) rfl rfl rfl (hK.2.2.1 _ lk.1 rfl) (hts _ b.2.1) b.2.2 hR, lk.2.2, hts _ lk.2.1⟩ ⟨CP.blind _ _ _, fun U hU hW => ⟨rfl, by rw [hU]; exact hP, hD, hK.moved hW (by rw [hU]; exact hS.1) (fun q h1 h2 => by rw [hU]; exact hS.2.1 q h1 h2)⟩⟩ rfl hn hl.1 rfl (lv_room hst) d hf) hS (fun q _ h => h) (fun q h => h) (fun u t H1 locs ht hvm hw hB hz1 hk1 hS => ?_)
  exact kk u hw H1 locs ls (by rw [← ht]; exact hB.1) hB.2.1 hS hl
end AL
