section SU2
variable {p : Program} {l : Launch} {e : Env} {R : Room} {s : State} {m : MethodId} {args : Array Value} {below : List Frame} {meth : Method} {c : Code}
theorem va_runSU2 {H : Heap} {locs : List Loc} {cells slots : Nat} {y : MethodName} {xc : String} {bytes cc : ByteArray} {maxL nL mc ms n index : Nat} {ret : Option FieldType} {ws : List Cond} {rm : Room} {Pc : Array Value → State → Prop} {Qc : Array Value → State → Outcome → State → Prop} {free : Addr → Prop} {Ts : List Cond} {own C : String} {cC : ClassId} {b : Addr} {As rest : List Value} {g : JFrame}
    (hat : ClassAt s C cC) (S : CallFix p m c cc nL s args Ts own) (hM : Met l y ws rm Pc Qc mc ms free)
    (hrc : rm.cells = mc) (hrs : rm.slots = ms) (hfr : rm.frames + 1 ≤ R.frames) (hlo : 8 + (maxL + 11) + rm.locals ≤ R.locals) (hws : ∀ w ∈ ws, ∀ (a' : Array Value) (U : State), s.WarmedH U.vm → w.before a' U = true) (hcw : Cond.code y bytes maxL ret ∈ ws)
    (hl1 : (Cond.methodLink own index ⟨xc, y.name, y.desc⟩).before args s = true) (hl2 : (Cond.sameMethod xc y.cls y.name y.desc).before args s = true) (hl3 : (Cond.superclass own xc).before args s = true) (hl3b : (Cond.superclass xc y.cls).before args s = true) (hl4 : (Cond.instanceMethod y).before args s = true) (hini : (Cond.initialized y.cls).before args s = true) (hcode : (Cond.code y bytes maxL ret).before args s = true) (hno : y.name ≠ "<init>") (hlen : ∀ sig, parseMethodDescriptor y.desc = some sig → n = sig.parameters.length)
    (hp : PreV s H C b Pc As)
    (hg : g.method = m) (hn : As.length = n) (hsize : g.locals.size = nL) (hstack : g.stack = As.reverse ++ .ref b :: rest) (hW : 2 * g.monitorRoom + (rest.map fun v => v.category).sum ≤ 8) (hdg : decode cc g.pc = .ok (.invokespecial index, 3)) (hf : cells + mc ≤ R.cells ∧ slots + ms ≤ R.slots) :
    va_Run p l e R s m args below meth c H locs cells slots mc ms g rest (Qc (Value.ref b :: As).toArray) (free) := by
  have hK : Back l R p e below s args y 3 8 (PreOf R mc ms Pc) (PostOf Qc mc ms free) := back_of (bytes := bytes) (maxL := maxL) (ret := ret) hM hp.1 hrc hrs hfr hlo hws hcw (fun a' U hW => word_at hW (Or.inl (by first | rfl | simp [Cond.onTables, Cond.keeps, Cond.steady])) hini)
  obtain ⟨hx, hb, hml, ho, -⟩ := S
  obtain ⟨-, ⟨cellB, hcB, hoB, hclB⟩, hPc⟩ := hp
  obtain ⟨hfc, kB, hkB, -⟩ := hat
  cases hfc.symm.trans hclB
  intro T hT X
  obtain ⟨mk, methM, hnamed, hmethM, hstM, habM⟩ := Cond.instanceMethod_spec hl4
  obtain ⟨methM', cM, hmethM', -, -, -, -, -, -, hsigM⟩ := Cond.code_spec hnamed hcode
  cases hmethM.symm.trans hmethM'
  obtain ⟨ps, dk, kp, hps, hdk, hkp, hsuper, -, -, hnid⟩ := Cond.superclass_spec ho hl3
  obtain ⟨ps2, dk2, kp2, hps2, hdk2, hkp2, hsuper2, -, -, -⟩ := Cond.superclass_spec hps hl3b
  have hn1 : s.methodNamed? ⟨y.cls, y.name, y.desc⟩ = some mk := hnamed
  have hpm : ps2 = mk.cls := Option.some.inj (hps2.symm.trans (findClass_of_methodNamed hnamed))
  have hsz : 0 < s.vm.classes.size := by
    have := (Array.getElem?_eq_some_iff.mp hdk2).1
    omega
  have hsub : s.vm.isSubclass ps mk.cls = true := by
    rw [← hpm]
    unfold Vm.isSubclass
    obtain ⟨q, hq⟩ : ∃ q, s.vm.classes.size = q + 1 := ⟨s.vm.classes.size - 1, by omega⟩
    rw [hq]
    simp [Vm.isSubclassAux, hdk2, hsuper2]
  obtain ⟨vm₁, X₁, hstep₁⟩ := X.invokespecialUp (x := ⟨xc, y.name, y.desc⟩) hx ho hl1 hl2 hn1 hmethM hstM habM hno hdk hnid hps hsuper hsub (a := b) (cell := cellB) (by rw [hT]; exact hcB)
    (fun z h => by rw [h] at hoB; cases hoB) hkB (g := g) hg (argsL := As) (rest := rest) (hn.trans (hlen _ hsigM)) hstack (by rw [hb]; exact hdg)
  obtain ⟨v, ⟨U', l2, c2, s2⟩, X', ⟨g', mk', t, L, e1, e2, hq, h1, hL, h2, h3⟩, hsteps⟩ := hK m meth c ⟨T.setVm vm₁, locs, cells, slots⟩ { g with stack := rest } (.invokespecial index) mk (Value.ref b :: As).toArray X₁ hg (hsize.trans hml.symm) (by rw [hb]; exact hdg) hW (X₁.named hnamed) ⟨hf.1, hf.2, hPc (T.setVm vm₁) hT X₁.warmed⟩
  dsimp only [Pt.U, Pt.locs, Pt.cells, Pt.slots] at X' e1 e2 h1 h2 h3 hsteps
  subst h1; subst h2; subst h3
  exact ⟨v, (T.setVm vm₁).calling g' mk' (Value.ref b :: As).toArray, t, U', L, hT, X', hL, e1, e2, hq, fun target h => hstep₁ _ (by rw [doInvoke_state]; exact hsteps.trans h)⟩
end SU2
section SU3
variable {g : GP} {l : Launch} {y : MethodName} {cc : ByteArray} {nL : Nat} {R : Room} {G : GT} {ce sl pc : Nat} {hp : va_W} {L : List (Nat × Value)} {st : List Value}
variable {y' : MethodName} {cc' : ByteArray} {nL' n idx : Nat} {ret : Option FieldType} {rm : Room} {As : List Value}
def LkSU2 (own : String) (idx : Nat) (xc : String) (y : MethodName) : Prop := Cond.methodLink own idx ⟨xc, y.name, y.desc⟩ ∈ gtb ∧ Cond.sameMethod xc y.cls y.name y.desc ∈ gtb ∧ Cond.superclass own xc ∈ gtb ∧ Cond.superclass xc y.cls ∈ gtb ∧ Cond.instanceMethod y ∈ gtb ∧ y.name ≠ "<init>"
theorem g_cSU2 (hG : IsG g l y cc nL R G) {q : vw_C} {xc : String} {k a ci : Nat} {fs : List Value} {v : Int32} {hp' : va_W} (d : decode cc pc = .ok (.invokespecial idx, 3)) (hM : CI g l y' cc' nL' ret rm (.ref a :: As) hp (fun r w => r = v ∧ w = hp')) (b : LkB y' cc' nL' ret n) (lk : LkSU2 y.cls idx xc y') (hn : As.length = n) (he : hp[k]? = some (a, .inr (ci, fs))) (hc : vwCl[ci]? = some q) (hR : rm.frames + 1 ≤ R.frames ∧ 8 + (nL' + 11) + rm.locals ≤ R.locals) (hz : rm.cells = 0 ∧ rm.slots = 0) (hf : ce ≤ R.cells ∧ sl ≤ R.slots) (st0 : List Value) (hst0 : st0 = As.reverse ++ .ref a :: st) (hst : (st.map fun v => v.category).sum ≤ 8)
    (kk : G ce sl hp' L (pc + 3) (.int v :: st)) : G ce sl hp L pc st0 := by
  subst hst0
  obtain ⟨p, e, s, m, args, below, meth, c, Q, hx, hb, hml, hown, hts, hK, hlk, hnm, rfl⟩ := hG
  intro H locs ls hP hD hS hl
  obtain ⟨k1, k2, k3, k3b, k4, k5⟩ := lk
  have hgi := tbl_goodIn (big := gtb) (fun _ h => h) b.1
  refine va_calli (va_runSU2 (As := As) (rest := st) (C := q.1) (hK.1.1 ci q hc).2 ⟨hx, hb, hml, hown, hts⟩ hM rfl rfl hR.1 hR.2 (pay_in hts hgi) List.mem_cons_self (hts _ k1) (hts _ k2) (hts _ k3) (hts _ k3b) (hts _ k4) (hts _ b.2.1) (hts _ b.1) k5 (fun sig hsig => by have h2 := b.2.2.2.2; rw [hsig] at h2; exact (Option.some.inj h2).symm) ⟨CP.blind _ _ _, va_recv hK.1 hP hc he, fun U hU hW => ⟨rfl, by rw [hU]; exact hP, hD, hK.moved hW (by rw [hU]; exact hS.1) (fun q h1 h2 => by rw [hU]; exact hS.2.1 q h1 h2)⟩⟩ rfl hn hl.1 rfl (lv_room hst) d (by rw [hz.1, hz.2]; exact hf)) hS (fun q _ h => h) (fun q h => h) (fun r u t H1 locs ht hvm hw hB hz1 hk1 hS => ?_)
  rw [hz.1, hz.2]
  obtain ⟨rfl, rfl⟩ := hw
  exact kk H1 locs ls (by rw [← ht]; exact hB.1) hB.2.1 hS hl
end SU3
theorem w_X2_27 : LkSU2 RX2 27 "SweptRound$SweptKind" yX10_blocks := ⟨(gtb_of (tm 794 (by decide +kernel)) rfl), (gtb_of (tm 795 (by decide +kernel)) rfl), (gtb_of (tm 64 (by decide +kernel)) rfl), (gtb_of (tm 43 (by decide +kernel)) rfl), (gtb_of (tm 776 (by decide +kernel)) rfl), by decide⟩
theorem w_X0_30 : LkSU2 RX0 30 "SweptRound$WaitedKind" yX10_blocks := ⟨(gtb_of (tm 786 (by decide +kernel)) rfl), (gtb_of (tm 787 (by decide +kernel)) rfl), (gtb_of (tm 78 (by decide +kernel)) rfl), (gtb_of (tm 57 (by decide +kernel)) rfl), (gtb_of (tm 776 (by decide +kernel)) rfl), by decide⟩
def N_K10_falls (κ : Nat) (x2 : Int32) (σ : CS) : Option (Int32 × CS) := (ob (N_P_begin (10 : Int32) σ) fun v1 σ2 => (some ((x2 + (σ2.1 4 2)), σ2)))
set_option maxRecDepth 100000 in
set_option maxHeartbeats 4000000 in
theorem c_N_K10_falls {g : GP} {l : Launch} {A : Nat → Nat → Nat} {X : va_W} {v9 : Int32} {s9 : CS} {κ : Nat} (hκ : κ < 7) {x2 : Int32} {σ : CS} (h : N_K10_falls κ x2 σ = some (v9, s9)) : CI g l yX10_falls cX10_falls 3 (some .int) { frames := 1, cells := 0, slots := 0, locals := 21 } [.ref (A 7 (κ + 10)), .ref (A 4 99), .int x2] (wC g A σ X) (fun r0 w => r0 = v9 ∧ w = wC g A s9 X) := by
  refine CI.mk (by decide) (Nat.le_of_ble_eq_true rfl) (fun G hG hret => ?_)
  have K : ∀ L pc, decode cX10_falls pc = .ok (.ireturn, 1) → G 0 0 (wC g A s9 X) L pc [.int v9] := fun L pc d => hret _ L pc v9 d rfl ⟨rfl, rfl⟩
  unfold N_K10_falls at h
  refine g_aload_n hG dX10_falls_0 rfl ?_
  refine g_bipushv hG dX10_falls_1 kb_10 ?_
  obtain ⟨v1, σ2, q3, h⟩ := ob_some h
  refine g_cVv hG dX10_falls_3 (c_N_P_begin q3) b_X6_begin v_X10_7 rfl (eP g A _ X) rfl ⟨Nat.le_of_ble_eq_true rfl, Nat.le_of_ble_eq_true rfl⟩ ⟨rfl, rfl⟩ ⟨Nat.zero_le _, Nat.zero_le _⟩ _ rfl (Nat.le_of_ble_eq_true rfl) ?_
  refine g_iload_n hG dX10_falls_6 rfl ?_
  refine g_aload_n hG dX10_falls_7 rfl ?_
  refine g_getN (f := 2) hG dX10_falls_8 (eP g A _ X) rfl inX6 (by decide) rfl f_X10_13 rfl ?_
  refine g_iadd hG dX10_falls_11 ?_
  cases h
  exact K _ _ dX10_falls_12
def N_K8_falls (κ : Nat) (x2 : Int32) (σ : CS) : Option (Int32 × CS) := (ob (N_P_begin (20 : Int32) σ) fun v1 σ2 => (ob (N_K10_falls κ x2 σ2) fun v4 σ5 => (some ((v4 * (3 : Int32)), σ5))))
set_option maxRecDepth 100000 in
set_option maxHeartbeats 4000000 in
theorem c_N_K8_falls {g : GP} {l : Launch} {A : Nat → Nat → Nat} {X : va_W} {v9 : Int32} {s9 : CS} {κ : Nat} (hκ : κ < 7) {x2 : Int32} {σ : CS} (h : N_K8_falls κ x2 σ = some (v9, s9)) : CI g l yX8_falls cX8_falls 3 (some .int) { frames := 2, cells := 0, slots := 0, locals := 43 } [.ref (A 7 (κ + 10)), .ref (A 4 99), .int x2] (wC g A σ X) (fun r0 w => r0 = v9 ∧ w = wC g A s9 X) := by
  refine CI.mk (by decide) (Nat.le_of_ble_eq_true rfl) (fun G hG hret => ?_)
  have K : ∀ L pc, decode cX8_falls pc = .ok (.ireturn, 1) → G 0 0 (wC g A s9 X) L pc [.int v9] := fun L pc d => hret _ L pc v9 d rfl ⟨rfl, rfl⟩
  unfold N_K8_falls at h
  refine g_aload_n hG dX8_falls_0 rfl ?_
  refine g_bipushv hG dX8_falls_1 kb_20 ?_
  obtain ⟨v1, σ2, q3, h⟩ := ob_some h
  refine g_cVv hG dX8_falls_3 (c_N_P_begin q3) b_X6_begin v_X8_7 rfl (eP g A _ X) rfl ⟨Nat.le_of_ble_eq_true rfl, Nat.le_of_ble_eq_true rfl⟩ ⟨rfl, rfl⟩ ⟨Nat.zero_le _, Nat.zero_le _⟩ _ rfl (Nat.le_of_ble_eq_true rfl) ?_
  refine g_aload_n hG dX8_falls_6 rfl ?_
  refine g_aload_n hG dX8_falls_7 rfl ?_
  refine g_iload_n hG dX8_falls_8 rfl ?_
  obtain ⟨v4, σ5, q6, h⟩ := ob_some h
  refine g_cSU hG dX8_falls_9 (c_N_K10_falls hκ q6) b_X10_falls w_X8_13 rfl (eKd hκ) (kcl_ok hκ) ⟨Nat.le_of_ble_eq_true rfl, Nat.le_of_ble_eq_true rfl⟩ ⟨rfl, rfl⟩ ⟨Nat.zero_le _, Nat.zero_le _⟩ _ rfl (Nat.le_of_ble_eq_true rfl) ?_
  refine g_iconstv hG dX8_falls_12 ki_3 ?_
  refine g_imul hG dX8_falls_13 ?_
  cases h
  exact K _ _ dX8_falls_14
def D_falls (κ : Nat) (x1 : Int32) (σ : CS) : Option (Int32 × CS) := match κ with
  | 0 => N_K10_falls κ x1 σ
  | 1 => N_K8_falls κ x1 σ
  | 2 => N_K10_falls κ x1 σ
  | 3 => N_K10_falls κ x1 σ
  | 4 => N_K8_falls κ x1 σ
  | 5 => N_K10_falls κ x1 σ
  | _ => N_K10_falls κ x1 σ
def N_K10_sweeps (κ : Nat) (x2 : Int32) (σ : CS) : Option (Int32 × CS) := (ob (N_P_begin (12 : Int32) σ) fun v1 σ2 => (some ((x2 - (σ2.1 4 3)), σ2)))
set_option maxRecDepth 100000 in
set_option maxHeartbeats 4000000 in
theorem c_N_K10_sweeps {g : GP} {l : Launch} {A : Nat → Nat → Nat} {X : va_W} {v9 : Int32} {s9 : CS} {κ : Nat} (hκ : κ < 7) {x2 : Int32} {σ : CS} (h : N_K10_sweeps κ x2 σ = some (v9, s9)) : CI g l yX10_sweeps cX10_sweeps 3 (some .int) { frames := 1, cells := 0, slots := 0, locals := 21 } [.ref (A 7 (κ + 10)), .ref (A 4 99), .int x2] (wC g A σ X) (fun r0 w => r0 = v9 ∧ w = wC g A s9 X) := by
  refine CI.mk (by decide) (Nat.le_of_ble_eq_true rfl) (fun G hG hret => ?_)
  have K : ∀ L pc, decode cX10_sweeps pc = .ok (.ireturn, 1) → G 0 0 (wC g A s9 X) L pc [.int v9] := fun L pc d => hret _ L pc v9 d rfl ⟨rfl, rfl⟩
  unfold N_K10_sweeps at h
  refine g_aload_n hG dX10_sweeps_0 rfl ?_
  refine g_bipushv hG dX10_sweeps_1 kb_12 ?_
  obtain ⟨v1, σ2, q3, h⟩ := ob_some h
  refine g_cVv hG dX10_sweeps_3 (c_N_P_begin q3) b_X6_begin v_X10_7 rfl (eP g A _ X) rfl ⟨Nat.le_of_ble_eq_true rfl, Nat.le_of_ble_eq_true rfl⟩ ⟨rfl, rfl⟩ ⟨Nat.zero_le _, Nat.zero_le _⟩ _ rfl (Nat.le_of_ble_eq_true rfl) ?_
  refine g_iload_n hG dX10_sweeps_6 rfl ?_
  refine g_aload_n hG dX10_sweeps_7 rfl ?_
  refine g_getN (f := 3) hG dX10_sweeps_8 (eP g A _ X) rfl inX6 (by decide) rfl f_X10_23 rfl ?_
  refine g_isub hG dX10_sweeps_11 ?_
  cases h
  exact K _ _ dX10_sweeps_12
def N_K9_sweeps (κ : Nat) (x2 : Int32) (σ : CS) : Option (Int32 × CS) := (ob (N_P_begin (40 : Int32) σ) fun v1 σ2 => (ob (N_K10_sweeps κ x2 σ2) fun v4 σ5 => (some ((-v4), σ5))))
set_option maxRecDepth 100000 in
set_option maxHeartbeats 4000000 in
theorem c_N_K9_sweeps {g : GP} {l : Launch} {A : Nat → Nat → Nat} {X : va_W} {v9 : Int32} {s9 : CS} {κ : Nat} (hκ : κ < 7) {x2 : Int32} {σ : CS} (h : N_K9_sweeps κ x2 σ = some (v9, s9)) : CI g l yX9_sweeps cX9_sweeps 3 (some .int) { frames := 2, cells := 0, slots := 0, locals := 43 } [.ref (A 7 (κ + 10)), .ref (A 4 99), .int x2] (wC g A σ X) (fun r0 w => r0 = v9 ∧ w = wC g A s9 X) := by
  refine CI.mk (by decide) (Nat.le_of_ble_eq_true rfl) (fun G hG hret => ?_)
  have K : ∀ L pc, decode cX9_sweeps pc = .ok (.ireturn, 1) → G 0 0 (wC g A s9 X) L pc [.int v9] := fun L pc d => hret _ L pc v9 d rfl ⟨rfl, rfl⟩
  unfold N_K9_sweeps at h
  refine g_aload_n hG dX9_sweeps_0 rfl ?_
  refine g_bipushv hG dX9_sweeps_1 kb_40 ?_
  obtain ⟨v1, σ2, q3, h⟩ := ob_some h
  refine g_cVv hG dX9_sweeps_3 (c_N_P_begin q3) b_X6_begin v_X9_13 rfl (eP g A _ X) rfl ⟨Nat.le_of_ble_eq_true rfl, Nat.le_of_ble_eq_true rfl⟩ ⟨rfl, rfl⟩ ⟨Nat.zero_le _, Nat.zero_le _⟩ _ rfl (Nat.le_of_ble_eq_true rfl) ?_
  refine g_aload_n hG dX9_sweeps_6 rfl ?_
  refine g_aload_n hG dX9_sweeps_7 rfl ?_
  refine g_iload_n hG dX9_sweeps_8 rfl ?_
  obtain ⟨v4, σ5, q6, h⟩ := ob_some h
  refine g_cSU hG dX9_sweeps_9 (c_N_K10_sweeps hκ q6) b_X10_sweeps w_X9_19 rfl (eKd hκ) (kcl_ok hκ) ⟨Nat.le_of_ble_eq_true rfl, Nat.le_of_ble_eq_true rfl⟩ ⟨rfl, rfl⟩ ⟨Nat.zero_le _, Nat.zero_le _⟩ _ rfl (Nat.le_of_ble_eq_true rfl) ?_
  refine g_ineg hG dX9_sweeps_12 ?_
  cases h
  exact K _ _ dX9_sweeps_13
def N_K0_sweeps (κ : Nat) (x2 : Int32) (σ : CS) : Option (Int32 × CS) := (ob (N_P_begin (70 : Int32) σ) fun v1 σ2 => (ob (N_K9_sweeps κ x2 σ2) fun v4 σ5 => (some ((v4 ^^^ (σ5.1 4 2)), σ5))))
set_option maxRecDepth 100000 in
set_option maxHeartbeats 4000000 in
theorem c_N_K0_sweeps {g : GP} {l : Launch} {A : Nat → Nat → Nat} {X : va_W} {v9 : Int32} {s9 : CS} {κ : Nat} (hκ : κ < 7) {x2 : Int32} {σ : CS} (h : N_K0_sweeps κ x2 σ = some (v9, s9)) : CI g l yX0_sweeps cX0_sweeps 3 (some .int) { frames := 3, cells := 0, slots := 0, locals := 65 } [.ref (A 7 (κ + 10)), .ref (A 4 99), .int x2] (wC g A σ X) (fun r0 w => r0 = v9 ∧ w = wC g A s9 X) := by
  refine CI.mk (by decide) (Nat.le_of_ble_eq_true rfl) (fun G hG hret => ?_)
  have K : ∀ L pc, decode cX0_sweeps pc = .ok (.ireturn, 1) → G 0 0 (wC g A s9 X) L pc [.int v9] := fun L pc d => hret _ L pc v9 d rfl ⟨rfl, rfl⟩
  unfold N_K0_sweeps at h
  refine g_aload_n hG dX0_sweeps_0 rfl ?_
  refine g_bipushv hG dX0_sweeps_1 kb_70 ?_
  obtain ⟨v1, σ2, q3, h⟩ := ob_some h
  refine g_cVv hG dX0_sweeps_3 (c_N_P_begin q3) b_X6_begin v_X0_11 rfl (eP g A _ X) rfl ⟨Nat.le_of_ble_eq_true rfl, Nat.le_of_ble_eq_true rfl⟩ ⟨rfl, rfl⟩ ⟨Nat.zero_le _, Nat.zero_le _⟩ _ rfl (Nat.le_of_ble_eq_true rfl) ?_
  refine g_aload_n hG dX0_sweeps_6 rfl ?_
  refine g_aload_n hG dX0_sweeps_7 rfl ?_
  refine g_iload_n hG dX0_sweeps_8 rfl ?_
  obtain ⟨v4, σ5, q6, h⟩ := ob_some h
  refine g_cSU hG dX0_sweeps_9 (c_N_K9_sweeps hκ q6) b_X9_sweeps w_X0_17 rfl (eKd hκ) (kcl_ok hκ) ⟨Nat.le_of_ble_eq_true rfl, Nat.le_of_ble_eq_true rfl⟩ ⟨rfl, rfl⟩ ⟨Nat.zero_le _, Nat.zero_le _⟩ _ rfl (Nat.le_of_ble_eq_true rfl) ?_
  refine g_aload_n hG dX0_sweeps_12 rfl ?_
  refine g_getN (f := 2) hG dX0_sweeps_13 (eP g A _ X) rfl inX6 (by decide) rfl f_X0_21 rfl ?_
  refine g_ixor hG dX0_sweeps_16 ?_
  cases h
  exact K _ _ dX0_sweeps_17
def D_sweeps (κ : Nat) (x1 : Int32) (σ : CS) : Option (Int32 × CS) := match κ with
  | 0 => N_K10_sweeps κ x1 σ
  | 1 => N_K10_sweeps κ x1 σ
  | 2 => N_K10_sweeps κ x1 σ
  | 3 => N_K9_sweeps κ x1 σ
  | 4 => N_K10_sweeps κ x1 σ
  | 5 => N_K10_sweeps κ x1 σ
  | _ => N_K0_sweeps κ x1 σ
theorem lku_X10_17_0 : LkU RX10 17 "SweptRound$YardKind" "SweptRound$YardKind" ⟨"SweptRound$YardKind", "falls", "(LSweptRound$Speech;I)I"⟩ yX10_falls := ⟨(gtb_of (tm 765 (by decide +kernel)) rfl), (gtb_of (tm 723 (by decide +kernel)) rfl), (gtb_of (tm 721 (by decide +kernel)) rfl), (gtb_of (tm 722 (by decide +kernel)) rfl), (gtb_of (tm 721 (by decide +kernel)) rfl), by decide, by decide, ⟨_, _, _, (b_X10_falls).1⟩, by decide +kernel⟩
theorem lku_X10_17_1 : LkU RX10 17 "SweptRound$SweptKind" "SweptRound$YardKind" ⟨"SweptRound$YardKind", "falls", "(LSweptRound$Speech;I)I"⟩ yX8_falls := ⟨(gtb_of (tm 765 (by decide +kernel)) rfl), (gtb_of (tm 723 (by decide +kernel)) rfl), (gtb_of (tm 721 (by decide +kernel)) rfl), (gtb_of (tm 735 (by decide +kernel)) rfl), (gtb_of (tm 727 (by decide +kernel)) rfl), by decide, by decide, ⟨_, _, _, (b_X10_falls).1⟩, by decide +kernel⟩
theorem lku_X10_17_2 : LkU RX10 17 "SweptRound$CoveredKind" "SweptRound$YardKind" ⟨"SweptRound$YardKind", "falls", "(LSweptRound$Speech;I)I"⟩ yX10_falls := ⟨(gtb_of (tm 765 (by decide +kernel)) rfl), (gtb_of (tm 723 (by decide +kernel)) rfl), (gtb_of (tm 721 (by decide +kernel)) rfl), (gtb_of (tm 725 (by decide +kernel)) rfl), (gtb_of (tm 721 (by decide +kernel)) rfl), by decide, by decide, ⟨_, _, _, (b_X10_falls).1⟩, by decide +kernel⟩
theorem lku_X10_17_3 : LkU RX10 17 "SweptRound$WaitedKind" "SweptRound$YardKind" ⟨"SweptRound$YardKind", "falls", "(LSweptRound$Speech;I)I"⟩ yX10_falls := ⟨(gtb_of (tm 765 (by decide +kernel)) rfl), (gtb_of (tm 723 (by decide +kernel)) rfl), (gtb_of (tm 721 (by decide +kernel)) rfl), (gtb_of (tm 736 (by decide +kernel)) rfl), (gtb_of (tm 721 (by decide +kernel)) rfl), by decide, by decide, ⟨_, _, _, (b_X10_falls).1⟩, by decide +kernel⟩
theorem lku_X10_17_4 : LkU RX10 17 "SweptRound$DoubledKind" "SweptRound$YardKind" ⟨"SweptRound$YardKind", "falls", "(LSweptRound$Speech;I)I"⟩ yX8_falls := ⟨(gtb_of (tm 765 (by decide +kernel)) rfl), (gtb_of (tm 723 (by decide +kernel)) rfl), (gtb_of (tm 721 (by decide +kernel)) rfl), (gtb_of (tm 726 (by decide +kernel)) rfl), (gtb_of (tm 727 (by decide +kernel)) rfl), by decide, by decide, ⟨_, _, _, (b_X10_falls).1⟩, by decide +kernel⟩
theorem lku_X10_17_5 : LkU RX10 17 "SweptRound$EmptyKind" "SweptRound$YardKind" ⟨"SweptRound$YardKind", "falls", "(LSweptRound$Speech;I)I"⟩ yX10_falls := ⟨(gtb_of (tm 765 (by decide +kernel)) rfl), (gtb_of (tm 723 (by decide +kernel)) rfl), (gtb_of (tm 721 (by decide +kernel)) rfl), (gtb_of (tm 734 (by decide +kernel)) rfl), (gtb_of (tm 721 (by decide +kernel)) rfl), by decide, by decide, ⟨_, _, _, (b_X10_falls).1⟩, by decide +kernel⟩
theorem lku_X10_17_6 : LkU RX10 17 "SweptRound$BlownKind" "SweptRound$YardKind" ⟨"SweptRound$YardKind", "falls", "(LSweptRound$Speech;I)I"⟩ yX10_falls := ⟨(gtb_of (tm 765 (by decide +kernel)) rfl), (gtb_of (tm 723 (by decide +kernel)) rfl), (gtb_of (tm 721 (by decide +kernel)) rfl), (gtb_of (tm 724 (by decide +kernel)) rfl), (gtb_of (tm 721 (by decide +kernel)) rfl), by decide, by decide, ⟨_, _, _, (b_X10_falls).1⟩, by decide +kernel⟩
set_option maxRecDepth 100000 in
theorem kc_X10_17 {g : GP} {l : Launch} {y : MethodName} {cc : ByteArray} {nL : Nat} {R : Room} {G : GT} {pc : Nat} {L : List (Nat × Value)} {st : List Value} {A : Nat → Nat → Nat} {σ s9 : CS} {X : va_W} {v9 : Int32} {κ : Nat} {x1 : Int32} (hG : IsG g l y cc nL R G) (d : decode cc pc = .ok (.invokevirtual 17, 3)) (hκ : κ < 7) (h : D_falls κ x1 σ = some (v9, s9)) (st0 : List Value) (hst0 : st0 = [.ref (A 4 99), .int x1].reverse ++ .ref (A 7 (κ + 10)) :: st) (hR : 2 + 1 ≤ R.frames ∧ 8 + (3 + 11) + 43 ≤ R.locals) (hst : (st.map fun v => v.category).sum ≤ 8) (hy : y.cls = RX10) (kk : G 0 0 (wC g A s9 X) L (pc + 3) (.int v9 :: st)) : G 0 0 (wC g A σ X) L pc st0 := by
  rcases (show κ = 0 ∨ κ = 1 ∨ κ = 2 ∨ κ = 3 ∨ κ = 4 ∨ κ = 5 ∨ κ = 6 by omega) with rfl | rfl | rfl | rfl | rfl | rfl | rfl
  · exact g_cU hG d (c_N_K10_falls (by decide) h) b_X10_falls (by rw [hy]; exact lku_X10_17_0) rfl (eKd (κ := 0) (by decide)) rfl ⟨by have := hR.1; show 1 + 1 ≤ _; omega, by have := hR.2; show 8 + (3 + 11) + 21 ≤ _; omega⟩ ⟨rfl, rfl⟩ ⟨Nat.zero_le _, Nat.zero_le _⟩ _ hst0 hst kk
  · exact g_cU hG d (c_N_K8_falls (by decide) h) b_X8_falls (by rw [hy]; exact lku_X10_17_1) rfl (eKd (κ := 1) (by decide)) rfl ⟨by have := hR.1; show 2 + 1 ≤ _; omega, by have := hR.2; show 8 + (3 + 11) + 43 ≤ _; omega⟩ ⟨rfl, rfl⟩ ⟨Nat.zero_le _, Nat.zero_le _⟩ _ hst0 hst kk
  · exact g_cU hG d (c_N_K10_falls (by decide) h) b_X10_falls (by rw [hy]; exact lku_X10_17_2) rfl (eKd (κ := 2) (by decide)) rfl ⟨by have := hR.1; show 1 + 1 ≤ _; omega, by have := hR.2; show 8 + (3 + 11) + 21 ≤ _; omega⟩ ⟨rfl, rfl⟩ ⟨Nat.zero_le _, Nat.zero_le _⟩ _ hst0 hst kk
  · exact g_cU hG d (c_N_K10_falls (by decide) h) b_X10_falls (by rw [hy]; exact lku_X10_17_3) rfl (eKd (κ := 3) (by decide)) rfl ⟨by have := hR.1; show 1 + 1 ≤ _; omega, by have := hR.2; show 8 + (3 + 11) + 21 ≤ _; omega⟩ ⟨rfl, rfl⟩ ⟨Nat.zero_le _, Nat.zero_le _⟩ _ hst0 hst kk
  · exact g_cU hG d (c_N_K8_falls (by decide) h) b_X8_falls (by rw [hy]; exact lku_X10_17_4) rfl (eKd (κ := 4) (by decide)) rfl ⟨by have := hR.1; show 2 + 1 ≤ _; omega, by have := hR.2; show 8 + (3 + 11) + 43 ≤ _; omega⟩ ⟨rfl, rfl⟩ ⟨Nat.zero_le _, Nat.zero_le _⟩ _ hst0 hst kk
  · exact g_cU hG d (c_N_K10_falls (by decide) h) b_X10_falls (by rw [hy]; exact lku_X10_17_5) rfl (eKd (κ := 5) (by decide)) rfl ⟨by have := hR.1; show 1 + 1 ≤ _; omega, by have := hR.2; show 8 + (3 + 11) + 21 ≤ _; omega⟩ ⟨rfl, rfl⟩ ⟨Nat.zero_le _, Nat.zero_le _⟩ _ hst0 hst kk
  · exact g_cU hG d (c_N_K10_falls (by decide) h) b_X10_falls (by rw [hy]; exact lku_X10_17_6) rfl (eKd (κ := 6) (by decide)) rfl ⟨by have := hR.1; show 1 + 1 ≤ _; omega, by have := hR.2; show 8 + (3 + 11) + 21 ≤ _; omega⟩ ⟨rfl, rfl⟩ ⟨Nat.zero_le _, Nat.zero_le _⟩ _ hst0 hst kk
theorem lku_X1_17_2 : LkU RX1 17 "SweptRound$CoveredKind" "SweptRound$YardKind" ⟨"SweptRound$CoveredKind", "sweeps", "(LSweptRound$Speech;I)I"⟩ yX10_sweeps := ⟨(gtb_of (tm 749 (by decide +kernel)) rfl), (gtb_of (tm 750 (by decide +kernel)) rfl), (gtb_of (tm 754 (by decide +kernel)) rfl), (gtb_of (tm 752 (by decide +kernel)) rfl), (gtb_of (tm 754 (by decide +kernel)) rfl), by decide, by decide, ⟨_, _, _, (b_X10_sweeps).1⟩, by decide +kernel⟩
theorem lku_X1_17_5 : LkU RX1 17 "SweptRound$EmptyKind" "SweptRound$YardKind" ⟨"SweptRound$CoveredKind", "sweeps", "(LSweptRound$Speech;I)I"⟩ yX10_sweeps := ⟨(gtb_of (tm 749 (by decide +kernel)) rfl), (gtb_of (tm 750 (by decide +kernel)) rfl), (gtb_of (tm 754 (by decide +kernel)) rfl), (gtb_of (tm 753 (by decide +kernel)) rfl), (gtb_of (tm 754 (by decide +kernel)) rfl), by decide, by decide, ⟨_, _, _, (b_X10_sweeps).1⟩, by decide +kernel⟩
set_option maxRecDepth 100000 in
theorem kc_X1_17 {g : GP} {l : Launch} {y : MethodName} {cc : ByteArray} {nL : Nat} {R : Room} {G : GT} {pc : Nat} {L : List (Nat × Value)} {st : List Value} {A : Nat → Nat → Nat} {σ s9 : CS} {X : va_W} {v9 : Int32} {κ : Nat} {x1 : Int32} (hG : IsG g l y cc nL R G) (d : decode cc pc = .ok (.invokevirtual 17, 3)) (hκ : κ = 2 ∨ κ = 5) (h : D_sweeps κ x1 σ = some (v9, s9)) (st0 : List Value) (hst0 : st0 = [.ref (A 4 99), .int x1].reverse ++ .ref (A 7 (κ + 10)) :: st) (hR : 1 + 1 ≤ R.frames ∧ 8 + (3 + 11) + 21 ≤ R.locals) (hst : (st.map fun v => v.category).sum ≤ 8) (hy : y.cls = RX1) (kk : G 0 0 (wC g A s9 X) L (pc + 3) (.int v9 :: st)) : G 0 0 (wC g A σ X) L pc st0 := by
  rcases hκ with rfl | rfl
  · exact g_cU hG d (c_N_K10_sweeps (by decide) h) b_X10_sweeps (by rw [hy]; exact lku_X1_17_2) rfl (eKd (κ := 2) (by decide)) rfl ⟨by have := hR.1; show 1 + 1 ≤ _; omega, by have := hR.2; show 8 + (3 + 11) + 21 ≤ _; omega⟩ ⟨rfl, rfl⟩ ⟨Nat.zero_le _, Nat.zero_le _⟩ _ hst0 hst kk
  · exact g_cU hG d (c_N_K10_sweeps (by decide) h) b_X10_sweeps (by rw [hy]; exact lku_X1_17_5) rfl (eKd (κ := 5) (by decide)) rfl ⟨by have := hR.1; show 1 + 1 ≤ _; omega, by have := hR.2; show 8 + (3 + 11) + 21 ≤ _; omega⟩ ⟨rfl, rfl⟩ ⟨Nat.zero_le _, Nat.zero_le _⟩ _ hst0 hst kk
def N_K10_moves (κ : Nat) (x2 : Int32) (σ : CS) : Option (Int32 × CS) := (ob (N_P_begin (11 : Int32) σ) fun v1 σ2 => (ob (D_falls κ x2 σ2) fun v4 σ5 => (some ((v4 * (2 : Int32)), σ5))))
set_option maxRecDepth 100000 in
set_option maxHeartbeats 4000000 in
theorem c_N_K10_moves {g : GP} {l : Launch} {A : Nat → Nat → Nat} {X : va_W} {v9 : Int32} {s9 : CS} {κ : Nat} (hκ : κ < 7) {x2 : Int32} {σ : CS} (h : N_K10_moves κ x2 σ = some (v9, s9)) : CI g l yX10_moves cX10_moves 3 (some .int) { frames := 3, cells := 0, slots := 0, locals := 65 } [.ref (A 7 (κ + 10)), .ref (A 4 99), .int x2] (wC g A σ X) (fun r0 w => r0 = v9 ∧ w = wC g A s9 X) := by
  refine CI.mk (by decide) (Nat.le_of_ble_eq_true rfl) (fun G hG hret => ?_)
  have K : ∀ L pc, decode cX10_moves pc = .ok (.ireturn, 1) → G 0 0 (wC g A s9 X) L pc [.int v9] := fun L pc d => hret _ L pc v9 d rfl ⟨rfl, rfl⟩
  unfold N_K10_moves at h
  refine g_aload_n hG dX10_moves_0 rfl ?_
  refine g_bipushv hG dX10_moves_1 kb_11 ?_
  obtain ⟨v1, σ2, q3, h⟩ := ob_some h
  refine g_cVv hG dX10_moves_3 (c_N_P_begin q3) b_X6_begin v_X10_7 rfl (eP g A _ X) rfl ⟨Nat.le_of_ble_eq_true rfl, Nat.le_of_ble_eq_true rfl⟩ ⟨rfl, rfl⟩ ⟨Nat.zero_le _, Nat.zero_le _⟩ _ rfl (Nat.le_of_ble_eq_true rfl) ?_
  refine g_aload_n hG dX10_moves_6 rfl ?_
  refine g_aload_n hG dX10_moves_7 rfl ?_
  refine g_iload_n hG dX10_moves_8 rfl ?_
  obtain ⟨v4, σ5, q6, h⟩ := ob_some h
  refine kc_X10_17 hG dX10_moves_9 hκ q6 _ rfl ⟨Nat.le_of_ble_eq_true rfl, Nat.le_of_ble_eq_true rfl⟩ (Nat.le_of_ble_eq_true rfl) rfl ?_
  refine g_iconstv hG dX10_moves_12 ki_2 ?_
  refine g_imul hG dX10_moves_13 ?_
  cases h
  exact K _ _ dX10_moves_14
def N_K1_moves (κ : Nat) (x2 : Int32) (σ : CS) : Option (Int32 × CS) := (ob (N_P_begin (30 : Int32) σ) fun v1 σ2 => (ob (N_K10_moves κ x2 σ2) fun v4 σ5 => (ob (D_sweeps κ (1 : Int32) σ5) fun v7 σ8 => (some ((v4 - v7), σ8)))))
set_option maxRecDepth 100000 in
set_option maxHeartbeats 4000000 in
theorem c_N_K1_moves {g : GP} {l : Launch} {A : Nat → Nat → Nat} {X : va_W} {v9 : Int32} {s9 : CS} {κ : Nat} (hκ : κ < 7) (hκ2 : κ = 2 ∨ κ = 5) {x2 : Int32} {σ : CS} (h : N_K1_moves κ x2 σ = some (v9, s9)) : CI g l yX1_moves cX1_moves 3 (some .int) { frames := 4, cells := 0, slots := 0, locals := 87 } [.ref (A 7 (κ + 10)), .ref (A 4 99), .int x2] (wC g A σ X) (fun r0 w => r0 = v9 ∧ w = wC g A s9 X) := by
  refine CI.mk (by decide) (Nat.le_of_ble_eq_true rfl) (fun G hG hret => ?_)
  have K : ∀ L pc, decode cX1_moves pc = .ok (.ireturn, 1) → G 0 0 (wC g A s9 X) L pc [.int v9] := fun L pc d => hret _ L pc v9 d rfl ⟨rfl, rfl⟩
  unfold N_K1_moves at h
  refine g_aload_n hG dX1_moves_0 rfl ?_
  refine g_bipushv hG dX1_moves_1 kb_30 ?_
  obtain ⟨v1, σ2, q3, h⟩ := ob_some h
  refine g_cVv hG dX1_moves_3 (c_N_P_begin q3) b_X6_begin v_X1_7 rfl (eP g A _ X) rfl ⟨Nat.le_of_ble_eq_true rfl, Nat.le_of_ble_eq_true rfl⟩ ⟨rfl, rfl⟩ ⟨Nat.zero_le _, Nat.zero_le _⟩ _ rfl (Nat.le_of_ble_eq_true rfl) ?_
  refine g_aload_n hG dX1_moves_6 rfl ?_
  refine g_aload_n hG dX1_moves_7 rfl ?_
  refine g_iload_n hG dX1_moves_8 rfl ?_
  obtain ⟨v4, σ5, q6, h⟩ := ob_some h
  refine g_cSU hG dX1_moves_9 (c_N_K10_moves hκ q6) b_X10_moves w_X1_13 rfl (eKd hκ) (kcl_ok hκ) ⟨Nat.le_of_ble_eq_true rfl, Nat.le_of_ble_eq_true rfl⟩ ⟨rfl, rfl⟩ ⟨Nat.zero_le _, Nat.zero_le _⟩ _ rfl (Nat.le_of_ble_eq_true rfl) ?_
  refine g_aload_n hG dX1_moves_12 rfl ?_
  refine g_aload_n hG dX1_moves_13 rfl ?_
  refine g_iconstv hG dX1_moves_14 ki_1 ?_
  obtain ⟨v7, σ8, q9, h⟩ := ob_some h
  refine kc_X1_17 hG dX1_moves_15 (by omega) q9 _ rfl ⟨Nat.le_of_ble_eq_true rfl, Nat.le_of_ble_eq_true rfl⟩ (Nat.le_of_ble_eq_true rfl) rfl ?_
  refine g_isub hG dX1_moves_18 ?_
  cases h
  exact K _ _ dX1_moves_19
def N_K3_moves (κ : Nat) (x2 : Int32) (σ : CS) : Option (Int32 × CS) := (ob (N_P_begin (60 : Int32) σ) fun v1 σ2 => (ob (N_K1_moves κ (x2 + (1 : Int32)) σ2) fun v4 σ5 => (some (v4, σ5))))
set_option maxRecDepth 100000 in
set_option maxHeartbeats 4000000 in
theorem c_N_K3_moves {g : GP} {l : Launch} {A : Nat → Nat → Nat} {X : va_W} {v9 : Int32} {s9 : CS} {κ : Nat} (hκ : κ < 7) (hκ2 : κ = 5) {x2 : Int32} {σ : CS} (h : N_K3_moves κ x2 σ = some (v9, s9)) : CI g l yX3_moves cX3_moves 3 (some .int) { frames := 5, cells := 0, slots := 0, locals := 109 } [.ref (A 7 (κ + 10)), .ref (A 4 99), .int x2] (wC g A σ X) (fun r0 w => r0 = v9 ∧ w = wC g A s9 X) := by
  refine CI.mk (by decide) (Nat.le_of_ble_eq_true rfl) (fun G hG hret => ?_)
  have K : ∀ L pc, decode cX3_moves pc = .ok (.ireturn, 1) → G 0 0 (wC g A s9 X) L pc [.int v9] := fun L pc d => hret _ L pc v9 d rfl ⟨rfl, rfl⟩
  unfold N_K3_moves at h
  refine g_aload_n hG dX3_moves_0 rfl ?_
  refine g_bipushv hG dX3_moves_1 kb_60 ?_
  obtain ⟨v1, σ2, q3, h⟩ := ob_some h
  refine g_cVv hG dX3_moves_3 (c_N_P_begin q3) b_X6_begin v_X3_21 rfl (eP g A _ X) rfl ⟨Nat.le_of_ble_eq_true rfl, Nat.le_of_ble_eq_true rfl⟩ ⟨rfl, rfl⟩ ⟨Nat.zero_le _, Nat.zero_le _⟩ _ rfl (Nat.le_of_ble_eq_true rfl) ?_
  refine g_aload_n hG dX3_moves_6 rfl ?_
  refine g_aload_n hG dX3_moves_7 rfl ?_
  refine g_iload_n hG dX3_moves_8 rfl ?_
  refine g_iconstv hG dX3_moves_9 ki_1 ?_
  refine g_iadd hG dX3_moves_10 ?_
  obtain ⟨v4, σ5, q6, h⟩ := ob_some h
  refine g_cSU hG dX3_moves_11 (c_N_K1_moves hκ (by omega) q6) b_X1_moves w_X3_27 rfl (eKd hκ) (kcl_ok hκ) ⟨Nat.le_of_ble_eq_true rfl, Nat.le_of_ble_eq_true rfl⟩ ⟨rfl, rfl⟩ ⟨Nat.zero_le _, Nat.zero_le _⟩ _ rfl (Nat.le_of_ble_eq_true rfl) ?_
  cases h
  exact K _ _ dX3_moves_14
def D_moves (κ : Nat) (x1 : Int32) (σ : CS) : Option (Int32 × CS) := match κ with
  | 0 => N_K10_moves κ x1 σ
  | 1 => N_K10_moves κ x1 σ
  | 2 => N_K1_moves κ x1 σ
  | 3 => N_K10_moves κ x1 σ
  | 4 => N_K10_moves κ x1 σ
  | 5 => N_K3_moves κ x1 σ
  | _ => N_K10_moves κ x1 σ
theorem lku_X10_26_0 : LkU RX10 26 "SweptRound$YardKind" "SweptRound$YardKind" ⟨"SweptRound$YardKind", "moves", "(LSweptRound$Speech;I)I"⟩ yX10_moves := ⟨(gtb_of (tm 804 (by decide +kernel)) rfl), (gtb_of (tm 742 (by decide +kernel)) rfl), (gtb_of (tm 740 (by decide +kernel)) rfl), (gtb_of (tm 741 (by decide +kernel)) rfl), (gtb_of (tm 740 (by decide +kernel)) rfl), by decide, by decide, ⟨_, _, _, (b_X10_moves).1⟩, by decide +kernel⟩
theorem lku_X10_26_1 : LkU RX10 26 "SweptRound$SweptKind" "SweptRound$YardKind" ⟨"SweptRound$YardKind", "moves", "(LSweptRound$Speech;I)I"⟩ yX10_moves := ⟨(gtb_of (tm 804 (by decide +kernel)) rfl), (gtb_of (tm 742 (by decide +kernel)) rfl), (gtb_of (tm 740 (by decide +kernel)) rfl), (gtb_of (tm 762 (by decide +kernel)) rfl), (gtb_of (tm 740 (by decide +kernel)) rfl), by decide, by decide, ⟨_, _, _, (b_X10_moves).1⟩, by decide +kernel⟩
theorem lku_X10_26_2 : LkU RX10 26 "SweptRound$CoveredKind" "SweptRound$YardKind" ⟨"SweptRound$YardKind", "moves", "(LSweptRound$Speech;I)I"⟩ yX1_moves := ⟨(gtb_of (tm 804 (by decide +kernel)) rfl), (gtb_of (tm 742 (by decide +kernel)) rfl), (gtb_of (tm 740 (by decide +kernel)) rfl), (gtb_of (tm 744 (by decide +kernel)) rfl), (gtb_of (tm 745 (by decide +kernel)) rfl), by decide, by decide, ⟨_, _, _, (b_X10_moves).1⟩, by decide +kernel⟩
theorem lku_X10_26_3 : LkU RX10 26 "SweptRound$WaitedKind" "SweptRound$YardKind" ⟨"SweptRound$YardKind", "moves", "(LSweptRound$Speech;I)I"⟩ yX10_moves := ⟨(gtb_of (tm 804 (by decide +kernel)) rfl), (gtb_of (tm 742 (by decide +kernel)) rfl), (gtb_of (tm 740 (by decide +kernel)) rfl), (gtb_of (tm 763 (by decide +kernel)) rfl), (gtb_of (tm 740 (by decide +kernel)) rfl), by decide, by decide, ⟨_, _, _, (b_X10_moves).1⟩, by decide +kernel⟩
theorem lku_X10_26_4 : LkU RX10 26 "SweptRound$DoubledKind" "SweptRound$YardKind" ⟨"SweptRound$YardKind", "moves", "(LSweptRound$Speech;I)I"⟩ yX10_moves := ⟨(gtb_of (tm 804 (by decide +kernel)) rfl), (gtb_of (tm 742 (by decide +kernel)) rfl), (gtb_of (tm 740 (by decide +kernel)) rfl), (gtb_of (tm 756 (by decide +kernel)) rfl), (gtb_of (tm 740 (by decide +kernel)) rfl), by decide, by decide, ⟨_, _, _, (b_X10_moves).1⟩, by decide +kernel⟩
theorem lku_X10_26_5 : LkU RX10 26 "SweptRound$EmptyKind" "SweptRound$YardKind" ⟨"SweptRound$YardKind", "moves", "(LSweptRound$Speech;I)I"⟩ yX3_moves := ⟨(gtb_of (tm 804 (by decide +kernel)) rfl), (gtb_of (tm 742 (by decide +kernel)) rfl), (gtb_of (tm 740 (by decide +kernel)) rfl), (gtb_of (tm 757 (by decide +kernel)) rfl), (gtb_of (tm 758 (by decide +kernel)) rfl), by decide, by decide, ⟨_, _, _, (b_X10_moves).1⟩, by decide +kernel⟩
theorem lku_X10_26_6 : LkU RX10 26 "SweptRound$BlownKind" "SweptRound$YardKind" ⟨"SweptRound$YardKind", "moves", "(LSweptRound$Speech;I)I"⟩ yX10_moves := ⟨(gtb_of (tm 804 (by decide +kernel)) rfl), (gtb_of (tm 742 (by decide +kernel)) rfl), (gtb_of (tm 740 (by decide +kernel)) rfl), (gtb_of (tm 743 (by decide +kernel)) rfl), (gtb_of (tm 740 (by decide +kernel)) rfl), by decide, by decide, ⟨_, _, _, (b_X10_moves).1⟩, by decide +kernel⟩
set_option maxRecDepth 100000 in
theorem kc_X10_26 {g : GP} {l : Launch} {y : MethodName} {cc : ByteArray} {nL : Nat} {R : Room} {G : GT} {pc : Nat} {L : List (Nat × Value)} {st : List Value} {A : Nat → Nat → Nat} {σ s9 : CS} {X : va_W} {v9 : Int32} {κ : Nat} {x1 : Int32} (hG : IsG g l y cc nL R G) (d : decode cc pc = .ok (.invokevirtual 26, 3)) (hκ : κ < 7) (h : D_moves κ x1 σ = some (v9, s9)) (st0 : List Value) (hst0 : st0 = [.ref (A 4 99), .int x1].reverse ++ .ref (A 7 (κ + 10)) :: st) (hR : 5 + 1 ≤ R.frames ∧ 8 + (3 + 11) + 109 ≤ R.locals) (hst : (st.map fun v => v.category).sum ≤ 8) (hy : y.cls = RX10) (kk : G 0 0 (wC g A s9 X) L (pc + 3) (.int v9 :: st)) : G 0 0 (wC g A σ X) L pc st0 := by
  rcases (show κ = 0 ∨ κ = 1 ∨ κ = 2 ∨ κ = 3 ∨ κ = 4 ∨ κ = 5 ∨ κ = 6 by omega) with rfl | rfl | rfl | rfl | rfl | rfl | rfl
  · exact g_cU hG d (c_N_K10_moves (by decide) h) b_X10_moves (by rw [hy]; exact lku_X10_26_0) rfl (eKd (κ := 0) (by decide)) rfl ⟨by have := hR.1; show 3 + 1 ≤ _; omega, by have := hR.2; show 8 + (3 + 11) + 65 ≤ _; omega⟩ ⟨rfl, rfl⟩ ⟨Nat.zero_le _, Nat.zero_le _⟩ _ hst0 hst kk
  · exact g_cU hG d (c_N_K10_moves (by decide) h) b_X10_moves (by rw [hy]; exact lku_X10_26_1) rfl (eKd (κ := 1) (by decide)) rfl ⟨by have := hR.1; show 3 + 1 ≤ _; omega, by have := hR.2; show 8 + (3 + 11) + 65 ≤ _; omega⟩ ⟨rfl, rfl⟩ ⟨Nat.zero_le _, Nat.zero_le _⟩ _ hst0 hst kk
  · exact g_cU hG d (c_N_K1_moves (by decide) (by decide) h) b_X1_moves (by rw [hy]; exact lku_X10_26_2) rfl (eKd (κ := 2) (by decide)) rfl ⟨by have := hR.1; show 4 + 1 ≤ _; omega, by have := hR.2; show 8 + (3 + 11) + 87 ≤ _; omega⟩ ⟨rfl, rfl⟩ ⟨Nat.zero_le _, Nat.zero_le _⟩ _ hst0 hst kk
  · exact g_cU hG d (c_N_K10_moves (by decide) h) b_X10_moves (by rw [hy]; exact lku_X10_26_3) rfl (eKd (κ := 3) (by decide)) rfl ⟨by have := hR.1; show 3 + 1 ≤ _; omega, by have := hR.2; show 8 + (3 + 11) + 65 ≤ _; omega⟩ ⟨rfl, rfl⟩ ⟨Nat.zero_le _, Nat.zero_le _⟩ _ hst0 hst kk
  · exact g_cU hG d (c_N_K10_moves (by decide) h) b_X10_moves (by rw [hy]; exact lku_X10_26_4) rfl (eKd (κ := 4) (by decide)) rfl ⟨by have := hR.1; show 3 + 1 ≤ _; omega, by have := hR.2; show 8 + (3 + 11) + 65 ≤ _; omega⟩ ⟨rfl, rfl⟩ ⟨Nat.zero_le _, Nat.zero_le _⟩ _ hst0 hst kk
  · exact g_cU hG d (c_N_K3_moves (by decide) (by decide) h) b_X3_moves (by rw [hy]; exact lku_X10_26_5) rfl (eKd (κ := 5) (by decide)) rfl ⟨by have := hR.1; show 5 + 1 ≤ _; omega, by have := hR.2; show 8 + (3 + 11) + 109 ≤ _; omega⟩ ⟨rfl, rfl⟩ ⟨Nat.zero_le _, Nat.zero_le _⟩ _ hst0 hst kk
  · exact g_cU hG d (c_N_K10_moves (by decide) h) b_X10_moves (by rw [hy]; exact lku_X10_26_6) rfl (eKd (κ := 6) (by decide)) rfl ⟨by have := hR.1; show 3 + 1 ≤ _; omega, by have := hR.2; show 8 + (3 + 11) + 65 ≤ _; omega⟩ ⟨rfl, rfl⟩ ⟨Nat.zero_le _, Nat.zero_le _⟩ _ hst0 hst kk
theorem lku_X10_29_0 : LkU RX10 29 "SweptRound$YardKind" "SweptRound$YardKind" ⟨"SweptRound$YardKind", "sweeps", "(LSweptRound$Speech;I)I"⟩ yX10_sweeps := ⟨(gtb_of (tm 805 (by decide +kernel)) rfl), (gtb_of (tm 1297 (by decide +kernel)) rfl), (gtb_of (tm 754 (by decide +kernel)) rfl), (gtb_of (tm 1305 (by decide +kernel)) rfl), (gtb_of (tm 754 (by decide +kernel)) rfl), by decide, by decide, ⟨_, _, _, (b_X10_sweeps).1⟩, by decide +kernel⟩
theorem lku_X10_29_1 : LkU RX10 29 "SweptRound$SweptKind" "SweptRound$YardKind" ⟨"SweptRound$YardKind", "sweeps", "(LSweptRound$Speech;I)I"⟩ yX10_sweeps := ⟨(gtb_of (tm 805 (by decide +kernel)) rfl), (gtb_of (tm 1297 (by decide +kernel)) rfl), (gtb_of (tm 754 (by decide +kernel)) rfl), (gtb_of (tm 1303 (by decide +kernel)) rfl), (gtb_of (tm 754 (by decide +kernel)) rfl), by decide, by decide, ⟨_, _, _, (b_X10_sweeps).1⟩, by decide +kernel⟩
theorem lku_X10_29_2 : LkU RX10 29 "SweptRound$CoveredKind" "SweptRound$YardKind" ⟨"SweptRound$YardKind", "sweeps", "(LSweptRound$Speech;I)I"⟩ yX10_sweeps := ⟨(gtb_of (tm 805 (by decide +kernel)) rfl), (gtb_of (tm 1297 (by decide +kernel)) rfl), (gtb_of (tm 754 (by decide +kernel)) rfl), (gtb_of (tm 1300 (by decide +kernel)) rfl), (gtb_of (tm 754 (by decide +kernel)) rfl), by decide, by decide, ⟨_, _, _, (b_X10_sweeps).1⟩, by decide +kernel⟩
theorem lku_X10_29_3 : LkU RX10 29 "SweptRound$WaitedKind" "SweptRound$YardKind" ⟨"SweptRound$YardKind", "sweeps", "(LSweptRound$Speech;I)I"⟩ yX9_sweeps := ⟨(gtb_of (tm 805 (by decide +kernel)) rfl), (gtb_of (tm 1297 (by decide +kernel)) rfl), (gtb_of (tm 754 (by decide +kernel)) rfl), (gtb_of (tm 1304 (by decide +kernel)) rfl), (gtb_of (tm 771 (by decide +kernel)) rfl), by decide, by decide, ⟨_, _, _, (b_X10_sweeps).1⟩, by decide +kernel⟩
theorem lku_X10_29_4 : LkU RX10 29 "SweptRound$DoubledKind" "SweptRound$YardKind" ⟨"SweptRound$YardKind", "sweeps", "(LSweptRound$Speech;I)I"⟩ yX10_sweeps := ⟨(gtb_of (tm 805 (by decide +kernel)) rfl), (gtb_of (tm 1297 (by decide +kernel)) rfl), (gtb_of (tm 754 (by decide +kernel)) rfl), (gtb_of (tm 1301 (by decide +kernel)) rfl), (gtb_of (tm 754 (by decide +kernel)) rfl), by decide, by decide, ⟨_, _, _, (b_X10_sweeps).1⟩, by decide +kernel⟩
theorem lku_X10_29_5 : LkU RX10 29 "SweptRound$EmptyKind" "SweptRound$YardKind" ⟨"SweptRound$YardKind", "sweeps", "(LSweptRound$Speech;I)I"⟩ yX10_sweeps := ⟨(gtb_of (tm 805 (by decide +kernel)) rfl), (gtb_of (tm 1297 (by decide +kernel)) rfl), (gtb_of (tm 754 (by decide +kernel)) rfl), (gtb_of (tm 1302 (by decide +kernel)) rfl), (gtb_of (tm 754 (by decide +kernel)) rfl), by decide, by decide, ⟨_, _, _, (b_X10_sweeps).1⟩, by decide +kernel⟩
theorem lku_X10_29_6 : LkU RX10 29 "SweptRound$BlownKind" "SweptRound$YardKind" ⟨"SweptRound$YardKind", "sweeps", "(LSweptRound$Speech;I)I"⟩ yX0_sweeps := ⟨(gtb_of (tm 805 (by decide +kernel)) rfl), (gtb_of (tm 1297 (by decide +kernel)) rfl), (gtb_of (tm 754 (by decide +kernel)) rfl), (gtb_of (tm 1298 (by decide +kernel)) rfl), (gtb_of (tm 767 (by decide +kernel)) rfl), by decide, by decide, ⟨_, _, _, (b_X10_sweeps).1⟩, by decide +kernel⟩
set_option maxRecDepth 100000 in
theorem kc_X10_29 {g : GP} {l : Launch} {y : MethodName} {cc : ByteArray} {nL : Nat} {R : Room} {G : GT} {pc : Nat} {L : List (Nat × Value)} {st : List Value} {A : Nat → Nat → Nat} {σ s9 : CS} {X : va_W} {v9 : Int32} {κ : Nat} {x1 : Int32} (hG : IsG g l y cc nL R G) (d : decode cc pc = .ok (.invokevirtual 29, 3)) (hκ : κ < 7) (h : D_sweeps κ x1 σ = some (v9, s9)) (st0 : List Value) (hst0 : st0 = [.ref (A 4 99), .int x1].reverse ++ .ref (A 7 (κ + 10)) :: st) (hR : 3 + 1 ≤ R.frames ∧ 8 + (3 + 11) + 65 ≤ R.locals) (hst : (st.map fun v => v.category).sum ≤ 8) (hy : y.cls = RX10) (kk : G 0 0 (wC g A s9 X) L (pc + 3) (.int v9 :: st)) : G 0 0 (wC g A σ X) L pc st0 := by
  rcases (show κ = 0 ∨ κ = 1 ∨ κ = 2 ∨ κ = 3 ∨ κ = 4 ∨ κ = 5 ∨ κ = 6 by omega) with rfl | rfl | rfl | rfl | rfl | rfl | rfl
  · exact g_cU hG d (c_N_K10_sweeps (by decide) h) b_X10_sweeps (by rw [hy]; exact lku_X10_29_0) rfl (eKd (κ := 0) (by decide)) rfl ⟨by have := hR.1; show 1 + 1 ≤ _; omega, by have := hR.2; show 8 + (3 + 11) + 21 ≤ _; omega⟩ ⟨rfl, rfl⟩ ⟨Nat.zero_le _, Nat.zero_le _⟩ _ hst0 hst kk
  · exact g_cU hG d (c_N_K10_sweeps (by decide) h) b_X10_sweeps (by rw [hy]; exact lku_X10_29_1) rfl (eKd (κ := 1) (by decide)) rfl ⟨by have := hR.1; show 1 + 1 ≤ _; omega, by have := hR.2; show 8 + (3 + 11) + 21 ≤ _; omega⟩ ⟨rfl, rfl⟩ ⟨Nat.zero_le _, Nat.zero_le _⟩ _ hst0 hst kk
  · exact g_cU hG d (c_N_K10_sweeps (by decide) h) b_X10_sweeps (by rw [hy]; exact lku_X10_29_2) rfl (eKd (κ := 2) (by decide)) rfl ⟨by have := hR.1; show 1 + 1 ≤ _; omega, by have := hR.2; show 8 + (3 + 11) + 21 ≤ _; omega⟩ ⟨rfl, rfl⟩ ⟨Nat.zero_le _, Nat.zero_le _⟩ _ hst0 hst kk
  · exact g_cU hG d (c_N_K9_sweeps (by decide) h) b_X9_sweeps (by rw [hy]; exact lku_X10_29_3) rfl (eKd (κ := 3) (by decide)) rfl ⟨by have := hR.1; show 2 + 1 ≤ _; omega, by have := hR.2; show 8 + (3 + 11) + 43 ≤ _; omega⟩ ⟨rfl, rfl⟩ ⟨Nat.zero_le _, Nat.zero_le _⟩ _ hst0 hst kk
  · exact g_cU hG d (c_N_K10_sweeps (by decide) h) b_X10_sweeps (by rw [hy]; exact lku_X10_29_4) rfl (eKd (κ := 4) (by decide)) rfl ⟨by have := hR.1; show 1 + 1 ≤ _; omega, by have := hR.2; show 8 + (3 + 11) + 21 ≤ _; omega⟩ ⟨rfl, rfl⟩ ⟨Nat.zero_le _, Nat.zero_le _⟩ _ hst0 hst kk
  · exact g_cU hG d (c_N_K10_sweeps (by decide) h) b_X10_sweeps (by rw [hy]; exact lku_X10_29_5) rfl (eKd (κ := 5) (by decide)) rfl ⟨by have := hR.1; show 1 + 1 ≤ _; omega, by have := hR.2; show 8 + (3 + 11) + 21 ≤ _; omega⟩ ⟨rfl, rfl⟩ ⟨Nat.zero_le _, Nat.zero_le _⟩ _ hst0 hst kk
  · exact g_cU hG d (c_N_K0_sweeps (by decide) h) b_X0_sweeps (by rw [hy]; exact lku_X10_29_6) rfl (eKd (κ := 6) (by decide)) rfl ⟨by have := hR.1; show 3 + 1 ≤ _; omega, by have := hR.2; show 8 + (3 + 11) + 65 ≤ _; omega⟩ ⟨rfl, rfl⟩ ⟨Nat.zero_le _, Nat.zero_le _⟩ _ hst0 hst kk
theorem lku_X2_31_4 : LkU RX2 31 "SweptRound$DoubledKind" "SweptRound$SweptKind" ⟨"SweptRound$DoubledKind", "falls", "(LSweptRound$Speech;I)I"⟩ yX8_falls := ⟨(gtb_of (tm 796 (by decide +kernel)) rfl), (gtb_of (tm 797 (by decide +kernel)) rfl), (gtb_of (tm 727 (by decide +kernel)) rfl), (gtb_of (tm 799 (by decide +kernel)) rfl), (gtb_of (tm 727 (by decide +kernel)) rfl), by decide, by decide, ⟨_, _, _, (b_X8_falls).1⟩, by decide +kernel⟩
set_option maxRecDepth 100000 in
theorem kc_X2_31 {g : GP} {l : Launch} {y : MethodName} {cc : ByteArray} {nL : Nat} {R : Room} {G : GT} {pc : Nat} {L : List (Nat × Value)} {st : List Value} {A : Nat → Nat → Nat} {σ s9 : CS} {X : va_W} {v9 : Int32} {κ : Nat} {x1 : Int32} (hG : IsG g l y cc nL R G) (d : decode cc pc = .ok (.invokevirtual 31, 3)) (hκ : κ = 4) (h : D_falls κ x1 σ = some (v9, s9)) (st0 : List Value) (hst0 : st0 = [.ref (A 4 99), .int x1].reverse ++ .ref (A 7 (κ + 10)) :: st) (hR : 2 + 1 ≤ R.frames ∧ 8 + (3 + 11) + 43 ≤ R.locals) (hst : (st.map fun v => v.category).sum ≤ 8) (hy : y.cls = RX2) (kk : G 0 0 (wC g A s9 X) L (pc + 3) (.int v9 :: st)) : G 0 0 (wC g A σ X) L pc st0 := by
  rcases hκ with rfl
  · exact g_cU hG d (c_N_K8_falls (by decide) h) b_X8_falls (by rw [hy]; exact lku_X2_31_4) rfl (eKd (κ := 4) (by decide)) rfl ⟨by have := hR.1; show 2 + 1 ≤ _; omega, by have := hR.2; show 8 + (3 + 11) + 43 ≤ _; omega⟩ ⟨rfl, rfl⟩ ⟨Nat.zero_le _, Nat.zero_le _⟩ _ hst0 hst kk
theorem lku_X0_25_6 : LkU RX0 25 "SweptRound$BlownKind" "SweptRound$YardKind" ⟨"SweptRound$BlownKind", "moves", "(LSweptRound$Speech;I)I"⟩ yX10_moves := ⟨(gtb_of (tm 782 (by decide +kernel)) rfl), (gtb_of (tm 783 (by decide +kernel)) rfl), (gtb_of (tm 740 (by decide +kernel)) rfl), (gtb_of (tm 785 (by decide +kernel)) rfl), (gtb_of (tm 740 (by decide +kernel)) rfl), by decide, by decide, ⟨_, _, _, (b_X10_moves).1⟩, by decide +kernel⟩
set_option maxRecDepth 100000 in
theorem kc_X0_25 {g : GP} {l : Launch} {y : MethodName} {cc : ByteArray} {nL : Nat} {R : Room} {G : GT} {pc : Nat} {L : List (Nat × Value)} {st : List Value} {A : Nat → Nat → Nat} {σ s9 : CS} {X : va_W} {v9 : Int32} {κ : Nat} {x1 : Int32} (hG : IsG g l y cc nL R G) (d : decode cc pc = .ok (.invokevirtual 25, 3)) (hκ : κ = 6) (h : D_moves κ x1 σ = some (v9, s9)) (st0 : List Value) (hst0 : st0 = [.ref (A 4 99), .int x1].reverse ++ .ref (A 7 (κ + 10)) :: st) (hR : 3 + 1 ≤ R.frames ∧ 8 + (3 + 11) + 65 ≤ R.locals) (hst : (st.map fun v => v.category).sum ≤ 8) (hy : y.cls = RX0) (kk : G 0 0 (wC g A s9 X) L (pc + 3) (.int v9 :: st)) : G 0 0 (wC g A σ X) L pc st0 := by
  rcases hκ with rfl
  · exact g_cU hG d (c_N_K10_moves (by decide) h) b_X10_moves (by rw [hy]; exact lku_X0_25_6) rfl (eKd (κ := 6) (by decide)) rfl ⟨by have := hR.1; show 3 + 1 ≤ _; omega, by have := hR.2; show 8 + (3 + 11) + 65 ≤ _; omega⟩ ⟨rfl, rfl⟩ ⟨Nat.zero_le _, Nat.zero_le _⟩ _ hst0 hst kk
def N_K10_blocks (κ : Nat) (x2 : Int32) (σ : CS) : Option (Int32 × CS) := (ob (N_P_begin (13 : Int32) σ) fun v1 σ2 => (ob (D_moves κ x2 σ2) fun v4 σ5 => (ob (D_sweeps κ x2 σ5) fun v7 σ8 => (some ((v4 ^^^ v7), σ8)))))
set_option maxRecDepth 100000 in
set_option maxHeartbeats 4000000 in
theorem c_N_K10_blocks {g : GP} {l : Launch} {A : Nat → Nat → Nat} {X : va_W} {v9 : Int32} {s9 : CS} {κ : Nat} (hκ : κ < 7) {x2 : Int32} {σ : CS} (h : N_K10_blocks κ x2 σ = some (v9, s9)) : CI g l yX10_blocks cX10_blocks 3 (some .int) { frames := 6, cells := 0, slots := 0, locals := 131 } [.ref (A 7 (κ + 10)), .ref (A 4 99), .int x2] (wC g A σ X) (fun r0 w => r0 = v9 ∧ w = wC g A s9 X) := by
  refine CI.mk (by decide) (Nat.le_of_ble_eq_true rfl) (fun G hG hret => ?_)
  have K : ∀ L pc, decode cX10_blocks pc = .ok (.ireturn, 1) → G 0 0 (wC g A s9 X) L pc [.int v9] := fun L pc d => hret _ L pc v9 d rfl ⟨rfl, rfl⟩
  unfold N_K10_blocks at h
  refine g_aload_n hG dX10_blocks_0 rfl ?_
  refine g_bipushv hG dX10_blocks_1 kb_13 ?_
  obtain ⟨v1, σ2, q3, h⟩ := ob_some h
  refine g_cVv hG dX10_blocks_3 (c_N_P_begin q3) b_X6_begin v_X10_7 rfl (eP g A _ X) rfl ⟨Nat.le_of_ble_eq_true rfl, Nat.le_of_ble_eq_true rfl⟩ ⟨rfl, rfl⟩ ⟨Nat.zero_le _, Nat.zero_le _⟩ _ rfl (Nat.le_of_ble_eq_true rfl) ?_
  refine g_aload_n hG dX10_blocks_6 rfl ?_
  refine g_aload_n hG dX10_blocks_7 rfl ?_
  refine g_iload_n hG dX10_blocks_8 rfl ?_
  obtain ⟨v4, σ5, q6, h⟩ := ob_some h
  refine kc_X10_26 hG dX10_blocks_9 hκ q6 _ rfl ⟨Nat.le_of_ble_eq_true rfl, Nat.le_of_ble_eq_true rfl⟩ (Nat.le_of_ble_eq_true rfl) rfl ?_
  refine g_aload_n hG dX10_blocks_12 rfl ?_
  refine g_aload_n hG dX10_blocks_13 rfl ?_
  refine g_iload_n hG dX10_blocks_14 rfl ?_
  obtain ⟨v7, σ8, q9, h⟩ := ob_some h
  refine kc_X10_29 hG dX10_blocks_15 hκ q9 _ rfl ⟨Nat.le_of_ble_eq_true rfl, Nat.le_of_ble_eq_true rfl⟩ (Nat.le_of_ble_eq_true rfl) rfl ?_
  refine g_ixor hG dX10_blocks_18 ?_
  cases h
  exact K _ _ dX10_blocks_19
def N_K2_blocks (κ : Nat) (x2 : Int32) (σ : CS) : Option (Int32 × CS) := (ob (N_P_begin (50 : Int32) σ) fun v1 σ2 => (ob (N_K10_blocks κ x2 σ2) fun v4 σ5 => (ob (D_falls κ (2 : Int32) σ5) fun v7 σ8 => (some ((v4 - v7), σ8)))))
set_option maxRecDepth 100000 in
set_option maxHeartbeats 4000000 in
theorem c_N_K2_blocks {g : GP} {l : Launch} {A : Nat → Nat → Nat} {X : va_W} {v9 : Int32} {s9 : CS} {κ : Nat} (hκ : κ < 7) (hκ2 : κ = 4) {x2 : Int32} {σ : CS} (h : N_K2_blocks κ x2 σ = some (v9, s9)) : CI g l yX2_blocks cX2_blocks 3 (some .int) { frames := 7, cells := 0, slots := 0, locals := 153 } [.ref (A 7 (κ + 10)), .ref (A 4 99), .int x2] (wC g A σ X) (fun r0 w => r0 = v9 ∧ w = wC g A s9 X) := by
  refine CI.mk (by decide) (Nat.le_of_ble_eq_true rfl) (fun G hG hret => ?_)
  have K : ∀ L pc, decode cX2_blocks pc = .ok (.ireturn, 1) → G 0 0 (wC g A s9 X) L pc [.int v9] := fun L pc d => hret _ L pc v9 d rfl ⟨rfl, rfl⟩
  unfold N_K2_blocks at h
  refine g_aload_n hG dX2_blocks_0 rfl ?_
  refine g_bipushv hG dX2_blocks_1 kb_50 ?_
  obtain ⟨v1, σ2, q3, h⟩ := ob_some h
  refine g_cVv hG dX2_blocks_3 (c_N_P_begin q3) b_X6_begin v_X2_21 rfl (eP g A _ X) rfl ⟨Nat.le_of_ble_eq_true rfl, Nat.le_of_ble_eq_true rfl⟩ ⟨rfl, rfl⟩ ⟨Nat.zero_le _, Nat.zero_le _⟩ _ rfl (Nat.le_of_ble_eq_true rfl) ?_
  refine g_aload_n hG dX2_blocks_6 rfl ?_
  refine g_aload_n hG dX2_blocks_7 rfl ?_
  refine g_iload_n hG dX2_blocks_8 rfl ?_
  obtain ⟨v4, σ5, q6, h⟩ := ob_some h
  refine g_cSU2 hG dX2_blocks_9 (c_N_K10_blocks hκ q6) b_X10_blocks w_X2_27 rfl (eKd hκ) (kcl_ok hκ) ⟨Nat.le_of_ble_eq_true rfl, Nat.le_of_ble_eq_true rfl⟩ ⟨rfl, rfl⟩ ⟨Nat.zero_le _, Nat.zero_le _⟩ _ rfl (Nat.le_of_ble_eq_true rfl) ?_
  refine g_aload_n hG dX2_blocks_12 rfl ?_
  refine g_aload_n hG dX2_blocks_13 rfl ?_
  refine g_iconstv hG dX2_blocks_14 ki_2 ?_
  obtain ⟨v7, σ8, q9, h⟩ := ob_some h
  refine kc_X2_31 hG dX2_blocks_15 (by omega) q9 _ rfl ⟨Nat.le_of_ble_eq_true rfl, Nat.le_of_ble_eq_true rfl⟩ (Nat.le_of_ble_eq_true rfl) rfl ?_
  refine g_isub hG dX2_blocks_18 ?_
  cases h
  exact K _ _ dX2_blocks_19
def N_K0_blocks (κ : Nat) (x2 : Int32) (σ : CS) : Option (Int32 × CS) := (ob (N_P_begin (71 : Int32) σ) fun v1 σ2 => (ob (D_moves κ x2 σ2) fun v4 σ5 => (ob (N_K10_blocks κ x2 σ5) fun v7 σ8 => (some ((v4 - v7), σ8)))))
set_option maxRecDepth 100000 in
set_option maxHeartbeats 4000000 in
theorem c_N_K0_blocks {g : GP} {l : Launch} {A : Nat → Nat → Nat} {X : va_W} {v9 : Int32} {s9 : CS} {κ : Nat} (hκ : κ < 7) (hκ2 : κ = 6) {x2 : Int32} {σ : CS} (h : N_K0_blocks κ x2 σ = some (v9, s9)) : CI g l yX0_blocks cX0_blocks 3 (some .int) { frames := 7, cells := 0, slots := 0, locals := 153 } [.ref (A 7 (κ + 10)), .ref (A 4 99), .int x2] (wC g A σ X) (fun r0 w => r0 = v9 ∧ w = wC g A s9 X) := by
  refine CI.mk (by decide) (Nat.le_of_ble_eq_true rfl) (fun G hG hret => ?_)
  have K : ∀ L pc, decode cX0_blocks pc = .ok (.ireturn, 1) → G 0 0 (wC g A s9 X) L pc [.int v9] := fun L pc d => hret _ L pc v9 d rfl ⟨rfl, rfl⟩
  unfold N_K0_blocks at h
  refine g_aload_n hG dX0_blocks_0 rfl ?_
  refine g_bipushv hG dX0_blocks_1 kb_71 ?_
  obtain ⟨v1, σ2, q3, h⟩ := ob_some h
  refine g_cVv hG dX0_blocks_3 (c_N_P_begin q3) b_X6_begin v_X0_11 rfl (eP g A _ X) rfl ⟨Nat.le_of_ble_eq_true rfl, Nat.le_of_ble_eq_true rfl⟩ ⟨rfl, rfl⟩ ⟨Nat.zero_le _, Nat.zero_le _⟩ _ rfl (Nat.le_of_ble_eq_true rfl) ?_
  refine g_aload_n hG dX0_blocks_6 rfl ?_
  refine g_aload_n hG dX0_blocks_7 rfl ?_
  refine g_iload_n hG dX0_blocks_8 rfl ?_
  obtain ⟨v4, σ5, q6, h⟩ := ob_some h
  refine kc_X0_25 hG dX0_blocks_9 (by omega) q6 _ rfl ⟨Nat.le_of_ble_eq_true rfl, Nat.le_of_ble_eq_true rfl⟩ (Nat.le_of_ble_eq_true rfl) rfl ?_
  refine g_aload_n hG dX0_blocks_12 rfl ?_
  refine g_aload_n hG dX0_blocks_13 rfl ?_
  refine g_iload_n hG dX0_blocks_14 rfl ?_
  obtain ⟨v7, σ8, q9, h⟩ := ob_some h
  refine g_cSU2 hG dX0_blocks_15 (c_N_K10_blocks hκ q9) b_X10_blocks w_X0_30 rfl (eKd hκ) (kcl_ok hκ) ⟨Nat.le_of_ble_eq_true rfl, Nat.le_of_ble_eq_true rfl⟩ ⟨rfl, rfl⟩ ⟨Nat.zero_le _, Nat.zero_le _⟩ _ rfl (Nat.le_of_ble_eq_true rfl) ?_
  refine g_isub hG dX0_blocks_18 ?_
  cases h
  exact K _ _ dX0_blocks_19
def D_blocks (κ : Nat) (x1 : Int32) (σ : CS) : Option (Int32 × CS) := match κ with
  | 0 => N_K10_blocks κ x1 σ
  | 1 => N_K10_blocks κ x1 σ
  | 2 => N_K10_blocks κ x1 σ
  | 3 => N_K10_blocks κ x1 σ
  | 4 => N_K2_blocks κ x1 σ
  | 5 => N_K10_blocks κ x1 σ
  | _ => N_K0_blocks κ x1 σ
theorem lku_X11_252_0 : LkU RX11 252 "SweptRound$YardKind" "SweptRound$YardKind" ⟨"SweptRound$YardKind", "falls", "(LSweptRound$Speech;I)I"⟩ yX10_falls := ⟨(gtb_of (tm 720 (by decide +kernel)) rfl), (gtb_of (tm 723 (by decide +kernel)) rfl), (gtb_of (tm 721 (by decide +kernel)) rfl), (gtb_of (tm 722 (by decide +kernel)) rfl), (gtb_of (tm 721 (by decide +kernel)) rfl), by decide, by decide, ⟨_, _, _, (b_X10_falls).1⟩, by decide +kernel⟩
theorem lku_X11_252_1 : LkU RX11 252 "SweptRound$SweptKind" "SweptRound$YardKind" ⟨"SweptRound$YardKind", "falls", "(LSweptRound$Speech;I)I"⟩ yX8_falls := ⟨(gtb_of (tm 720 (by decide +kernel)) rfl), (gtb_of (tm 723 (by decide +kernel)) rfl), (gtb_of (tm 721 (by decide +kernel)) rfl), (gtb_of (tm 735 (by decide +kernel)) rfl), (gtb_of (tm 727 (by decide +kernel)) rfl), by decide, by decide, ⟨_, _, _, (b_X10_falls).1⟩, by decide +kernel⟩
theorem lku_X11_252_2 : LkU RX11 252 "SweptRound$CoveredKind" "SweptRound$YardKind" ⟨"SweptRound$YardKind", "falls", "(LSweptRound$Speech;I)I"⟩ yX10_falls := ⟨(gtb_of (tm 720 (by decide +kernel)) rfl), (gtb_of (tm 723 (by decide +kernel)) rfl), (gtb_of (tm 721 (by decide +kernel)) rfl), (gtb_of (tm 725 (by decide +kernel)) rfl), (gtb_of (tm 721 (by decide +kernel)) rfl), by decide, by decide, ⟨_, _, _, (b_X10_falls).1⟩, by decide +kernel⟩
theorem lku_X11_252_3 : LkU RX11 252 "SweptRound$WaitedKind" "SweptRound$YardKind" ⟨"SweptRound$YardKind", "falls", "(LSweptRound$Speech;I)I"⟩ yX10_falls := ⟨(gtb_of (tm 720 (by decide +kernel)) rfl), (gtb_of (tm 723 (by decide +kernel)) rfl), (gtb_of (tm 721 (by decide +kernel)) rfl), (gtb_of (tm 736 (by decide +kernel)) rfl), (gtb_of (tm 721 (by decide +kernel)) rfl), by decide, by decide, ⟨_, _, _, (b_X10_falls).1⟩, by decide +kernel⟩
theorem lku_X11_252_4 : LkU RX11 252 "SweptRound$DoubledKind" "SweptRound$YardKind" ⟨"SweptRound$YardKind", "falls", "(LSweptRound$Speech;I)I"⟩ yX8_falls := ⟨(gtb_of (tm 720 (by decide +kernel)) rfl), (gtb_of (tm 723 (by decide +kernel)) rfl), (gtb_of (tm 721 (by decide +kernel)) rfl), (gtb_of (tm 726 (by decide +kernel)) rfl), (gtb_of (tm 727 (by decide +kernel)) rfl), by decide, by decide, ⟨_, _, _, (b_X10_falls).1⟩, by decide +kernel⟩
theorem lku_X11_252_5 : LkU RX11 252 "SweptRound$EmptyKind" "SweptRound$YardKind" ⟨"SweptRound$YardKind", "falls", "(LSweptRound$Speech;I)I"⟩ yX10_falls := ⟨(gtb_of (tm 720 (by decide +kernel)) rfl), (gtb_of (tm 723 (by decide +kernel)) rfl), (gtb_of (tm 721 (by decide +kernel)) rfl), (gtb_of (tm 734 (by decide +kernel)) rfl), (gtb_of (tm 721 (by decide +kernel)) rfl), by decide, by decide, ⟨_, _, _, (b_X10_falls).1⟩, by decide +kernel⟩
theorem lku_X11_252_6 : LkU RX11 252 "SweptRound$BlownKind" "SweptRound$YardKind" ⟨"SweptRound$YardKind", "falls", "(LSweptRound$Speech;I)I"⟩ yX10_falls := ⟨(gtb_of (tm 720 (by decide +kernel)) rfl), (gtb_of (tm 723 (by decide +kernel)) rfl), (gtb_of (tm 721 (by decide +kernel)) rfl), (gtb_of (tm 724 (by decide +kernel)) rfl), (gtb_of (tm 721 (by decide +kernel)) rfl), by decide, by decide, ⟨_, _, _, (b_X10_falls).1⟩, by decide +kernel⟩
set_option maxRecDepth 100000 in
theorem kc_X11_252 {g : GP} {l : Launch} {y : MethodName} {cc : ByteArray} {nL : Nat} {R : Room} {G : GT} {pc : Nat} {L : List (Nat × Value)} {st : List Value} {A : Nat → Nat → Nat} {σ s9 : CS} {X : va_W} {v9 : Int32} {κ : Nat} {x1 : Int32} (hG : IsG g l y cc nL R G) (d : decode cc pc = .ok (.invokevirtual 252, 3)) (hκ : κ < 7) (h : D_falls κ x1 σ = some (v9, s9)) (st0 : List Value) (hst0 : st0 = [.ref (A 4 99), .int x1].reverse ++ .ref (A 7 (κ + 10)) :: st) (hR : 2 + 1 ≤ R.frames ∧ 8 + (3 + 11) + 43 ≤ R.locals) (hst : (st.map fun v => v.category).sum ≤ 8) (hy : y.cls = RX11) (kk : G 0 0 (wC g A s9 X) L (pc + 3) (.int v9 :: st)) : G 0 0 (wC g A σ X) L pc st0 := by
  rcases (show κ = 0 ∨ κ = 1 ∨ κ = 2 ∨ κ = 3 ∨ κ = 4 ∨ κ = 5 ∨ κ = 6 by omega) with rfl | rfl | rfl | rfl | rfl | rfl | rfl
  · exact g_cU hG d (c_N_K10_falls (by decide) h) b_X10_falls (by rw [hy]; exact lku_X11_252_0) rfl (eKd (κ := 0) (by decide)) rfl ⟨by have := hR.1; show 1 + 1 ≤ _; omega, by have := hR.2; show 8 + (3 + 11) + 21 ≤ _; omega⟩ ⟨rfl, rfl⟩ ⟨Nat.zero_le _, Nat.zero_le _⟩ _ hst0 hst kk
  · exact g_cU hG d (c_N_K8_falls (by decide) h) b_X8_falls (by rw [hy]; exact lku_X11_252_1) rfl (eKd (κ := 1) (by decide)) rfl ⟨by have := hR.1; show 2 + 1 ≤ _; omega, by have := hR.2; show 8 + (3 + 11) + 43 ≤ _; omega⟩ ⟨rfl, rfl⟩ ⟨Nat.zero_le _, Nat.zero_le _⟩ _ hst0 hst kk
  · exact g_cU hG d (c_N_K10_falls (by decide) h) b_X10_falls (by rw [hy]; exact lku_X11_252_2) rfl (eKd (κ := 2) (by decide)) rfl ⟨by have := hR.1; show 1 + 1 ≤ _; omega, by have := hR.2; show 8 + (3 + 11) + 21 ≤ _; omega⟩ ⟨rfl, rfl⟩ ⟨Nat.zero_le _, Nat.zero_le _⟩ _ hst0 hst kk
  · exact g_cU hG d (c_N_K10_falls (by decide) h) b_X10_falls (by rw [hy]; exact lku_X11_252_3) rfl (eKd (κ := 3) (by decide)) rfl ⟨by have := hR.1; show 1 + 1 ≤ _; omega, by have := hR.2; show 8 + (3 + 11) + 21 ≤ _; omega⟩ ⟨rfl, rfl⟩ ⟨Nat.zero_le _, Nat.zero_le _⟩ _ hst0 hst kk
  · exact g_cU hG d (c_N_K8_falls (by decide) h) b_X8_falls (by rw [hy]; exact lku_X11_252_4) rfl (eKd (κ := 4) (by decide)) rfl ⟨by have := hR.1; show 2 + 1 ≤ _; omega, by have := hR.2; show 8 + (3 + 11) + 43 ≤ _; omega⟩ ⟨rfl, rfl⟩ ⟨Nat.zero_le _, Nat.zero_le _⟩ _ hst0 hst kk
  · exact g_cU hG d (c_N_K10_falls (by decide) h) b_X10_falls (by rw [hy]; exact lku_X11_252_5) rfl (eKd (κ := 5) (by decide)) rfl ⟨by have := hR.1; show 1 + 1 ≤ _; omega, by have := hR.2; show 8 + (3 + 11) + 21 ≤ _; omega⟩ ⟨rfl, rfl⟩ ⟨Nat.zero_le _, Nat.zero_le _⟩ _ hst0 hst kk
  · exact g_cU hG d (c_N_K10_falls (by decide) h) b_X10_falls (by rw [hy]; exact lku_X11_252_6) rfl (eKd (κ := 6) (by decide)) rfl ⟨by have := hR.1; show 1 + 1 ≤ _; omega, by have := hR.2; show 8 + (3 + 11) + 21 ≤ _; omega⟩ ⟨rfl, rfl⟩ ⟨Nat.zero_le _, Nat.zero_le _⟩ _ hst0 hst kk
theorem lku_X11_256_0 : LkU RX11 256 "SweptRound$YardKind" "SweptRound$YardKind" ⟨"SweptRound$YardKind", "moves", "(LSweptRound$Speech;I)I"⟩ yX10_moves := ⟨(gtb_of (tm 739 (by decide +kernel)) rfl), (gtb_of (tm 742 (by decide +kernel)) rfl), (gtb_of (tm 740 (by decide +kernel)) rfl), (gtb_of (tm 741 (by decide +kernel)) rfl), (gtb_of (tm 740 (by decide +kernel)) rfl), by decide, by decide, ⟨_, _, _, (b_X10_moves).1⟩, by decide +kernel⟩
theorem lku_X11_256_1 : LkU RX11 256 "SweptRound$SweptKind" "SweptRound$YardKind" ⟨"SweptRound$YardKind", "moves", "(LSweptRound$Speech;I)I"⟩ yX10_moves := ⟨(gtb_of (tm 739 (by decide +kernel)) rfl), (gtb_of (tm 742 (by decide +kernel)) rfl), (gtb_of (tm 740 (by decide +kernel)) rfl), (gtb_of (tm 762 (by decide +kernel)) rfl), (gtb_of (tm 740 (by decide +kernel)) rfl), by decide, by decide, ⟨_, _, _, (b_X10_moves).1⟩, by decide +kernel⟩
theorem lku_X11_256_2 : LkU RX11 256 "SweptRound$CoveredKind" "SweptRound$YardKind" ⟨"SweptRound$YardKind", "moves", "(LSweptRound$Speech;I)I"⟩ yX1_moves := ⟨(gtb_of (tm 739 (by decide +kernel)) rfl), (gtb_of (tm 742 (by decide +kernel)) rfl), (gtb_of (tm 740 (by decide +kernel)) rfl), (gtb_of (tm 744 (by decide +kernel)) rfl), (gtb_of (tm 745 (by decide +kernel)) rfl), by decide, by decide, ⟨_, _, _, (b_X10_moves).1⟩, by decide +kernel⟩
theorem lku_X11_256_3 : LkU RX11 256 "SweptRound$WaitedKind" "SweptRound$YardKind" ⟨"SweptRound$YardKind", "moves", "(LSweptRound$Speech;I)I"⟩ yX10_moves := ⟨(gtb_of (tm 739 (by decide +kernel)) rfl), (gtb_of (tm 742 (by decide +kernel)) rfl), (gtb_of (tm 740 (by decide +kernel)) rfl), (gtb_of (tm 763 (by decide +kernel)) rfl), (gtb_of (tm 740 (by decide +kernel)) rfl), by decide, by decide, ⟨_, _, _, (b_X10_moves).1⟩, by decide +kernel⟩
theorem lku_X11_256_4 : LkU RX11 256 "SweptRound$DoubledKind" "SweptRound$YardKind" ⟨"SweptRound$YardKind", "moves", "(LSweptRound$Speech;I)I"⟩ yX10_moves := ⟨(gtb_of (tm 739 (by decide +kernel)) rfl), (gtb_of (tm 742 (by decide +kernel)) rfl), (gtb_of (tm 740 (by decide +kernel)) rfl), (gtb_of (tm 756 (by decide +kernel)) rfl), (gtb_of (tm 740 (by decide +kernel)) rfl), by decide, by decide, ⟨_, _, _, (b_X10_moves).1⟩, by decide +kernel⟩
theorem lku_X11_256_5 : LkU RX11 256 "SweptRound$EmptyKind" "SweptRound$YardKind" ⟨"SweptRound$YardKind", "moves", "(LSweptRound$Speech;I)I"⟩ yX3_moves := ⟨(gtb_of (tm 739 (by decide +kernel)) rfl), (gtb_of (tm 742 (by decide +kernel)) rfl), (gtb_of (tm 740 (by decide +kernel)) rfl), (gtb_of (tm 757 (by decide +kernel)) rfl), (gtb_of (tm 758 (by decide +kernel)) rfl), by decide, by decide, ⟨_, _, _, (b_X10_moves).1⟩, by decide +kernel⟩
theorem lku_X11_256_6 : LkU RX11 256 "SweptRound$BlownKind" "SweptRound$YardKind" ⟨"SweptRound$YardKind", "moves", "(LSweptRound$Speech;I)I"⟩ yX10_moves := ⟨(gtb_of (tm 739 (by decide +kernel)) rfl), (gtb_of (tm 742 (by decide +kernel)) rfl), (gtb_of (tm 740 (by decide +kernel)) rfl), (gtb_of (tm 743 (by decide +kernel)) rfl), (gtb_of (tm 740 (by decide +kernel)) rfl), by decide, by decide, ⟨_, _, _, (b_X10_moves).1⟩, by decide +kernel⟩
set_option maxRecDepth 100000 in
theorem kc_X11_256 {g : GP} {l : Launch} {y : MethodName} {cc : ByteArray} {nL : Nat} {R : Room} {G : GT} {pc : Nat} {L : List (Nat × Value)} {st : List Value} {A : Nat → Nat → Nat} {σ s9 : CS} {X : va_W} {v9 : Int32} {κ : Nat} {x1 : Int32} (hG : IsG g l y cc nL R G) (d : decode cc pc = .ok (.invokevirtual 256, 3)) (hκ : κ < 7) (h : D_moves κ x1 σ = some (v9, s9)) (st0 : List Value) (hst0 : st0 = [.ref (A 4 99), .int x1].reverse ++ .ref (A 7 (κ + 10)) :: st) (hR : 5 + 1 ≤ R.frames ∧ 8 + (3 + 11) + 109 ≤ R.locals) (hst : (st.map fun v => v.category).sum ≤ 8) (hy : y.cls = RX11) (kk : G 0 0 (wC g A s9 X) L (pc + 3) (.int v9 :: st)) : G 0 0 (wC g A σ X) L pc st0 := by
  rcases (show κ = 0 ∨ κ = 1 ∨ κ = 2 ∨ κ = 3 ∨ κ = 4 ∨ κ = 5 ∨ κ = 6 by omega) with rfl | rfl | rfl | rfl | rfl | rfl | rfl
  · exact g_cU hG d (c_N_K10_moves (by decide) h) b_X10_moves (by rw [hy]; exact lku_X11_256_0) rfl (eKd (κ := 0) (by decide)) rfl ⟨by have := hR.1; show 3 + 1 ≤ _; omega, by have := hR.2; show 8 + (3 + 11) + 65 ≤ _; omega⟩ ⟨rfl, rfl⟩ ⟨Nat.zero_le _, Nat.zero_le _⟩ _ hst0 hst kk
  · exact g_cU hG d (c_N_K10_moves (by decide) h) b_X10_moves (by rw [hy]; exact lku_X11_256_1) rfl (eKd (κ := 1) (by decide)) rfl ⟨by have := hR.1; show 3 + 1 ≤ _; omega, by have := hR.2; show 8 + (3 + 11) + 65 ≤ _; omega⟩ ⟨rfl, rfl⟩ ⟨Nat.zero_le _, Nat.zero_le _⟩ _ hst0 hst kk
  · exact g_cU hG d (c_N_K1_moves (by decide) (by decide) h) b_X1_moves (by rw [hy]; exact lku_X11_256_2) rfl (eKd (κ := 2) (by decide)) rfl ⟨by have := hR.1; show 4 + 1 ≤ _; omega, by have := hR.2; show 8 + (3 + 11) + 87 ≤ _; omega⟩ ⟨rfl, rfl⟩ ⟨Nat.zero_le _, Nat.zero_le _⟩ _ hst0 hst kk
  · exact g_cU hG d (c_N_K10_moves (by decide) h) b_X10_moves (by rw [hy]; exact lku_X11_256_3) rfl (eKd (κ := 3) (by decide)) rfl ⟨by have := hR.1; show 3 + 1 ≤ _; omega, by have := hR.2; show 8 + (3 + 11) + 65 ≤ _; omega⟩ ⟨rfl, rfl⟩ ⟨Nat.zero_le _, Nat.zero_le _⟩ _ hst0 hst kk
  · exact g_cU hG d (c_N_K10_moves (by decide) h) b_X10_moves (by rw [hy]; exact lku_X11_256_4) rfl (eKd (κ := 4) (by decide)) rfl ⟨by have := hR.1; show 3 + 1 ≤ _; omega, by have := hR.2; show 8 + (3 + 11) + 65 ≤ _; omega⟩ ⟨rfl, rfl⟩ ⟨Nat.zero_le _, Nat.zero_le _⟩ _ hst0 hst kk
  · exact g_cU hG d (c_N_K3_moves (by decide) (by decide) h) b_X3_moves (by rw [hy]; exact lku_X11_256_5) rfl (eKd (κ := 5) (by decide)) rfl ⟨by have := hR.1; show 5 + 1 ≤ _; omega, by have := hR.2; show 8 + (3 + 11) + 109 ≤ _; omega⟩ ⟨rfl, rfl⟩ ⟨Nat.zero_le _, Nat.zero_le _⟩ _ hst0 hst kk
  · exact g_cU hG d (c_N_K10_moves (by decide) h) b_X10_moves (by rw [hy]; exact lku_X11_256_6) rfl (eKd (κ := 6) (by decide)) rfl ⟨by have := hR.1; show 3 + 1 ≤ _; omega, by have := hR.2; show 8 + (3 + 11) + 65 ≤ _; omega⟩ ⟨rfl, rfl⟩ ⟨Nat.zero_le _, Nat.zero_le _⟩ _ hst0 hst kk
theorem lku_X11_259_0 : LkU RX11 259 "SweptRound$YardKind" "SweptRound$YardKind" ⟨"SweptRound$YardKind", "sweeps", "(LSweptRound$Speech;I)I"⟩ yX10_sweeps := ⟨(gtb_of (tm 766 (by decide +kernel)) rfl), (gtb_of (tm 1297 (by decide +kernel)) rfl), (gtb_of (tm 754 (by decide +kernel)) rfl), (gtb_of (tm 1305 (by decide +kernel)) rfl), (gtb_of (tm 754 (by decide +kernel)) rfl), by decide, by decide, ⟨_, _, _, (b_X10_sweeps).1⟩, by decide +kernel⟩
theorem lku_X11_259_1 : LkU RX11 259 "SweptRound$SweptKind" "SweptRound$YardKind" ⟨"SweptRound$YardKind", "sweeps", "(LSweptRound$Speech;I)I"⟩ yX10_sweeps := ⟨(gtb_of (tm 766 (by decide +kernel)) rfl), (gtb_of (tm 1297 (by decide +kernel)) rfl), (gtb_of (tm 754 (by decide +kernel)) rfl), (gtb_of (tm 1303 (by decide +kernel)) rfl), (gtb_of (tm 754 (by decide +kernel)) rfl), by decide, by decide, ⟨_, _, _, (b_X10_sweeps).1⟩, by decide +kernel⟩
theorem lku_X11_259_2 : LkU RX11 259 "SweptRound$CoveredKind" "SweptRound$YardKind" ⟨"SweptRound$YardKind", "sweeps", "(LSweptRound$Speech;I)I"⟩ yX10_sweeps := ⟨(gtb_of (tm 766 (by decide +kernel)) rfl), (gtb_of (tm 1297 (by decide +kernel)) rfl), (gtb_of (tm 754 (by decide +kernel)) rfl), (gtb_of (tm 1300 (by decide +kernel)) rfl), (gtb_of (tm 754 (by decide +kernel)) rfl), by decide, by decide, ⟨_, _, _, (b_X10_sweeps).1⟩, by decide +kernel⟩
theorem lku_X11_259_3 : LkU RX11 259 "SweptRound$WaitedKind" "SweptRound$YardKind" ⟨"SweptRound$YardKind", "sweeps", "(LSweptRound$Speech;I)I"⟩ yX9_sweeps := ⟨(gtb_of (tm 766 (by decide +kernel)) rfl), (gtb_of (tm 1297 (by decide +kernel)) rfl), (gtb_of (tm 754 (by decide +kernel)) rfl), (gtb_of (tm 1304 (by decide +kernel)) rfl), (gtb_of (tm 771 (by decide +kernel)) rfl), by decide, by decide, ⟨_, _, _, (b_X10_sweeps).1⟩, by decide +kernel⟩
theorem lku_X11_259_4 : LkU RX11 259 "SweptRound$DoubledKind" "SweptRound$YardKind" ⟨"SweptRound$YardKind", "sweeps", "(LSweptRound$Speech;I)I"⟩ yX10_sweeps := ⟨(gtb_of (tm 766 (by decide +kernel)) rfl), (gtb_of (tm 1297 (by decide +kernel)) rfl), (gtb_of (tm 754 (by decide +kernel)) rfl), (gtb_of (tm 1301 (by decide +kernel)) rfl), (gtb_of (tm 754 (by decide +kernel)) rfl), by decide, by decide, ⟨_, _, _, (b_X10_sweeps).1⟩, by decide +kernel⟩
theorem lku_X11_259_5 : LkU RX11 259 "SweptRound$EmptyKind" "SweptRound$YardKind" ⟨"SweptRound$YardKind", "sweeps", "(LSweptRound$Speech;I)I"⟩ yX10_sweeps := ⟨(gtb_of (tm 766 (by decide +kernel)) rfl), (gtb_of (tm 1297 (by decide +kernel)) rfl), (gtb_of (tm 754 (by decide +kernel)) rfl), (gtb_of (tm 1302 (by decide +kernel)) rfl), (gtb_of (tm 754 (by decide +kernel)) rfl), by decide, by decide, ⟨_, _, _, (b_X10_sweeps).1⟩, by decide +kernel⟩
theorem lku_X11_259_6 : LkU RX11 259 "SweptRound$BlownKind" "SweptRound$YardKind" ⟨"SweptRound$YardKind", "sweeps", "(LSweptRound$Speech;I)I"⟩ yX0_sweeps := ⟨(gtb_of (tm 766 (by decide +kernel)) rfl), (gtb_of (tm 1297 (by decide +kernel)) rfl), (gtb_of (tm 754 (by decide +kernel)) rfl), (gtb_of (tm 1298 (by decide +kernel)) rfl), (gtb_of (tm 767 (by decide +kernel)) rfl), by decide, by decide, ⟨_, _, _, (b_X10_sweeps).1⟩, by decide +kernel⟩
set_option maxRecDepth 100000 in
theorem kc_X11_259 {g : GP} {l : Launch} {y : MethodName} {cc : ByteArray} {nL : Nat} {R : Room} {G : GT} {pc : Nat} {L : List (Nat × Value)} {st : List Value} {A : Nat → Nat → Nat} {σ s9 : CS} {X : va_W} {v9 : Int32} {κ : Nat} {x1 : Int32} (hG : IsG g l y cc nL R G) (d : decode cc pc = .ok (.invokevirtual 259, 3)) (hκ : κ < 7) (h : D_sweeps κ x1 σ = some (v9, s9)) (st0 : List Value) (hst0 : st0 = [.ref (A 4 99), .int x1].reverse ++ .ref (A 7 (κ + 10)) :: st) (hR : 3 + 1 ≤ R.frames ∧ 8 + (3 + 11) + 65 ≤ R.locals) (hst : (st.map fun v => v.category).sum ≤ 8) (hy : y.cls = RX11) (kk : G 0 0 (wC g A s9 X) L (pc + 3) (.int v9 :: st)) : G 0 0 (wC g A σ X) L pc st0 := by
  rcases (show κ = 0 ∨ κ = 1 ∨ κ = 2 ∨ κ = 3 ∨ κ = 4 ∨ κ = 5 ∨ κ = 6 by omega) with rfl | rfl | rfl | rfl | rfl | rfl | rfl
  · exact g_cU hG d (c_N_K10_sweeps (by decide) h) b_X10_sweeps (by rw [hy]; exact lku_X11_259_0) rfl (eKd (κ := 0) (by decide)) rfl ⟨by have := hR.1; show 1 + 1 ≤ _; omega, by have := hR.2; show 8 + (3 + 11) + 21 ≤ _; omega⟩ ⟨rfl, rfl⟩ ⟨Nat.zero_le _, Nat.zero_le _⟩ _ hst0 hst kk
  · exact g_cU hG d (c_N_K10_sweeps (by decide) h) b_X10_sweeps (by rw [hy]; exact lku_X11_259_1) rfl (eKd (κ := 1) (by decide)) rfl ⟨by have := hR.1; show 1 + 1 ≤ _; omega, by have := hR.2; show 8 + (3 + 11) + 21 ≤ _; omega⟩ ⟨rfl, rfl⟩ ⟨Nat.zero_le _, Nat.zero_le _⟩ _ hst0 hst kk
  · exact g_cU hG d (c_N_K10_sweeps (by decide) h) b_X10_sweeps (by rw [hy]; exact lku_X11_259_2) rfl (eKd (κ := 2) (by decide)) rfl ⟨by have := hR.1; show 1 + 1 ≤ _; omega, by have := hR.2; show 8 + (3 + 11) + 21 ≤ _; omega⟩ ⟨rfl, rfl⟩ ⟨Nat.zero_le _, Nat.zero_le _⟩ _ hst0 hst kk
  · exact g_cU hG d (c_N_K9_sweeps (by decide) h) b_X9_sweeps (by rw [hy]; exact lku_X11_259_3) rfl (eKd (κ := 3) (by decide)) rfl ⟨by have := hR.1; show 2 + 1 ≤ _; omega, by have := hR.2; show 8 + (3 + 11) + 43 ≤ _; omega⟩ ⟨rfl, rfl⟩ ⟨Nat.zero_le _, Nat.zero_le _⟩ _ hst0 hst kk
  · exact g_cU hG d (c_N_K10_sweeps (by decide) h) b_X10_sweeps (by rw [hy]; exact lku_X11_259_4) rfl (eKd (κ := 4) (by decide)) rfl ⟨by have := hR.1; show 1 + 1 ≤ _; omega, by have := hR.2; show 8 + (3 + 11) + 21 ≤ _; omega⟩ ⟨rfl, rfl⟩ ⟨Nat.zero_le _, Nat.zero_le _⟩ _ hst0 hst kk
  · exact g_cU hG d (c_N_K10_sweeps (by decide) h) b_X10_sweeps (by rw [hy]; exact lku_X11_259_5) rfl (eKd (κ := 5) (by decide)) rfl ⟨by have := hR.1; show 1 + 1 ≤ _; omega, by have := hR.2; show 8 + (3 + 11) + 21 ≤ _; omega⟩ ⟨rfl, rfl⟩ ⟨Nat.zero_le _, Nat.zero_le _⟩ _ hst0 hst kk
  · exact g_cU hG d (c_N_K0_sweeps (by decide) h) b_X0_sweeps (by rw [hy]; exact lku_X11_259_6) rfl (eKd (κ := 6) (by decide)) rfl ⟨by have := hR.1; show 3 + 1 ≤ _; omega, by have := hR.2; show 8 + (3 + 11) + 65 ≤ _; omega⟩ ⟨rfl, rfl⟩ ⟨Nat.zero_le _, Nat.zero_le _⟩ _ hst0 hst kk
theorem lku_X11_262_0 : LkU RX11 262 "SweptRound$YardKind" "SweptRound$YardKind" ⟨"SweptRound$YardKind", "blocks", "(LSweptRound$Speech;I)I"⟩ yX10_blocks := ⟨(gtb_of (tm 775 (by decide +kernel)) rfl), (gtb_of (tm 778 (by decide +kernel)) rfl), (gtb_of (tm 776 (by decide +kernel)) rfl), (gtb_of (tm 777 (by decide +kernel)) rfl), (gtb_of (tm 776 (by decide +kernel)) rfl), by decide, by decide, ⟨_, _, _, (b_X10_blocks).1⟩, by decide +kernel⟩
theorem lku_X11_262_1 : LkU RX11 262 "SweptRound$SweptKind" "SweptRound$YardKind" ⟨"SweptRound$YardKind", "blocks", "(LSweptRound$Speech;I)I"⟩ yX10_blocks := ⟨(gtb_of (tm 775 (by decide +kernel)) rfl), (gtb_of (tm 778 (by decide +kernel)) rfl), (gtb_of (tm 776 (by decide +kernel)) rfl), (gtb_of (tm 801 (by decide +kernel)) rfl), (gtb_of (tm 776 (by decide +kernel)) rfl), by decide, by decide, ⟨_, _, _, (b_X10_blocks).1⟩, by decide +kernel⟩
theorem lku_X11_262_2 : LkU RX11 262 "SweptRound$CoveredKind" "SweptRound$YardKind" ⟨"SweptRound$YardKind", "blocks", "(LSweptRound$Speech;I)I"⟩ yX10_blocks := ⟨(gtb_of (tm 775 (by decide +kernel)) rfl), (gtb_of (tm 778 (by decide +kernel)) rfl), (gtb_of (tm 776 (by decide +kernel)) rfl), (gtb_of (tm 789 (by decide +kernel)) rfl), (gtb_of (tm 776 (by decide +kernel)) rfl), by decide, by decide, ⟨_, _, _, (b_X10_blocks).1⟩, by decide +kernel⟩
theorem lku_X11_262_3 : LkU RX11 262 "SweptRound$WaitedKind" "SweptRound$YardKind" ⟨"SweptRound$YardKind", "blocks", "(LSweptRound$Speech;I)I"⟩ yX10_blocks := ⟨(gtb_of (tm 775 (by decide +kernel)) rfl), (gtb_of (tm 778 (by decide +kernel)) rfl), (gtb_of (tm 776 (by decide +kernel)) rfl), (gtb_of (tm 802 (by decide +kernel)) rfl), (gtb_of (tm 776 (by decide +kernel)) rfl), by decide, by decide, ⟨_, _, _, (b_X10_blocks).1⟩, by decide +kernel⟩
theorem lku_X11_262_4 : LkU RX11 262 "SweptRound$DoubledKind" "SweptRound$YardKind" ⟨"SweptRound$YardKind", "blocks", "(LSweptRound$Speech;I)I"⟩ yX2_blocks := ⟨(gtb_of (tm 775 (by decide +kernel)) rfl), (gtb_of (tm 778 (by decide +kernel)) rfl), (gtb_of (tm 776 (by decide +kernel)) rfl), (gtb_of (tm 790 (by decide +kernel)) rfl), (gtb_of (tm 791 (by decide +kernel)) rfl), by decide, by decide, ⟨_, _, _, (b_X10_blocks).1⟩, by decide +kernel⟩
theorem lku_X11_262_5 : LkU RX11 262 "SweptRound$EmptyKind" "SweptRound$YardKind" ⟨"SweptRound$YardKind", "blocks", "(LSweptRound$Speech;I)I"⟩ yX10_blocks := ⟨(gtb_of (tm 775 (by decide +kernel)) rfl), (gtb_of (tm 778 (by decide +kernel)) rfl), (gtb_of (tm 776 (by decide +kernel)) rfl), (gtb_of (tm 800 (by decide +kernel)) rfl), (gtb_of (tm 776 (by decide +kernel)) rfl), by decide, by decide, ⟨_, _, _, (b_X10_blocks).1⟩, by decide +kernel⟩
theorem lku_X11_262_6 : LkU RX11 262 "SweptRound$BlownKind" "SweptRound$YardKind" ⟨"SweptRound$YardKind", "blocks", "(LSweptRound$Speech;I)I"⟩ yX0_blocks := ⟨(gtb_of (tm 775 (by decide +kernel)) rfl), (gtb_of (tm 778 (by decide +kernel)) rfl), (gtb_of (tm 776 (by decide +kernel)) rfl), (gtb_of (tm 779 (by decide +kernel)) rfl), (gtb_of (tm 780 (by decide +kernel)) rfl), by decide, by decide, ⟨_, _, _, (b_X10_blocks).1⟩, by decide +kernel⟩
set_option maxRecDepth 100000 in
theorem kc_X11_262 {g : GP} {l : Launch} {y : MethodName} {cc : ByteArray} {nL : Nat} {R : Room} {G : GT} {pc : Nat} {L : List (Nat × Value)} {st : List Value} {A : Nat → Nat → Nat} {σ s9 : CS} {X : va_W} {v9 : Int32} {κ : Nat} {x1 : Int32} (hG : IsG g l y cc nL R G) (d : decode cc pc = .ok (.invokevirtual 262, 3)) (hκ : κ < 7) (h : D_blocks κ x1 σ = some (v9, s9)) (st0 : List Value) (hst0 : st0 = [.ref (A 4 99), .int x1].reverse ++ .ref (A 7 (κ + 10)) :: st) (hR : 7 + 1 ≤ R.frames ∧ 8 + (3 + 11) + 153 ≤ R.locals) (hst : (st.map fun v => v.category).sum ≤ 8) (hy : y.cls = RX11) (kk : G 0 0 (wC g A s9 X) L (pc + 3) (.int v9 :: st)) : G 0 0 (wC g A σ X) L pc st0 := by
  rcases (show κ = 0 ∨ κ = 1 ∨ κ = 2 ∨ κ = 3 ∨ κ = 4 ∨ κ = 5 ∨ κ = 6 by omega) with rfl | rfl | rfl | rfl | rfl | rfl | rfl
  · exact g_cU hG d (c_N_K10_blocks (by decide) h) b_X10_blocks (by rw [hy]; exact lku_X11_262_0) rfl (eKd (κ := 0) (by decide)) rfl ⟨by have := hR.1; show 6 + 1 ≤ _; omega, by have := hR.2; show 8 + (3 + 11) + 131 ≤ _; omega⟩ ⟨rfl, rfl⟩ ⟨Nat.zero_le _, Nat.zero_le _⟩ _ hst0 hst kk
  · exact g_cU hG d (c_N_K10_blocks (by decide) h) b_X10_blocks (by rw [hy]; exact lku_X11_262_1) rfl (eKd (κ := 1) (by decide)) rfl ⟨by have := hR.1; show 6 + 1 ≤ _; omega, by have := hR.2; show 8 + (3 + 11) + 131 ≤ _; omega⟩ ⟨rfl, rfl⟩ ⟨Nat.zero_le _, Nat.zero_le _⟩ _ hst0 hst kk
  · exact g_cU hG d (c_N_K10_blocks (by decide) h) b_X10_blocks (by rw [hy]; exact lku_X11_262_2) rfl (eKd (κ := 2) (by decide)) rfl ⟨by have := hR.1; show 6 + 1 ≤ _; omega, by have := hR.2; show 8 + (3 + 11) + 131 ≤ _; omega⟩ ⟨rfl, rfl⟩ ⟨Nat.zero_le _, Nat.zero_le _⟩ _ hst0 hst kk
  · exact g_cU hG d (c_N_K10_blocks (by decide) h) b_X10_blocks (by rw [hy]; exact lku_X11_262_3) rfl (eKd (κ := 3) (by decide)) rfl ⟨by have := hR.1; show 6 + 1 ≤ _; omega, by have := hR.2; show 8 + (3 + 11) + 131 ≤ _; omega⟩ ⟨rfl, rfl⟩ ⟨Nat.zero_le _, Nat.zero_le _⟩ _ hst0 hst kk
  · exact g_cU hG d (c_N_K2_blocks (by decide) (by decide) h) b_X2_blocks (by rw [hy]; exact lku_X11_262_4) rfl (eKd (κ := 4) (by decide)) rfl ⟨by have := hR.1; show 7 + 1 ≤ _; omega, by have := hR.2; show 8 + (3 + 11) + 153 ≤ _; omega⟩ ⟨rfl, rfl⟩ ⟨Nat.zero_le _, Nat.zero_le _⟩ _ hst0 hst kk
  · exact g_cU hG d (c_N_K10_blocks (by decide) h) b_X10_blocks (by rw [hy]; exact lku_X11_262_5) rfl (eKd (κ := 5) (by decide)) rfl ⟨by have := hR.1; show 6 + 1 ≤ _; omega, by have := hR.2; show 8 + (3 + 11) + 131 ≤ _; omega⟩ ⟨rfl, rfl⟩ ⟨Nat.zero_le _, Nat.zero_le _⟩ _ hst0 hst kk
  · exact g_cU hG d (c_N_K0_blocks (by decide) (by decide) h) b_X0_blocks (by rw [hy]; exact lku_X11_262_6) rfl (eKd (κ := 6) (by decide)) rfl ⟨by have := hR.1; show 7 + 1 ≤ _; omega, by have := hR.2; show 8 + (3 + 11) + 153 ≤ _; omega⟩ ⟨rfl, rfl⟩ ⟨Nat.zero_le _, Nat.zero_le _⟩ _ hst0 hst kk
def N_T_voice (x1 : Int32) (x2 : Int32) (x3 : Int32) (σ : CS) : Option (Int32 × CS) := (ob (N_S_has 0 x1 σ) fun v1 σ2 => (if v1 = 0 then (ob (N_T_fail (-1000000001 : Int32) σ2) fun v5 σ6 => (some (v5, σ6))) else (ob (N_T_within x2 (0 : Int32) (3 : Int32) σ2) fun v8 σ9 => (if v8 = 0 then (ob (N_T_fail (-1000000001 : Int32) σ9) fun v12 σ13 => (some (v12, σ13))) else (gd (inb x1 12) (ob (N_P_open x1 (σ9.2.1 0 2 (ix x1)) σ9) fun v16 σ17 => (ob (N_S_kindOf 0 x1 σ17) fun v19 σ20 => (if x2 = (0 : Int32) then (ob (D_falls v19 x3 σ20) fun v24 σ25 => (some (v24, σ25))) else (if x2 = (1 : Int32) then (ob (D_moves v19 x3 σ20) fun v28 σ29 => (some (v28, σ29))) else (if x2 = (2 : Int32) then (ob (D_sweeps v19 x3 σ20) fun v32 σ33 => (some (v32, σ33))) else (ob (D_blocks v19 x3 σ20) fun v35 σ36 => (some (v35, σ36)))))))))))))
set_option maxRecDepth 100000 in
set_option maxHeartbeats 4000000 in
theorem c_N_T_voice {g : GP} {l : Launch} {A : Nat → Nat → Nat} {X : va_W} {v9 : Int32} {s9 : CS} {x1 : Int32} {x2 : Int32} {x3 : Int32} {σ : CS} (h : N_T_voice x1 x2 x3 σ = some (v9, s9)) : CI g l yX11_voice cX11_voice 5 (some .int) { frames := 8, cells := 0, slots := 0, locals := 175 } [.ref (A 5 99), .int x1, .int x2, .int x3] (wC g A σ X) (fun r0 w => r0 = v9 ∧ w = wC g A s9 X) := by
  refine CI.mk (by decide) (Nat.le_of_ble_eq_true rfl) (fun G hG hret => ?_)
  have K : ∀ L pc, decode cX11_voice pc = .ok (.ireturn, 1) → G 0 0 (wC g A s9 X) L pc [.int v9] := fun L pc d => hret _ L pc v9 d rfl ⟨rfl, rfl⟩
  unfold N_T_voice at h
  refine g_aload_n hG dX11_voice_0 rfl ?_
  refine g_get (f := 0) hG dX11_voice_1 (eT g A _ X) rfl inX11 (by decide) rfl f_X11_40 rfl ?_
  refine g_iload_n hG dX11_voice_4 rfl ?_
  obtain ⟨v1, σ2, q3, h⟩ := ob_some h
  refine g_cV hG dX11_voice_5 (c_N_S_has (by decide) q3) b_X7_has v_X11_113 rfl (eS (by decide)) rfl ⟨Nat.le_of_ble_eq_true rfl, Nat.le_of_ble_eq_true rfl⟩ ⟨rfl, rfl⟩ ⟨Nat.zero_le _, Nat.zero_le _⟩ _ rfl (Nat.le_of_ble_eq_true rfl) ?_
  rcases if_some h with ⟨c4, h⟩ | ⟨c4, h⟩
  · refine g_if_eq (tgt := 20) hG dX11_voice_8 rfl (fun _ => ?_) (fun q => absurd c4 q)
    refine g_aload_n hG dX11_voice_20 rfl ?_
    refine g_ldc hG dX11_voice_21 k_X11_83 ?_
    obtain ⟨v5, σ6, q7, h⟩ := ob_some h
    refine g_cV hG dX11_voice_23 (c_N_T_fail q7) b_X11_fail v_X11_84 rfl (eT g A _ X) rfl ⟨Nat.le_of_ble_eq_true rfl, Nat.le_of_ble_eq_true rfl⟩ ⟨rfl, rfl⟩ ⟨Nat.zero_le _, Nat.zero_le _⟩ _ rfl (Nat.le_of_ble_eq_true rfl) ?_
    cases h
    exact K _ _ dX11_voice_26
  · refine g_if_eq (tgt := 20) hG dX11_voice_8 rfl (fun q => absurd q c4) (fun _ => ?_)
    refine g_iload_n hG dX11_voice_11 rfl ?_
    refine g_iconstv hG dX11_voice_12 ki_0 ?_
    refine g_iconstv hG dX11_voice_13 ki_3 ?_
    obtain ⟨v8, σ9, q10, h⟩ := ob_some h
    refine g_cS hG dX11_voice_14 (c_N_T_within q10) b_X11_within v_X11_79 rfl ⟨Nat.le_of_ble_eq_true rfl, Nat.le_of_ble_eq_true rfl⟩ ⟨rfl, rfl⟩ ⟨Nat.zero_le _, Nat.zero_le _⟩ _ rfl (Nat.le_of_ble_eq_true rfl) ?_
    rcases if_some h with ⟨c11, h⟩ | ⟨c11, h⟩
    · refine g_if_ne (tgt := 27) hG dX11_voice_17 rfl (fun q => absurd c11 q) (fun _ => ?_)
      refine g_aload_n hG dX11_voice_20 rfl ?_
      refine g_ldc hG dX11_voice_21 k_X11_83 ?_
      obtain ⟨v12, σ13, q14, h⟩ := ob_some h
      refine g_cV hG dX11_voice_23 (c_N_T_fail q14) b_X11_fail v_X11_84 rfl (eT g A _ X) rfl ⟨Nat.le_of_ble_eq_true rfl, Nat.le_of_ble_eq_true rfl⟩ ⟨rfl, rfl⟩ ⟨Nat.zero_le _, Nat.zero_le _⟩ _ rfl (Nat.le_of_ble_eq_true rfl) ?_
      cases h
      exact K _ _ dX11_voice_26
    · refine g_if_ne (tgt := 27) hG dX11_voice_17 rfl (fun _ => ?_) (fun q => absurd q c11)
      refine g_aload_n hG dX11_voice_27 rfl ?_
      refine g_get (f := 4) hG dX11_voice_28 (eT g A _ X) rfl inX11 (by decide) rfl f_X11_60 rfl ?_
      refine g_iload_n hG dX11_voice_31 rfl ?_
      refine g_aload_n hG dX11_voice_32 rfl ?_
      refine g_get (f := 0) hG dX11_voice_33 (eT g A _ X) rfl inX11 (by decide) rfl f_X11_40 rfl ?_
      refine g_getN (f := 2) hG dX11_voice_36 (eS (by decide)) rfl inX7 (by decide) rfl f_X11_120 rfl ?_
      refine g_iload_n hG dX11_voice_39 rfl ?_
      obtain ⟨b15, h⟩ := gd_some h
      refine c_iald hG dX11_voice_40 (aS2 (d := 0) (by decide)) b15 rfl ?_
      obtain ⟨v16, σ17, q18, h⟩ := ob_some h
      refine g_cVv hG dX11_voice_41 (c_N_P_open q18) b_X6_open v_X11_245 rfl (eP g A _ X) rfl ⟨Nat.le_of_ble_eq_true rfl, Nat.le_of_ble_eq_true rfl⟩ ⟨rfl, rfl⟩ ⟨Nat.zero_le _, Nat.zero_le _⟩ _ rfl (Nat.le_of_ble_eq_true rfl) ?_
      refine g_aload_n hG dX11_voice_44 rfl ?_
      refine g_get (f := 0) hG dX11_voice_45 (eT g A _ X) rfl inX11 (by decide) rfl f_X11_40 rfl ?_
      refine g_iload_n hG dX11_voice_48 rfl ?_
      obtain ⟨v19, σ20, q21, h⟩ := ob_some h
      refine g_kindOf hG dX11_voice_49 (by decide) v_X11_248 q21 ⟨Nat.le_of_ble_eq_true rfl, Nat.le_of_ble_eq_true rfl⟩ (Nat.le_of_ble_eq_true rfl) (fun b22 => ?_)
      refine g_astore hG dX11_voice_52 (by decide) ?_
      refine g_iload_n hG dX11_voice_54 rfl ?_
      rcases if_some h with ⟨c23, h⟩ | ⟨c23, h⟩
      · refine g_tabC (tgt := 80) (c := (0 : Int32)) hG c23 dX11_voice_55 (by decide) (by decide) rfl rfl ?_
        refine g_aload hG dX11_voice_80 rfl ?_
        refine g_aload_n hG dX11_voice_82 rfl ?_
        refine g_get (f := 4) hG dX11_voice_83 (eT g A _ X) rfl inX11 (by decide) rfl f_X11_60 rfl ?_
        refine g_iload_n hG dX11_voice_86 rfl ?_
        obtain ⟨v24, σ25, q26, h⟩ := ob_some h
        refine kc_X11_252 hG dX11_voice_87 b22 q26 _ rfl ⟨Nat.le_of_ble_eq_true rfl, Nat.le_of_ble_eq_true rfl⟩ (Nat.le_of_ble_eq_true rfl) rfl ?_
        cases h
        exact K _ _ dX11_voice_90
      ·
        rcases if_some h with ⟨c27, h⟩ | ⟨c27, h⟩
        · refine g_tabC (tgt := 91) (c := (1 : Int32)) hG c27 dX11_voice_55 (by decide) (by decide) rfl rfl ?_
          refine g_aload hG dX11_voice_91 rfl ?_
          refine g_aload_n hG dX11_voice_93 rfl ?_
          refine g_get (f := 4) hG dX11_voice_94 (eT g A _ X) rfl inX11 (by decide) rfl f_X11_60 rfl ?_
          refine g_iload_n hG dX11_voice_97 rfl ?_
          obtain ⟨v28, σ29, q30, h⟩ := ob_some h
          refine kc_X11_256 hG dX11_voice_98 b22 q30 _ rfl ⟨Nat.le_of_ble_eq_true rfl, Nat.le_of_ble_eq_true rfl⟩ (Nat.le_of_ble_eq_true rfl) rfl ?_
          cases h
          exact K _ _ dX11_voice_101
        ·
          rcases if_some h with ⟨c31, h⟩ | ⟨c31, h⟩
          · refine g_tabC (tgt := 102) (c := (2 : Int32)) hG c31 dX11_voice_55 (by decide) (by decide) rfl rfl ?_
            refine g_aload hG dX11_voice_102 rfl ?_
            refine g_aload_n hG dX11_voice_104 rfl ?_
            refine g_get (f := 4) hG dX11_voice_105 (eT g A _ X) rfl inX11 (by decide) rfl f_X11_60 rfl ?_
            refine g_iload_n hG dX11_voice_108 rfl ?_
            obtain ⟨v32, σ33, q34, h⟩ := ob_some h
            refine kc_X11_259 hG dX11_voice_109 b22 q34 _ rfl ⟨Nat.le_of_ble_eq_true rfl, Nat.le_of_ble_eq_true rfl⟩ (Nat.le_of_ble_eq_true rfl) rfl ?_
            cases h
            exact K _ _ dX11_voice_112
          ·
            refine g_tableOut (tgt := 113) hG dX11_voice_55 (by have n0 := i32ne c23 (n := 0) (by decide); have n1 := i32ne c27 (n := 1) (by decide); have n2 := i32ne c31 (n := 2) (by decide); omega) rfl ?_
            refine g_aload hG dX11_voice_113 rfl ?_
            refine g_aload_n hG dX11_voice_115 rfl ?_
            refine g_get (f := 4) hG dX11_voice_116 (eT g A _ X) rfl inX11 (by decide) rfl f_X11_60 rfl ?_
            refine g_iload_n hG dX11_voice_119 rfl ?_
            obtain ⟨v35, σ36, q37, h⟩ := ob_some h
            refine kc_X11_262 hG dX11_voice_120 b22 q37 _ rfl ⟨Nat.le_of_ble_eq_true rfl, Nat.le_of_ble_eq_true rfl⟩ (Nat.le_of_ble_eq_true rfl) rfl ?_
            cases h
            exact K _ _ dX11_voice_123
