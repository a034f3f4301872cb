section ST7
variable {g : GP} {l : Launch} {y : MethodName} {cc : ByteArray} {nL : Nat} {R : Room} {G : GT} {ce sl pc : Nat} {hp : va_W} {L : List (Nat × Value)} {st : List Value}
def kabv (j : Nat) : Int32 := ([-1, 0, 0, 0, 1, 2, 3] : List Int32).getD j 0
theorem g_kab (hG : IsG g l y cc nL R G) {idx : Nat} (d : decode cc pc = .ok (.getstatic idx, 3)) (hlk2 : Cond.fieldLink y.cls idx "SweptRound" "KIND_ABOVE" "[I" ∈ gtb) (k : G ce sl hp L (pc + 3) (.ref (g.2.2.2 0) :: st)) : G ce sl hp L pc st := by
  obtain ⟨p, e, s, m, args, below, meth, c, Q, hx, hb, hml, hown, hts, hK, hlk, hnm, rfl⟩ := hG
  intro H locs ls hP hD hS hl
  exact va_gets hx hb hK.2.2.2.2.2.1 hS hown (hts _ hlk2) (fun _ h => h) d (k H locs ls hP hD hS hl)
theorem g_kabi (hG : IsG g l y cc nL R G) {i : Int32} (d : decode cc pc = .ok (.iaload, 1)) (hi : inb i 7 = true) (k : G ce sl hp L (pc + 1) (.int (kabv (ix i)) :: st)) : G ce sl hp L pc (.int i :: .ref (g.2.2.2 0) :: st) := by
  obtain ⟨p, e, s, m, args, below, meth, c, Q, hx, hb, hml, hown, hts, hK, hlk, hnm, rfl⟩ := hG
  intro H locs ls hP hD hS hl
  exact va_ti hx hb hK.2.2.2.2.2.2 hS (inb_in hi) rfl d (k H locs ls hP hD hS hl)
theorem g_kabl (hG : IsG g l y cc nL R G) (d : decode cc pc = .ok (.arraylength, 1)) (k : G ce sl hp L (pc + 1) (.int 7 :: st)) : G ce sl hp L pc (.ref (g.2.2.2 0) :: st) := by
  obtain ⟨p, e, s, m, args, below, meth, c, Q, hx, hb, hml, hown, hts, hK, hlk, hnm, rfl⟩ := hG
  intro H locs ls hP hD hS hl
  exact va_tlen hx hb hK.2.2.2.2.2.2 hS (by decide) d (k H locs ls hP hD hS hl)
theorem g_lookup (hG : IsG g l y cc nL R G) {dflt : Int} {ps : Array (Int × Int)} {len : Nat} {x : Int32} {off : Int} {tgt : Nat} (d : decode cc pc = .ok (.lookupswitch dflt ps, len)) (hp1 : (ps.toList.zip (ps.toList.drop 1)).all (fun (a, next) => a.1 < next.1) = true) (ho : Op.lookupswitch.offset ps.toList dflt x.toInt = off) (ht : (pc : Int) + off = (tgt : Int)) (k : G ce sl hp L tgt st) : G ce sl hp L pc (.int x :: st) := by
  obtain ⟨p, e, s, m, args, below, meth, c, Q, hx, hb, hml, hown, hts, hK, hlk, hnm, rfl⟩ := hG
  intro H locs ls hP hD hS hl
  exact lv_lookup hx hb d hp1 ho ht (k H locs ls hP hD hS hl)
theorem g_lookC (hG : IsG g l y cc nL R G) {dflt : Int} {ps : Array (Int × Int)} {len : Nat} {x c : Int32} {off : Int} {tgt : Nat} (hxc : x = c) (d : decode cc pc = .ok (.lookupswitch dflt ps, len)) (hp1 : (ps.toList.zip (ps.toList.drop 1)).all (fun (a, next) => a.1 < next.1) = true) (ho : Op.lookupswitch.offset ps.toList dflt c.toInt = off) (ht : (pc : Int) + off = (tgt : Int)) (k : G ce sl hp L tgt st) : G ce sl hp L pc (.int x :: st) := by
  subst hxc
  exact g_lookup hG d hp1 ho ht k
def lookno : List (Int × Int) → Int → Prop
  | [], _ => True
  | (a, _) :: r, k => a ≠ k ∧ lookno r k
theorem lookno_eq (dflt k : Int) : ∀ (l : List (Int × Int)), lookno l k → Op.lookupswitch.offset l dflt k = dflt
  | [], _ => rfl
  | (a, b) :: r, h => by
    rw [Op.lookupswitch.offset_cons, if_neg h.1]
    exact lookno_eq dflt k r h.2
theorem g_lookD (hG : IsG g l y cc nL R G) {dflt : Int} {ps : Array (Int × Int)} {len : Nat} {x : Int32} {tgt : Nat} (d : decode cc pc = .ok (.lookupswitch dflt ps, len)) (hp1 : (ps.toList.zip (ps.toList.drop 1)).all (fun (a, next) => a.1 < next.1) = true) (hno : lookno ps.toList x.toInt) (ht : (pc : Int) + dflt = (tgt : Int)) (k : G ce sl hp L tgt st) : G ce sl hp L pc (.int x :: st) := g_lookup hG d hp1 (lookno_eq dflt x.toInt _ hno) ht k
end ST7
def N_T_isUnder_b4 : Nat → Int32 → Int32 → Int32 → CS → Option (Int32 × CS)
  | 0, _, _, _, _ => none
  | n + 1, x1, x2, x3, σ => (if (7 : Int32) ≤ x3 then (some ((0 : Int32), σ)) else (if x2 < 0 then (some ((0 : Int32), σ)) else (if x2 = x1 then (some ((1 : Int32), σ)) else (gd (inb x2 7) (lt (kabv (ix x2)) fun v5 => ((N_T_isUnder_b4  n) x1 v5 (x3 + (1 : Int32)) σ))))))
set_option maxRecDepth 100000 in
set_option maxHeartbeats 4000000 in
theorem s_N_T_isUnder_b4 {g : GP} {l : Launch} {A : Nat → Nat → Nat} {X : va_W} {G : GT} {v9 : Int32} {s9 : CS} (hG : IsG g l yX11_isUnder cX11_isUnder 4 { frames := 0, cells := 0, slots := 0, locals := 0 } G) (K : ∀ L pc, decode cX11_isUnder pc = .ok (.ireturn, 1) → isb v9 = true → G 0 0 (wC g A s9 X) L pc [.int v9]) : ∀ (n : Nat) (x1 : Int32) (x2 : Int32) (x3 : Int32) (σ : CS) (h : N_T_isUnder_b4  n x1 x2 x3 σ = some (v9, s9)), G 0 0 (wC g A σ X) [(1, .int x1), (2, .int x2), (3, .int x3)] 4 [] := by
  intro n
  induction n with
  | zero => intro _ _ _ σ h; cases h
  | succ n ih =>
    intro x1 x2 x3 σ h
    unfold N_T_isUnder_b4 at h
    refine g_iload_n hG dX11_isUnder_4 rfl ?_
    refine g_kab hG dX11_isUnder_5 f_X11_147 ?_
    refine g_kabl hG dX11_isUnder_8 ?_
    rcases if_some h with ⟨c1, h⟩ | ⟨c1, h⟩
    · refine g_icmp_ge (tgt := 35) hG dX11_isUnder_9 rfl (fun _ => ?_) (fun q => absurd c1 q)
      refine g_iconstv hG dX11_isUnder_35 ki_0 ?_
      cases h
      exact K _ _ dX11_isUnder_36 (by decide)
    · refine g_icmp_ge (tgt := 35) hG dX11_isUnder_9 rfl (fun q => absurd q c1) (fun _ => ?_)
      refine g_iload_n hG dX11_isUnder_12 rfl ?_
      rcases if_some h with ⟨c2, h⟩ | ⟨c2, h⟩
      · refine g_if_lt (tgt := 35) hG dX11_isUnder_13 rfl (fun _ => ?_) (fun q => absurd c2 q)
        refine g_iconstv hG dX11_isUnder_35 ki_0 ?_
        cases h
        exact K _ _ dX11_isUnder_36 (by decide)
      · refine g_if_lt (tgt := 35) hG dX11_isUnder_13 rfl (fun q => absurd q c2) (fun _ => ?_)
        refine g_iload_n hG dX11_isUnder_16 rfl ?_
        refine g_iload_n hG dX11_isUnder_17 rfl ?_
        rcases if_some h with ⟨c3, h⟩ | ⟨c3, h⟩
        · refine g_icmp_ne (tgt := 23) hG dX11_isUnder_18 rfl (fun q => absurd c3 q) (fun _ => ?_)
          refine g_iconstv hG dX11_isUnder_21 ki_1 ?_
          cases h
          exact K _ _ dX11_isUnder_22 (by decide)
        · refine g_icmp_ne (tgt := 23) hG dX11_isUnder_18 rfl (fun _ => ?_) (fun q => absurd q c3)
          refine g_kab hG dX11_isUnder_23 f_X11_147 ?_
          refine g_iload_n hG dX11_isUnder_26 rfl ?_
          obtain ⟨b4, h⟩ := gd_some h
          refine g_kabi hG dX11_isUnder_27 b4 ?_
          obtain ⟨v5, e6, h⟩ := lt_ex h
          refine g_nam e6 ?_
          refine g_istore_n hG dX11_isUnder_28 (by decide) ?_
          refine g_iincv (c := (1 : Int32)) hG dX11_isUnder_29 rfl (by decide) (by decide) ?_
          refine g_goto (tgt := 4) hG dX11_isUnder_32 rfl ?_
          refine g_loc hG [(1, .int x1), (2, .int v5), (3, .int (x3 + (1 : Int32)))] ⟨rfl, rfl, rfl, trivial⟩ ?_
          exact ih _ _ _ _ h
def N_T_isUnder (x0 : Int32) (x1 : Int32) (σ : CS) : Option (Int32 × CS) := (N_T_isUnder_b4  FU x1 x0 (0 : Int32) σ)
set_option maxRecDepth 100000 in
set_option maxHeartbeats 4000000 in
theorem c_N_T_isUnder {g : GP} {l : Launch} {A : Nat → Nat → Nat} {X : va_W} {v9 : Int32} {s9 : CS} {x0 : Int32} {x1 : Int32} {σ : CS} (h : N_T_isUnder x0 x1 σ = some (v9, s9)) : CI g l yX11_isUnder cX11_isUnder 4 (some .boolean) { frames := 0, cells := 0, slots := 0, locals := 0 } [.int x0, .int x1] (wC g A σ X) (fun r0 w => r0 = v9 ∧ w = wC g A s9 X) := by
  refine CI.mk (by decide) (Nat.le_of_ble_eq_true rfl) (fun G hG hret => ?_)
  have K : ∀ L pc, decode cX11_isUnder pc = .ok (.ireturn, 1) → isb v9 = true → G 0 0 (wC g A s9 X) L pc [.int v9] := fun L pc d hz => hret _ L pc v9 d (isb_n hz) ⟨rfl, rfl⟩
  unfold N_T_isUnder at h
  refine g_iload_n hG dX11_isUnder_0 rfl ?_
  refine g_istore_n hG dX11_isUnder_1 (by decide) ?_
  refine g_iconstv hG dX11_isUnder_2 ki_0 ?_
  refine g_istore_n hG dX11_isUnder_3 (by decide) ?_
  refine g_loc hG [(1, .int x1), (2, .int x0), (3, .int (0 : Int32))] ⟨rfl, rfl, rfl, trivial⟩ ?_
  exact s_N_T_isUnder_b4  hG K FU _ _ _ _ h
def N_T_as (x1 : Int32) (x2 : Int32) (σ : CS) : Option (Int32 × CS) := (ob (N_S_has 0 x1 σ) fun v1 σ2 => (if v1 = 0 then (ob (N_T_fail (-1000000001 : Int32) σ2) fun v5 σ6 => (some (v5, σ6))) else (ob (N_T_within x2 (0 : Int32) ((7 : Int32) - (1 : Int32)) σ2) fun v8 σ9 => (if v8 = 0 then (ob (N_T_fail (-1000000001 : Int32) σ9) fun v12 σ13 => (some (v12, σ13))) else (gd (inb x1 12) (ob (N_T_isUnder (σ9.2.1 0 1 (ix x1)) x2 σ9) fun v16 σ17 => (if v16 = 0 then (ob (N_T_fail (-1000000005 : Int32) σ17) fun v20 σ21 => (some (v20, σ21))) else (gd (inb x1 12) (some ((σ17.2.1 0 2 (ix x1)), σ17))))))))))
set_option maxRecDepth 100000 in
set_option maxHeartbeats 4000000 in
theorem c_N_T_as {g : GP} {l : Launch} {A : Nat → Nat → Nat} {X : va_W} {v9 : Int32} {s9 : CS} {x1 : Int32} {x2 : Int32} {σ : CS} (h : N_T_as x1 x2 σ = some (v9, s9)) : CI g l yX11_as cX11_as 3 (some .int) { frames := 2, cells := 0, slots := 0, locals := 43 } [.ref (A 5 99), .int x1, .int x2] (wC g A σ X) (fun r0 w => r0 = v9 ∧ w = wC g A s9 X) := by
  refine CI.mk (by decide) (Nat.le_of_ble_eq_true rfl) (fun G hG hret => ?_)
  have K : ∀ L pc, decode cX11_as pc = .ok (.ireturn, 1) → G 0 0 (wC g A s9 X) L pc [.int v9] := fun L pc d => hret _ L pc v9 d rfl ⟨rfl, rfl⟩
  unfold N_T_as at h
  refine g_aload_n hG dX11_as_0 rfl ?_
  refine g_get (f := 0) hG dX11_as_1 (eT g A _ X) rfl inX11 (by decide) rfl f_X11_40 rfl ?_
  refine g_iload_n hG dX11_as_4 rfl ?_
  obtain ⟨v1, σ2, q3, h⟩ := ob_some h
  refine g_cV hG dX11_as_5 (c_N_S_has (by decide) q3) b_X7_has v_X11_113 rfl (eS (by decide)) rfl ⟨Nat.le_of_ble_eq_true rfl, Nat.le_of_ble_eq_true rfl⟩ ⟨rfl, rfl⟩ ⟨Nat.zero_le _, Nat.zero_le _⟩ _ rfl (Nat.le_of_ble_eq_true rfl) ?_
  rcases if_some h with ⟨c4, h⟩ | ⟨c4, h⟩
  · refine g_if_eq (tgt := 25) hG dX11_as_8 rfl (fun _ => ?_) (fun q => absurd c4 q)
    refine g_aload_n hG dX11_as_25 rfl ?_
    refine g_ldc hG dX11_as_26 k_X11_83 ?_
    obtain ⟨v5, σ6, q7, h⟩ := ob_some h
    refine g_cV hG dX11_as_28 (c_N_T_fail q7) b_X11_fail v_X11_84 rfl (eT g A _ X) rfl ⟨Nat.le_of_ble_eq_true rfl, Nat.le_of_ble_eq_true rfl⟩ ⟨rfl, rfl⟩ ⟨Nat.zero_le _, Nat.zero_le _⟩ _ rfl (Nat.le_of_ble_eq_true rfl) ?_
    cases h
    exact K _ _ dX11_as_31
  · refine g_if_eq (tgt := 25) hG dX11_as_8 rfl (fun q => absurd q c4) (fun _ => ?_)
    refine g_iload_n hG dX11_as_11 rfl ?_
    refine g_iconstv hG dX11_as_12 ki_0 ?_
    refine g_kab hG dX11_as_13 f_X11_147 ?_
    refine g_kabl hG dX11_as_16 ?_
    refine g_iconstv hG dX11_as_17 ki_1 ?_
    refine g_isub hG dX11_as_18 ?_
    obtain ⟨v8, σ9, q10, h⟩ := ob_some h
    refine g_cS hG dX11_as_19 (c_N_T_within q10) b_X11_within v_X11_79 rfl ⟨Nat.le_of_ble_eq_true rfl, Nat.le_of_ble_eq_true rfl⟩ ⟨rfl, rfl⟩ ⟨Nat.zero_le _, Nat.zero_le _⟩ _ rfl (Nat.le_of_ble_eq_true rfl) ?_
    rcases if_some h with ⟨c11, h⟩ | ⟨c11, h⟩
    · refine g_if_ne (tgt := 32) hG dX11_as_22 rfl (fun q => absurd c11 q) (fun _ => ?_)
      refine g_aload_n hG dX11_as_25 rfl ?_
      refine g_ldc hG dX11_as_26 k_X11_83 ?_
      obtain ⟨v12, σ13, q14, h⟩ := ob_some h
      refine g_cV hG dX11_as_28 (c_N_T_fail q14) b_X11_fail v_X11_84 rfl (eT g A _ X) rfl ⟨Nat.le_of_ble_eq_true rfl, Nat.le_of_ble_eq_true rfl⟩ ⟨rfl, rfl⟩ ⟨Nat.zero_le _, Nat.zero_le _⟩ _ rfl (Nat.le_of_ble_eq_true rfl) ?_
      cases h
      exact K _ _ dX11_as_31
    · refine g_if_ne (tgt := 32) hG dX11_as_22 rfl (fun _ => ?_) (fun q => absurd q c11)
      refine g_aload_n hG dX11_as_32 rfl ?_
      refine g_get (f := 0) hG dX11_as_33 (eT g A _ X) rfl inX11 (by decide) rfl f_X11_40 rfl ?_
      refine g_getN (f := 1) hG dX11_as_36 (eS (by decide)) rfl inX7 (by decide) rfl f_X11_117 rfl ?_
      refine g_iload_n hG dX11_as_39 rfl ?_
      obtain ⟨b15, h⟩ := gd_some h
      refine c_iald hG dX11_as_40 (aS1 (d := 0) (by decide)) b15 rfl ?_
      refine g_iload_n hG dX11_as_41 rfl ?_
      obtain ⟨v16, σ17, q18, h⟩ := ob_some h
      refine g_cS hG dX11_as_42 (c_N_T_isUnder q18) b_X11_isUnder v_X11_150 rfl ⟨Nat.le_of_ble_eq_true rfl, Nat.le_of_ble_eq_true rfl⟩ ⟨rfl, rfl⟩ ⟨Nat.zero_le _, Nat.zero_le _⟩ _ rfl (Nat.le_of_ble_eq_true rfl) ?_
      rcases if_some h with ⟨c19, h⟩ | ⟨c19, h⟩
      · refine g_if_ne (tgt := 55) hG dX11_as_45 rfl (fun q => absurd c19 q) (fun _ => ?_)
        refine g_aload_n hG dX11_as_48 rfl ?_
        refine g_ldc hG dX11_as_49 k_X11_154 ?_
        obtain ⟨v20, σ21, q22, h⟩ := ob_some h
        refine g_cV hG dX11_as_51 (c_N_T_fail q22) b_X11_fail v_X11_84 rfl (eT g A _ X) rfl ⟨Nat.le_of_ble_eq_true rfl, Nat.le_of_ble_eq_true rfl⟩ ⟨rfl, rfl⟩ ⟨Nat.zero_le _, Nat.zero_le _⟩ _ rfl (Nat.le_of_ble_eq_true rfl) ?_
        cases h
        exact K _ _ dX11_as_54
      · refine g_if_ne (tgt := 55) hG dX11_as_45 rfl (fun _ => ?_) (fun q => absurd q c19)
        refine g_aload_n hG dX11_as_55 rfl ?_
        refine g_get (f := 0) hG dX11_as_56 (eT g A _ X) rfl inX11 (by decide) rfl f_X11_40 rfl ?_
        refine g_getN (f := 2) hG dX11_as_59 (eS (by decide)) rfl inX7 (by decide) rfl f_X11_120 rfl ?_
        refine g_iload_n hG dX11_as_62 rfl ?_
        obtain ⟨b23, h⟩ := gd_some h
        refine c_iald hG dX11_as_63 (aS2 (d := 0) (by decide)) b23 rfl ?_
        cases h
        exact K _ _ dX11_as_64
def N_Q_isDigit (x0 : Int32) (σ : CS) : Option (Int32 × CS) := (ob (N_T_within x0 (48 : Int32) (57 : Int32) σ) fun v1 σ2 => (gd (isb v1) (some (v1, σ2))))
set_option maxRecDepth 100000 in
set_option maxHeartbeats 4000000 in
theorem c_N_Q_isDigit {g : GP} {l : Launch} {A : Nat → Nat → Nat} {X : va_W} {v9 : Int32} {s9 : CS} {x0 : Int32} {σ : CS} (h : N_Q_isDigit x0 σ = some (v9, s9)) : CI g l yX5_isDigit cX5_isDigit 1 (some .boolean) { frames := 1, cells := 0, slots := 0, locals := 22 } [.int x0] (wC g A σ X) (fun r0 w => r0 = v9 ∧ w = wC g A s9 X) := by
  refine CI.mk (by decide) (Nat.le_of_ble_eq_true rfl) (fun G hG hret => ?_)
  have K : ∀ L pc, decode cX5_isDigit pc = .ok (.ireturn, 1) → isb v9 = true → G 0 0 (wC g A s9 X) L pc [.int v9] := fun L pc d hz => hret _ L pc v9 d (isb_n hz) ⟨rfl, rfl⟩
  unfold N_Q_isDigit at h
  refine g_iload_n hG dX5_isDigit_0 rfl ?_
  refine g_bipushv hG dX5_isDigit_1 kb_48 ?_
  refine g_bipushv hG dX5_isDigit_3 kb_57 ?_
  obtain ⟨v1, σ2, q3, h⟩ := ob_some h
  refine g_cSN hG dX5_isDigit_5 (c_N_T_within q3) b_X11_within v_X5_77 rfl ⟨Nat.le_of_ble_eq_true rfl, Nat.le_of_ble_eq_true rfl⟩ ⟨rfl, rfl⟩ ⟨Nat.zero_le _, Nat.zero_le _⟩ _ rfl (Nat.le_of_ble_eq_true rfl) ?_
  obtain ⟨b4, h⟩ := gd_some h
  cases h
  exact K _ _ dX5_isDigit_8 b4
def N_Q_next  (σ : CS) : Option (Int32 × CS) := (if (σ.1 3 2) ≤ (σ.1 3 3) then (some ((-1 : Int32), σ)) else (gd (inb (σ.1 3 3) 50) (some ((σ.2.1 3 0 (ix (σ.1 3 3))), σ))))
set_option maxRecDepth 100000 in
set_option maxHeartbeats 4000000 in
theorem c_N_Q_next {g : GP} {l : Launch} {A : Nat → Nat → Nat} {X : va_W} {v9 : Int32} {s9 : CS} {σ : CS} (h : N_Q_next  σ = some (v9, s9)) : CI g l yX5_next cX5_next 1 (some .int) { frames := 0, cells := 0, slots := 0, locals := 0 } [.ref (A 3 99)] (wC g A σ X) (fun r0 w => r0 = v9 ∧ w = wC g A s9 X) := by
  refine CI.mk (by decide) (Nat.le_of_ble_eq_true rfl) (fun G hG hret => ?_)
  have K : ∀ L pc, decode cX5_next pc = .ok (.ireturn, 1) → G 0 0 (wC g A s9 X) L pc [.int v9] := fun L pc d => hret _ L pc v9 d rfl ⟨rfl, rfl⟩
  unfold N_Q_next at h
  refine g_aload_n hG dX5_next_0 rfl ?_
  refine g_get (f := 3) hG dX5_next_1 (eQ g A _ X) rfl inX5 (by decide) rfl f_X5_31 rfl ?_
  refine g_aload_n hG dX5_next_4 rfl ?_
  refine g_get (f := 2) hG dX5_next_5 (eQ g A _ X) rfl inX5 (by decide) rfl f_X5_24 rfl ?_
  rcases if_some h with ⟨c1, h⟩ | ⟨c1, h⟩
  · refine g_icmp_ge (tgt := 23) hG dX5_next_8 rfl (fun _ => ?_) (fun q => absurd c1 q)
    refine g_iconstv hG dX5_next_23 ki_m1 ?_
    cases h
    exact K _ _ dX5_next_24
  · refine g_icmp_ge (tgt := 23) hG dX5_next_8 rfl (fun q => absurd q c1) (fun _ => ?_)
    refine g_aload_n hG dX5_next_11 rfl ?_
    refine g_get (f := 0) hG dX5_next_12 (eQ g A _ X) rfl inX5 (by decide) rfl f_X5_9 rfl ?_
    refine g_aload_n hG dX5_next_15 rfl ?_
    refine g_get (f := 3) hG dX5_next_16 (eQ g A _ X) rfl inX5 (by decide) rfl f_X5_31 rfl ?_
    obtain ⟨b2, h⟩ := gd_some h
    refine c_iald hG dX5_next_19 aQ0 b2 rfl ?_
    refine g_goto (tgt := 24) hG dX5_next_20 rfl ?_
    cases h
    exact K _ _ dX5_next_24
def N_Q_write (x1 : Int32) (σ : CS) : Option (Int32 × CS) := (if (50 : Int32) ≤ (σ.1 3 4) then (some ((0 : Int32), σ)) else (gd (inb (σ.1 3 4) 50) (lt (sa σ 3 1 (upd (σ.2.1 3 1) (ix (σ.1 3 4)) x1)) fun σ2 => (lt (si σ2 3 4 ((σ2.1 3 4) + (1 : Int32))) fun σ5 => (some ((0 : Int32), σ5))))))
set_option maxRecDepth 100000 in
set_option maxHeartbeats 4000000 in
theorem c_N_Q_write {g : GP} {l : Launch} {A : Nat → Nat → Nat} {X : va_W} {v9 : Int32} {s9 : CS} {x1 : Int32} {σ : CS} (h : N_Q_write x1 σ = some (v9, s9)) : CV g l yX5_write cX5_write 2 { frames := 0, cells := 0, slots := 0, locals := 0 } [.ref (A 3 99), .int x1] (wC g A σ X) (fun w => w = wC g A s9 X) := by
  refine CV.mk (by decide) (Nat.le_of_ble_eq_true rfl) (fun G hG hret => ?_)
  have K : ∀ L pc, decode cX5_write pc = .ok (.return_, 1) → G 0 0 (wC g A s9 X) L pc [] := fun L pc d => hret _ L pc d rfl
  unfold N_Q_write at h
  refine g_aload_n hG dX5_write_0 rfl ?_
  refine g_get (f := 4) hG dX5_write_1 (eQ g A _ X) rfl inX5 (by decide) rfl f_X5_34 rfl ?_
  refine g_aload_n hG dX5_write_4 rfl ?_
  refine g_get (f := 1) hG dX5_write_5 (eQ g A _ X) rfl inX5 (by decide) rfl f_X5_15 rfl ?_
  refine c_alen (v := (50 : Int32)) hG dX5_write_8 aQ1 (by decide) ?_
  rcases if_some h with ⟨c1, h⟩ | ⟨c1, h⟩
  · refine g_icmp_ge (tgt := 32) hG dX5_write_9 rfl (fun _ => ?_) (fun q => absurd c1 q)
    cases h
    exact K _ _ dX5_write_32
  · refine g_icmp_ge (tgt := 32) hG dX5_write_9 rfl (fun q => absurd q c1) (fun _ => ?_)
    refine g_aload_n hG dX5_write_12 rfl ?_
    refine g_get (f := 1) hG dX5_write_13 (eQ g A _ X) rfl inX5 (by decide) rfl f_X5_15 rfl ?_
    refine g_aload_n hG dX5_write_16 rfl ?_
    refine g_get (f := 4) hG dX5_write_17 (eQ g A _ X) rfl inX5 (by decide) rfl f_X5_34 rfl ?_
    refine g_iload_n hG dX5_write_20 rfl ?_
    obtain ⟨b4, h⟩ := gd_some h
    obtain ⟨σ2, e3, h⟩ := lt_ex h
    refine c_iast hG e3 dX5_write_21 aQ1 b4 rfl ?_
    refine g_aload_n hG dX5_write_22 rfl ?_
    refine g_dup hG dX5_write_23 rfl ?_
    refine g_get (f := 4) hG dX5_write_24 (eQ g A _ X) rfl inX5 (by decide) rfl f_X5_34 rfl ?_
    refine g_iconstv hG dX5_write_27 ki_1 ?_
    refine g_iadd hG dX5_write_28 ?_
    obtain ⟨σ5, e6, h⟩ := lt_ex h
    refine q_put 4 hG e6 dX5_write_29 f_X5_34 (by decide) (by decide) rfl rfl rfl ?_
    cases h
    exact K _ _ dX5_write_32
def N_Q_readNumber_b4 : Nat → Int32 → Int32 → CS → Option (Int32 × CS)
  | 0, _, _, _ => none
  | n + 1, x1, x2, σ => (if (4 : Int32) ≤ x2 then (ob (N_Q_write x1 σ) fun v2 σ3 => (some ((0 : Int32), σ3))) else (ob (N_Q_next  σ) fun v5 σ6 => (ob (N_Q_isDigit v5 σ6) fun v8 σ9 => (if v8 = 0 then (ob (N_Q_write x1 σ9) fun v12 σ13 => (some ((0 : Int32), σ13))) else (ob (N_Q_next  σ9) fun v15 σ16 => (lt (((x1 * (10 : Int32)) + v15) - (48 : Int32)) fun v18 => (lt (si σ16 3 3 ((σ16.1 3 3) + (1 : Int32))) fun σ20 => ((N_Q_readNumber_b4  n) v18 (x2 + (1 : Int32)) σ20))))))))
set_option maxRecDepth 100000 in
set_option maxHeartbeats 4000000 in
theorem s_N_Q_readNumber_b4 {g : GP} {l : Launch} {A : Nat → Nat → Nat} {X : va_W} {G : GT} {v9 : Int32} {s9 : CS} (hG : IsG g l yX5_readNumber cX5_readNumber 3 { frames := 2, cells := 0, slots := 0, locals := 42 } G) (K : ∀ L pc, decode cX5_readNumber pc = .ok (.return_, 1) → G 0 0 (wC g A s9 X) L pc []) : ∀ (n : Nat) (x1 : Int32) (x2 : Int32) (σ : CS) (h : N_Q_readNumber_b4  n x1 x2 σ = some (v9, s9)), G 0 0 (wC g A σ X) [(0, .ref (A 3 99)), (1, .int x1), (2, .int x2)] 4 [] := by
  intro n
  induction n with
  | zero => intro _ _ σ h; cases h
  | succ n ih =>
    intro x1 x2 σ h
    unfold N_Q_readNumber_b4 at h
    refine g_iload_n hG dX5_readNumber_4 rfl ?_
    refine g_iconstv hG dX5_readNumber_5 ki_4 ?_
    rcases if_some h with ⟨c1, h⟩ | ⟨c1, h⟩
    · refine g_icmp_ge (tgt := 48) hG dX5_readNumber_6 rfl (fun _ => ?_) (fun q => absurd c1 q)
      refine g_aload_n hG dX5_readNumber_48 rfl ?_
      refine g_iload_n hG dX5_readNumber_49 rfl ?_
      obtain ⟨v2, σ3, q4, h⟩ := ob_some h
      refine g_cVv hG dX5_readNumber_50 (c_N_Q_write q4) b_X5_write v_X5_58 rfl (eQ g A _ X) rfl ⟨Nat.le_of_ble_eq_true rfl, Nat.le_of_ble_eq_true rfl⟩ ⟨rfl, rfl⟩ ⟨Nat.zero_le _, Nat.zero_le _⟩ _ rfl (Nat.le_of_ble_eq_true rfl) ?_
      cases h
      exact K _ _ dX5_readNumber_53
    · refine g_icmp_ge (tgt := 48) hG dX5_readNumber_6 rfl (fun q => absurd q c1) (fun _ => ?_)
      refine g_aload_n hG dX5_readNumber_9 rfl ?_
      obtain ⟨v5, σ6, q7, h⟩ := ob_some h
      refine g_cV hG dX5_readNumber_10 (c_N_Q_next q7) b_X5_next v_X5_50 rfl (eQ g A _ X) rfl ⟨Nat.le_of_ble_eq_true rfl, Nat.le_of_ble_eq_true rfl⟩ ⟨rfl, rfl⟩ ⟨Nat.zero_le _, Nat.zero_le _⟩ _ rfl (Nat.le_of_ble_eq_true rfl) ?_
      obtain ⟨v8, σ9, q10, h⟩ := ob_some h
      refine g_cS hG dX5_readNumber_13 (c_N_Q_isDigit q10) b_X5_isDigit v_X5_62 rfl ⟨Nat.le_of_ble_eq_true rfl, Nat.le_of_ble_eq_true rfl⟩ ⟨rfl, rfl⟩ ⟨Nat.zero_le _, Nat.zero_le _⟩ _ rfl (Nat.le_of_ble_eq_true rfl) ?_
      rcases if_some h with ⟨c11, h⟩ | ⟨c11, h⟩
      · refine g_if_eq (tgt := 48) hG dX5_readNumber_16 rfl (fun _ => ?_) (fun q => absurd c11 q)
        refine g_aload_n hG dX5_readNumber_48 rfl ?_
        refine g_iload_n hG dX5_readNumber_49 rfl ?_
        obtain ⟨v12, σ13, q14, h⟩ := ob_some h
        refine g_cVv hG dX5_readNumber_50 (c_N_Q_write q14) b_X5_write v_X5_58 rfl (eQ g A _ X) rfl ⟨Nat.le_of_ble_eq_true rfl, Nat.le_of_ble_eq_true rfl⟩ ⟨rfl, rfl⟩ ⟨Nat.zero_le _, Nat.zero_le _⟩ _ rfl (Nat.le_of_ble_eq_true rfl) ?_
        cases h
        exact K _ _ dX5_readNumber_53
      · refine g_if_eq (tgt := 48) hG dX5_readNumber_16 rfl (fun q => absurd q c11) (fun _ => ?_)
        refine g_iload_n hG dX5_readNumber_19 rfl ?_
        refine g_bipushv hG dX5_readNumber_20 kb_10 ?_
        refine g_imul hG dX5_readNumber_22 ?_
        refine g_aload_n hG dX5_readNumber_23 rfl ?_
        obtain ⟨v15, σ16, q17, h⟩ := ob_some h
        refine g_cV hG dX5_readNumber_24 (c_N_Q_next q17) b_X5_next v_X5_50 rfl (eQ g A _ X) rfl ⟨Nat.le_of_ble_eq_true rfl, Nat.le_of_ble_eq_true rfl⟩ ⟨rfl, rfl⟩ ⟨Nat.zero_le _, Nat.zero_le _⟩ _ rfl (Nat.le_of_ble_eq_true rfl) ?_
        refine g_iadd hG dX5_readNumber_27 ?_
        refine g_bipushv hG dX5_readNumber_28 kb_48 ?_
        refine g_isub hG dX5_readNumber_30 ?_
        obtain ⟨v18, e19, h⟩ := lt_ex h
        refine g_nam e19 ?_
        refine g_istore_n hG dX5_readNumber_31 (by decide) ?_
        refine g_aload_n hG dX5_readNumber_32 rfl ?_
        refine g_dup hG dX5_readNumber_33 rfl ?_
        refine g_get (f := 3) hG dX5_readNumber_34 (eQ g A _ X) rfl inX5 (by decide) rfl f_X5_31 rfl ?_
        refine g_iconstv hG dX5_readNumber_37 ki_1 ?_
        refine g_iadd hG dX5_readNumber_38 ?_
        obtain ⟨σ20, e21, h⟩ := lt_ex h
        refine q_put 3 hG e21 dX5_readNumber_39 f_X5_31 (by decide) (by decide) rfl rfl rfl ?_
        refine g_iincv (c := (1 : Int32)) hG dX5_readNumber_42 rfl (by decide) (by decide) ?_
        refine g_goto (tgt := 4) hG dX5_readNumber_45 rfl ?_
        refine g_loc hG [(0, .ref (A 3 99)), (1, .int v18), (2, .int (x2 + (1 : Int32)))] ⟨rfl, rfl, rfl, trivial⟩ ?_
        exact ih _ _ _ h
def N_Q_readNumber  (σ : CS) : Option (Int32 × CS) := (N_Q_readNumber_b4  FU (0 : Int32) (0 : Int32) σ)
set_option maxRecDepth 100000 in
set_option maxHeartbeats 4000000 in
theorem c_N_Q_readNumber {g : GP} {l : Launch} {A : Nat → Nat → Nat} {X : va_W} {v9 : Int32} {s9 : CS} {σ : CS} (h : N_Q_readNumber  σ = some (v9, s9)) : CV g l yX5_readNumber cX5_readNumber 3 { frames := 2, cells := 0, slots := 0, locals := 42 } [.ref (A 3 99)] (wC g A σ X) (fun w => w = wC g A s9 X) := by
  refine CV.mk (by decide) (Nat.le_of_ble_eq_true rfl) (fun G hG hret => ?_)
  have K : ∀ L pc, decode cX5_readNumber pc = .ok (.return_, 1) → G 0 0 (wC g A s9 X) L pc [] := fun L pc d => hret _ L pc d rfl
  unfold N_Q_readNumber at h
  refine g_iconstv hG dX5_readNumber_0 ki_0 ?_
  refine g_istore_n hG dX5_readNumber_1 (by decide) ?_
  refine g_iconstv hG dX5_readNumber_2 ki_0 ?_
  refine g_istore_n hG dX5_readNumber_3 (by decide) ?_
  refine g_loc hG [(0, .ref (A 3 99)), (1, .int (0 : Int32)), (2, .int (0 : Int32))] ⟨rfl, rfl, rfl, trivial⟩ ?_
  exact s_N_Q_readNumber_b4  hG K FU _ _ _ h
def N_Q_levelOf (x0 : Int32) (σ : CS) : Option (Int32 × CS) := (if x0 = (37 : Int32) then (some ((4 : Int32), σ)) else (if x0 = (38 : Int32) then (some ((1 : Int32), σ)) else (if x0 = (42 : Int32) then (some ((4 : Int32), σ)) else (if x0 = (43 : Int32) then (some ((3 : Int32), σ)) else (if x0 = (45 : Int32) then (some ((3 : Int32), σ)) else (if x0 = (47 : Int32) then (some ((4 : Int32), σ)) else (if x0 = (60 : Int32) then (some ((2 : Int32), σ)) else (if x0 = (61 : Int32) then (some ((2 : Int32), σ)) else (if x0 = (62 : Int32) then (some ((2 : Int32), σ)) else (if x0 = (124 : Int32) then (some ((0 : Int32), σ)) else (some ((-1 : Int32), σ))))))))))))
set_option maxRecDepth 100000 in
set_option maxHeartbeats 4000000 in
theorem c_N_Q_levelOf {g : GP} {l : Launch} {A : Nat → Nat → Nat} {X : va_W} {v9 : Int32} {s9 : CS} {x0 : Int32} {σ : CS} (h : N_Q_levelOf x0 σ = some (v9, s9)) : CI g l yX5_levelOf cX5_levelOf 1 (some .int) { frames := 0, cells := 0, slots := 0, locals := 0 } [.int x0] (wC g A σ X) (fun r0 w => r0 = v9 ∧ w = wC g A s9 X) := by
  refine CI.mk (by decide) (Nat.le_of_ble_eq_true rfl) (fun G hG hret => ?_)
  have K : ∀ L pc, decode cX5_levelOf pc = .ok (.ireturn, 1) → G 0 0 (wC g A s9 X) L pc [.int v9] := fun L pc d => hret _ L pc v9 d rfl ⟨rfl, rfl⟩
  unfold N_Q_levelOf at h
  refine g_iload_n hG dX5_levelOf_0 rfl ?_
  rcases if_some h with ⟨c1, h⟩ | ⟨c1, h⟩
  · refine g_lookC (tgt := 100) (c := (37 : Int32)) hG c1 dX5_levelOf_1 rfl rfl rfl ?_
    refine g_iconstv hG dX5_levelOf_100 ki_4 ?_
    cases h
    exact K _ _ dX5_levelOf_101
  ·
    rcases if_some h with ⟨c2, h⟩ | ⟨c2, h⟩
    · refine g_lookC (tgt := 94) (c := (38 : Int32)) hG c2 dX5_levelOf_1 rfl rfl rfl ?_
      refine g_iconstv hG dX5_levelOf_94 ki_1 ?_
      cases h
      exact K _ _ dX5_levelOf_95
    ·
      rcases if_some h with ⟨c3, h⟩ | ⟨c3, h⟩
      · refine g_lookC (tgt := 100) (c := (42 : Int32)) hG c3 dX5_levelOf_1 rfl rfl rfl ?_
        refine g_iconstv hG dX5_levelOf_100 ki_4 ?_
        cases h
        exact K _ _ dX5_levelOf_101
      ·
        rcases if_some h with ⟨c4, h⟩ | ⟨c4, h⟩
        · refine g_lookC (tgt := 98) (c := (43 : Int32)) hG c4 dX5_levelOf_1 rfl rfl rfl ?_
          refine g_iconstv hG dX5_levelOf_98 ki_3 ?_
          cases h
          exact K _ _ dX5_levelOf_99
        ·
          rcases if_some h with ⟨c5, h⟩ | ⟨c5, h⟩
          · refine g_lookC (tgt := 98) (c := (45 : Int32)) hG c5 dX5_levelOf_1 rfl rfl rfl ?_
            refine g_iconstv hG dX5_levelOf_98 ki_3 ?_
            cases h
            exact K _ _ dX5_levelOf_99
          ·
            rcases if_some h with ⟨c6, h⟩ | ⟨c6, h⟩
            · refine g_lookC (tgt := 100) (c := (47 : Int32)) hG c6 dX5_levelOf_1 rfl rfl rfl ?_
              refine g_iconstv hG dX5_levelOf_100 ki_4 ?_
              cases h
              exact K _ _ dX5_levelOf_101
            ·
              rcases if_some h with ⟨c7, h⟩ | ⟨c7, h⟩
              · refine g_lookC (tgt := 96) (c := (60 : Int32)) hG c7 dX5_levelOf_1 rfl rfl rfl ?_
                refine g_iconstv hG dX5_levelOf_96 ki_2 ?_
                cases h
                exact K _ _ dX5_levelOf_97
              ·
                rcases if_some h with ⟨c8, h⟩ | ⟨c8, h⟩
                · refine g_lookC (tgt := 96) (c := (61 : Int32)) hG c8 dX5_levelOf_1 rfl rfl rfl ?_
                  refine g_iconstv hG dX5_levelOf_96 ki_2 ?_
                  cases h
                  exact K _ _ dX5_levelOf_97
                ·
                  rcases if_some h with ⟨c9, h⟩ | ⟨c9, h⟩
                  · refine g_lookC (tgt := 96) (c := (62 : Int32)) hG c9 dX5_levelOf_1 rfl rfl rfl ?_
                    refine g_iconstv hG dX5_levelOf_96 ki_2 ?_
                    cases h
                    exact K _ _ dX5_levelOf_97
                  ·
                    rcases if_some h with ⟨c10, h⟩ | ⟨c10, h⟩
                    · refine g_lookC (tgt := 92) (c := (124 : Int32)) hG c10 dX5_levelOf_1 rfl rfl rfl ?_
                      refine g_iconstv hG dX5_levelOf_92 ki_0 ?_
                      cases h
                      exact K _ _ dX5_levelOf_93
                    ·
                      refine g_lookD (tgt := 102) hG dX5_levelOf_1 rfl ⟨Ne.symm (i32ne c1 (n := 37) (by decide)), Ne.symm (i32ne c2 (n := 38) (by decide)), Ne.symm (i32ne c3 (n := 42) (by decide)), Ne.symm (i32ne c4 (n := 43) (by decide)), Ne.symm (i32ne c5 (n := 45) (by decide)), Ne.symm (i32ne c6 (n := 47) (by decide)), Ne.symm (i32ne c7 (n := 60) (by decide)), Ne.symm (i32ne c8 (n := 61) (by decide)), Ne.symm (i32ne c9 (n := 62) (by decide)), Ne.symm (i32ne c10 (n := 124) (by decide)), trivial⟩ rfl ?_
                      refine g_iconstv hG dX5_levelOf_102 ki_m1 ?_
                      cases h
                      exact K _ _ dX5_levelOf_103
