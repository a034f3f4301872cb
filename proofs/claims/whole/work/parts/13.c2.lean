section KD
variable {g : GP} {l : Launch} {y : MethodName} {cc : ByteArray} {nL : Nat} {R : Room} {G : GT} {ce sl pc : Nat} {hp : va_W} {L : List (Nat × Value)} {st : List Value}
variable {y' : MethodName} {cc' : ByteArray} {nL' n idx : Nat} {ret : Option FieldType} {rm : Room} {As : List Value}
def LkSU (own : String) (idx : Nat) (y : MethodName) : Prop := Cond.methodLink own idx y ∈ gtb ∧ Cond.sameMethod y.cls y.cls y.name y.desc ∈ gtb ∧ Cond.superclass own y.cls ∈ gtb ∧ Cond.instanceMethod y ∈ gtb ∧ y.name ≠ "<init>"
theorem g_cSU (hG : IsG g l y cc nL R G) {q : vw_C} {k a ci : Nat} {fs : List Value} {v : Int32} {hp' : va_W} (d : decode cc pc = .ok (.invokespecial idx, 3)) (hM : CI g l y' cc' nL' ret rm (.ref a :: As) hp (fun r w => r = v ∧ w = hp')) (b : LkB y' cc' nL' ret n) (lk : LkSU y.cls idx y') (hn : As.length = n) (he : hp[k]? = some (a, .inr (ci, fs))) (hc : vwCl[ci]? = some q) (hR : rm.frames + 1 ≤ R.frames ∧ 8 + (nL' + 11) + rm.locals ≤ R.locals) (hz : rm.cells = 0 ∧ rm.slots = 0) (hf : ce ≤ R.cells ∧ sl ≤ R.slots) (st0 : List Value) (hst0 : st0 = As.reverse ++ .ref a :: st) (hst : (st.map fun v => v.category).sum ≤ 8)
    (kk : G ce sl hp' L (pc + 3) (.int v :: st)) : G ce sl hp L pc st0 := by
  subst hst0
  obtain ⟨p, e, s, m, args, below, meth, c, Q, hx, hb, hml, hown, hts, hK, hlk, hnm, rfl⟩ := hG
  intro H locs ls hP hD hS hl
  obtain ⟨k1, k2, k3, k4, k5⟩ := lk
  have hgi := tbl_goodIn (big := gtb) (fun _ h => h) b.1
  have hO : GoodIn gtb (va_wsSU y.cls idx y' (.code y' cc' nL' ret :: gtb)) := by
    intro w hw
    unfold va_wsSU at hw
    rcases List.mem_append.mp hw with q | q
    · have hm : w ∈ gtb := by
        simp only [List.mem_cons, List.not_mem_nil, or_false] at q
        rcases q with rfl | rfl | rfl | rfl | rfl
        · exact k1
        · exact k2
        · exact k3
        · exact k4
        · exact b.2.1
      exact ⟨hm, good_of_word (List.mem_filter.mp hm).2⟩
    · exact hgi w q
  refine va_calli (va_runSU (As := As) (rest := st) (C := q.1) (hK.1.1 ci q hc).2 ⟨hx, hb, hml, hown, hts⟩ hM (va_cwSU n hts hO rfl rfl rfl ⟨k5, b.2.2.2.2⟩ hR) ⟨CP.blind _ _ _, va_recv hK.1 hP hc he, fun U hU hW => ⟨rfl, by rw [hU]; exact hP, hD, hK.moved hW (by rw [hU]; exact hS.1) (fun q h1 h2 => by rw [hU]; exact hS.2.1 q h1 h2)⟩⟩ rfl hn hl.1 rfl (lv_room hst) d (by rw [hz.1, hz.2]; exact hf)) hS (fun q _ h => h) (fun q h => h) (fun r u t H1 locs ht hvm hw hB hz1 hk1 hS => ?_)
  rw [hz.1, hz.2]
  obtain ⟨rfl, rfl⟩ := hw
  exact kk H1 locs ls (by rw [← ht]; exact hB.1) hB.2.1 hS hl
end KD
def kq (κ : Nat) : vw_C := (vwCl[kcl κ]?).getD (RX10, TX10, 0)
theorem kcl_ok {κ : Nat} (hκ : κ < 7) : vwCl[kcl κ]? = some (kq κ) := lt7 (P := fun κ => vwCl[kcl κ]? = some (kq κ)) rfl rfl rfl rfl rfl rfl rfl hκ

theorem w_X8_13 : LkSU RX8 13 yX10_falls := ⟨(gtb_of (tm 733 (by decide +kernel)) rfl), (gtb_of (tm 723 (by decide +kernel)) rfl), (gtb_of (tm 43 (by decide +kernel)) rfl), (gtb_of (tm 721 (by decide +kernel)) rfl), by decide⟩
theorem w_X1_13 : LkSU RX1 13 yX10_moves := ⟨(gtb_of (tm 748 (by decide +kernel)) rfl), (gtb_of (tm 742 (by decide +kernel)) rfl), (gtb_of (tm 50 (by decide +kernel)) rfl), (gtb_of (tm 740 (by decide +kernel)) rfl), by decide⟩
theorem w_X9_19 : LkSU RX9 19 yX10_sweeps := ⟨(gtb_of (tm 774 (by decide +kernel)) rfl), (gtb_of (tm 1297 (by decide +kernel)) rfl), (gtb_of (tm 57 (by decide +kernel)) rfl), (gtb_of (tm 754 (by decide +kernel)) rfl), by decide⟩
theorem w_X2_7 : LkSU RX2 7 yX8_fallen := ⟨(gtb_of (tm 334 (by decide +kernel)) rfl), (gtb_of (tm 1292 (by decide +kernel)) rfl), (gtb_of (tm 64 (by decide +kernel)) rfl), (gtb_of (tm 335 (by decide +kernel)) rfl), by decide⟩
theorem w_X2_11 : LkSU RX2 11 yX8_taken := ⟨(gtb_of (tm 363 (by decide +kernel)) rfl), (gtb_of (tm 1294 (by decide +kernel)) rfl), (gtb_of (tm 64 (by decide +kernel)) rfl), (gtb_of (tm 364 (by decide +kernel)) rfl), by decide⟩
theorem w_X3_7 : LkSU RX3 7 yX1_fallen := ⟨(gtb_of (tm 340 (by decide +kernel)) rfl), (gtb_of (tm 1293 (by decide +kernel)) rfl), (gtb_of (tm 71 (by decide +kernel)) rfl), (gtb_of (tm 329 (by decide +kernel)) rfl), by decide⟩
theorem w_X3_11 : LkSU RX3 11 yX1_taken := ⟨(gtb_of (tm 370 (by decide +kernel)) rfl), (gtb_of (tm 1295 (by decide +kernel)) rfl), (gtb_of (tm 71 (by decide +kernel)) rfl), (gtb_of (tm 358 (by decide +kernel)) rfl), by decide⟩
theorem w_X3_27 : LkSU RX3 27 yX1_moves := ⟨(gtb_of (tm 761 (by decide +kernel)) rfl), (gtb_of (tm 1296 (by decide +kernel)) rfl), (gtb_of (tm 71 (by decide +kernel)) rfl), (gtb_of (tm 745 (by decide +kernel)) rfl), by decide⟩
theorem w_X0_7 : LkSU RX0 7 yX9_fallen := ⟨(gtb_of (tm 325 (by decide +kernel)) rfl), (gtb_of (tm 1291 (by decide +kernel)) rfl), (gtb_of (tm 78 (by decide +kernel)) rfl), (gtb_of (tm 326 (by decide +kernel)) rfl), by decide⟩
theorem w_X0_17 : LkSU RX0 17 yX9_sweeps := ⟨(gtb_of (tm 770 (by decide +kernel)) rfl), (gtb_of (tm 1299 (by decide +kernel)) rfl), (gtb_of (tm 78 (by decide +kernel)) rfl), (gtb_of (tm 771 (by decide +kernel)) rfl), by decide⟩
def N_K10_fallen (κ : Nat) (x1 : Int32) (x2 : Int32) (x3 : Int32) (x4 : Int32) (x5 : Int32) (σ : CS) : Option (Int32 × CS) := (some (x1, σ))
set_option maxRecDepth 100000 in
set_option maxHeartbeats 4000000 in
theorem c_N_K10_fallen {g : GP} {l : Launch} {A : Nat → Nat → Nat} {X : va_W} {v9 : Int32} {s9 : CS} {κ : Nat} (hκ : κ < 7) {x1 : Int32} {x2 : Int32} {x3 : Int32} {x4 : Int32} {x5 : Int32} {σ : CS} (h : N_K10_fallen κ x1 x2 x3 x4 x5 σ = some (v9, s9)) : CI g l yX10_fallen cX10_fallen 6 (some .int) { frames := 0, cells := 0, slots := 0, locals := 0 } [.ref (A 7 (κ + 10)), .int x1, .int x2, .int x3, .int x4, .int x5] (wC g A σ X) (fun r0 w => r0 = v9 ∧ w = wC g A s9 X) := by
  refine CI.mk (by decide) (Nat.le_of_ble_eq_true rfl) (fun G hG hret => ?_)
  have K : ∀ L pc, decode cX10_fallen pc = .ok (.ireturn, 1) → G 0 0 (wC g A s9 X) L pc [.int v9] := fun L pc d => hret _ L pc v9 d rfl ⟨rfl, rfl⟩
  unfold N_K10_fallen at h
  refine g_iload_n hG dX10_fallen_0 rfl ?_
  cases h
  exact K _ _ dX10_fallen_1
def N_K8_fallen (κ : Nat) (x1 : Int32) (x2 : Int32) (x3 : Int32) (x4 : Int32) (x5 : Int32) (σ : CS) : Option (Int32 × CS) := (some ((x1 - (irm x2 (3 : Int32))), σ))
set_option maxRecDepth 100000 in
set_option maxHeartbeats 4000000 in
theorem c_N_K8_fallen {g : GP} {l : Launch} {A : Nat → Nat → Nat} {X : va_W} {v9 : Int32} {s9 : CS} {κ : Nat} (hκ : κ < 7) {x1 : Int32} {x2 : Int32} {x3 : Int32} {x4 : Int32} {x5 : Int32} {σ : CS} (h : N_K8_fallen κ x1 x2 x3 x4 x5 σ = some (v9, s9)) : CI g l yX8_fallen cX8_fallen 6 (some .int) { frames := 0, cells := 0, slots := 0, locals := 0 } [.ref (A 7 (κ + 10)), .int x1, .int x2, .int x3, .int x4, .int x5] (wC g A σ X) (fun r0 w => r0 = v9 ∧ w = wC g A s9 X) := by
  refine CI.mk (by decide) (Nat.le_of_ble_eq_true rfl) (fun G hG hret => ?_)
  have K : ∀ L pc, decode cX8_fallen pc = .ok (.ireturn, 1) → G 0 0 (wC g A s9 X) L pc [.int v9] := fun L pc d => hret _ L pc v9 d rfl ⟨rfl, rfl⟩
  unfold N_K8_fallen at h
  refine g_iload_n hG dX8_fallen_0 rfl ?_
  refine g_iload_n hG dX8_fallen_1 rfl ?_
  refine g_iconstv hG dX8_fallen_2 ki_3 ?_
  refine g_irm hG dX8_fallen_3 (by decide) ?_
  refine g_isub hG dX8_fallen_4 ?_
  cases h
  exact K _ _ dX8_fallen_5
def N_K1_fallen (κ : Nat) (x1 : Int32) (x2 : Int32) (x3 : Int32) (x4 : Int32) (x5 : Int32) (σ : CS) : Option (Int32 × CS) := (some ((x1 / (2 : Int32)), σ))
set_option maxRecDepth 100000 in
set_option maxHeartbeats 4000000 in
theorem c_N_K1_fallen {g : GP} {l : Launch} {A : Nat → Nat → Nat} {X : va_W} {v9 : Int32} {s9 : CS} {κ : Nat} (hκ : κ < 7) {x1 : Int32} {x2 : Int32} {x3 : Int32} {x4 : Int32} {x5 : Int32} {σ : CS} (h : N_K1_fallen κ x1 x2 x3 x4 x5 σ = some (v9, s9)) : CI g l yX1_fallen cX1_fallen 6 (some .int) { frames := 0, cells := 0, slots := 0, locals := 0 } [.ref (A 7 (κ + 10)), .int x1, .int x2, .int x3, .int x4, .int x5] (wC g A σ X) (fun r0 w => r0 = v9 ∧ w = wC g A s9 X) := by
  refine CI.mk (by decide) (Nat.le_of_ble_eq_true rfl) (fun G hG hret => ?_)
  have K : ∀ L pc, decode cX1_fallen pc = .ok (.ireturn, 1) → G 0 0 (wC g A s9 X) L pc [.int v9] := fun L pc d => hret _ L pc v9 d rfl ⟨rfl, rfl⟩
  unfold N_K1_fallen at h
  refine g_iload_n hG dX1_fallen_0 rfl ?_
  refine g_iconstv hG dX1_fallen_1 ki_2 ?_
  refine g_idiv hG dX1_fallen_2 (by decide) ?_
  cases h
  exact K _ _ dX1_fallen_3
def N_K9_fallen (κ : Nat) (x1 : Int32) (x2 : Int32) (x3 : Int32) (x4 : Int32) (x5 : Int32) (σ : CS) : Option (Int32 × CS) := (some ((x1 + x3), σ))
set_option maxRecDepth 100000 in
set_option maxHeartbeats 4000000 in
theorem c_N_K9_fallen {g : GP} {l : Launch} {A : Nat → Nat → Nat} {X : va_W} {v9 : Int32} {s9 : CS} {κ : Nat} (hκ : κ < 7) {x1 : Int32} {x2 : Int32} {x3 : Int32} {x4 : Int32} {x5 : Int32} {σ : CS} (h : N_K9_fallen κ x1 x2 x3 x4 x5 σ = some (v9, s9)) : CI g l yX9_fallen cX9_fallen 6 (some .int) { frames := 0, cells := 0, slots := 0, locals := 0 } [.ref (A 7 (κ + 10)), .int x1, .int x2, .int x3, .int x4, .int x5] (wC g A σ X) (fun r0 w => r0 = v9 ∧ w = wC g A s9 X) := by
  refine CI.mk (by decide) (Nat.le_of_ble_eq_true rfl) (fun G hG hret => ?_)
  have K : ∀ L pc, decode cX9_fallen pc = .ok (.ireturn, 1) → G 0 0 (wC g A s9 X) L pc [.int v9] := fun L pc d => hret _ L pc v9 d rfl ⟨rfl, rfl⟩
  unfold N_K9_fallen at h
  refine g_iload_n hG dX9_fallen_0 rfl ?_
  refine g_iload_n hG dX9_fallen_1 rfl ?_
  refine g_iadd hG dX9_fallen_2 ?_
  cases h
  exact K _ _ dX9_fallen_3
def N_K2_fallen (κ : Nat) (x1 : Int32) (x2 : Int32) (x3 : Int32) (x4 : Int32) (x5 : Int32) (σ : CS) : Option (Int32 × CS) := (ob (N_K8_fallen κ x1 x2 x3 x4 x5 σ) fun v1 σ2 => (some (((2 : Int32) * v1), σ2)))
set_option maxRecDepth 100000 in
set_option maxHeartbeats 4000000 in
theorem c_N_K2_fallen {g : GP} {l : Launch} {A : Nat → Nat → Nat} {X : va_W} {v9 : Int32} {s9 : CS} {κ : Nat} (hκ : κ < 7) {x1 : Int32} {x2 : Int32} {x3 : Int32} {x4 : Int32} {x5 : Int32} {σ : CS} (h : N_K2_fallen κ x1 x2 x3 x4 x5 σ = some (v9, s9)) : CI g l yX2_fallen cX2_fallen 6 (some .int) { frames := 1, cells := 0, slots := 0, locals := 25 } [.ref (A 7 (κ + 10)), .int x1, .int x2, .int x3, .int x4, .int x5] (wC g A σ X) (fun r0 w => r0 = v9 ∧ w = wC g A s9 X) := by
  refine CI.mk (by decide) (Nat.le_of_ble_eq_true rfl) (fun G hG hret => ?_)
  have K : ∀ L pc, decode cX2_fallen pc = .ok (.ireturn, 1) → G 0 0 (wC g A s9 X) L pc [.int v9] := fun L pc d => hret _ L pc v9 d rfl ⟨rfl, rfl⟩
  unfold N_K2_fallen at h
  refine g_iconstv hG dX2_fallen_0 ki_2 ?_
  refine g_aload_n hG dX2_fallen_1 rfl ?_
  refine g_iload_n hG dX2_fallen_2 rfl ?_
  refine g_iload_n hG dX2_fallen_3 rfl ?_
  refine g_iload_n hG dX2_fallen_4 rfl ?_
  refine g_iload hG dX2_fallen_5 rfl ?_
  refine g_iload hG dX2_fallen_7 rfl ?_
  obtain ⟨v1, σ2, q3, h⟩ := ob_some h
  refine g_cSU hG dX2_fallen_9 (c_N_K8_fallen hκ q3) b_X8_fallen w_X2_7 rfl (eKd hκ) (kcl_ok hκ) ⟨Nat.le_of_ble_eq_true rfl, Nat.le_of_ble_eq_true rfl⟩ ⟨rfl, rfl⟩ ⟨Nat.zero_le _, Nat.zero_le _⟩ _ rfl (Nat.le_of_ble_eq_true rfl) ?_
  refine g_imul hG dX2_fallen_12 ?_
  cases h
  exact K _ _ dX2_fallen_13
def N_K3_fallen (κ : Nat) (x1 : Int32) (x2 : Int32) (x3 : Int32) (x4 : Int32) (x5 : Int32) (σ : CS) : Option (Int32 × CS) := (ob (N_K1_fallen κ x1 x2 x3 x4 x5 σ) fun v1 σ2 => (some ((v1 + (if (irm x4 (7 : Int32)) = 0 then x2 else (0 : Int32))), σ2)))
set_option maxRecDepth 100000 in
set_option maxHeartbeats 4000000 in
theorem c_N_K3_fallen {g : GP} {l : Launch} {A : Nat → Nat → Nat} {X : va_W} {v9 : Int32} {s9 : CS} {κ : Nat} (hκ : κ < 7) {x1 : Int32} {x2 : Int32} {x3 : Int32} {x4 : Int32} {x5 : Int32} {σ : CS} (h : N_K3_fallen κ x1 x2 x3 x4 x5 σ = some (v9, s9)) : CI g l yX3_fallen cX3_fallen 6 (some .int) { frames := 1, cells := 0, slots := 0, locals := 25 } [.ref (A 7 (κ + 10)), .int x1, .int x2, .int x3, .int x4, .int x5] (wC g A σ X) (fun r0 w => r0 = v9 ∧ w = wC g A s9 X) := by
  refine CI.mk (by decide) (Nat.le_of_ble_eq_true rfl) (fun G hG hret => ?_)
  have K : ∀ L pc, decode cX3_fallen pc = .ok (.ireturn, 1) → G 0 0 (wC g A s9 X) L pc [.int v9] := fun L pc d => hret _ L pc v9 d rfl ⟨rfl, rfl⟩
  unfold N_K3_fallen at h
  refine g_aload_n hG dX3_fallen_0 rfl ?_
  refine g_iload_n hG dX3_fallen_1 rfl ?_
  refine g_iload_n hG dX3_fallen_2 rfl ?_
  refine g_iload_n hG dX3_fallen_3 rfl ?_
  refine g_iload hG dX3_fallen_4 rfl ?_
  refine g_iload hG dX3_fallen_6 rfl ?_
  obtain ⟨v1, σ2, q3, h⟩ := ob_some h
  refine g_cSU hG dX3_fallen_8 (c_N_K1_fallen hκ q3) b_X1_fallen w_X3_7 rfl (eKd hκ) (kcl_ok hκ) ⟨Nat.le_of_ble_eq_true rfl, Nat.le_of_ble_eq_true rfl⟩ ⟨rfl, rfl⟩ ⟨Nat.zero_le _, Nat.zero_le _⟩ _ rfl (Nat.le_of_ble_eq_true rfl) ?_
  refine g_iload hG dX3_fallen_11 rfl ?_
  refine g_bipushv hG dX3_fallen_13 kb_7 ?_
  refine g_irm hG dX3_fallen_15 (by decide) ?_
  refine g_dia1 (if (irm x4 (7 : Int32)) = 0 then x2 else (0 : Int32)) 24 (fun J4 => ?_) ?_
  · by_cases c5 : (irm x4 (7 : Int32)) = 0
    · refine g_if_ne (tgt := 23) hG dX3_fallen_16 rfl (fun q => absurd c5 q) (fun _ => ?_)
      refine g_iload_n hG dX3_fallen_19 rfl ?_
      refine g_goto (tgt := 24) hG dX3_fallen_20 rfl ?_
      rw [if_pos c5] at J4
      exact J4
    · refine g_if_ne (tgt := 23) hG dX3_fallen_16 rfl (fun _ => ?_) (fun q => absurd q c5)
      refine g_iconstv hG dX3_fallen_23 ki_0 ?_
      rw [if_neg c5] at J4
      exact J4
  refine g_iadd hG dX3_fallen_24 ?_
  cases h
  exact K _ _ dX3_fallen_25
def N_K0_fallen (κ : Nat) (x1 : Int32) (x2 : Int32) (x3 : Int32) (x4 : Int32) (x5 : Int32) (σ : CS) : Option (Int32 × CS) := (ob (N_K9_fallen κ x1 x2 x3 x4 x5 σ) fun v1 σ2 => (some ((v1 + x5), σ2)))
set_option maxRecDepth 100000 in
set_option maxHeartbeats 4000000 in
theorem c_N_K0_fallen {g : GP} {l : Launch} {A : Nat → Nat → Nat} {X : va_W} {v9 : Int32} {s9 : CS} {κ : Nat} (hκ : κ < 7) {x1 : Int32} {x2 : Int32} {x3 : Int32} {x4 : Int32} {x5 : Int32} {σ : CS} (h : N_K0_fallen κ x1 x2 x3 x4 x5 σ = some (v9, s9)) : CI g l yX0_fallen cX0_fallen 6 (some .int) { frames := 1, cells := 0, slots := 0, locals := 25 } [.ref (A 7 (κ + 10)), .int x1, .int x2, .int x3, .int x4, .int x5] (wC g A σ X) (fun r0 w => r0 = v9 ∧ w = wC g A s9 X) := by
  refine CI.mk (by decide) (Nat.le_of_ble_eq_true rfl) (fun G hG hret => ?_)
  have K : ∀ L pc, decode cX0_fallen pc = .ok (.ireturn, 1) → G 0 0 (wC g A s9 X) L pc [.int v9] := fun L pc d => hret _ L pc v9 d rfl ⟨rfl, rfl⟩
  unfold N_K0_fallen at h
  refine g_aload_n hG dX0_fallen_0 rfl ?_
  refine g_iload_n hG dX0_fallen_1 rfl ?_
  refine g_iload_n hG dX0_fallen_2 rfl ?_
  refine g_iload_n hG dX0_fallen_3 rfl ?_
  refine g_iload hG dX0_fallen_4 rfl ?_
  refine g_iload hG dX0_fallen_6 rfl ?_
  obtain ⟨v1, σ2, q3, h⟩ := ob_some h
  refine g_cSU hG dX0_fallen_8 (c_N_K9_fallen hκ q3) b_X9_fallen w_X0_7 rfl (eKd hκ) (kcl_ok hκ) ⟨Nat.le_of_ble_eq_true rfl, Nat.le_of_ble_eq_true rfl⟩ ⟨rfl, rfl⟩ ⟨Nat.zero_le _, Nat.zero_le _⟩ _ rfl (Nat.le_of_ble_eq_true rfl) ?_
  refine g_iload hG dX0_fallen_11 rfl ?_
  refine g_iadd hG dX0_fallen_13 ?_
  cases h
  exact K _ _ dX0_fallen_14
def N_K10_taken (κ : Nat) (x1 : Int32) (σ : CS) : Option (Int32 × CS) := (some (x1, σ))
set_option maxRecDepth 100000 in
set_option maxHeartbeats 4000000 in
theorem c_N_K10_taken {g : GP} {l : Launch} {A : Nat → Nat → Nat} {X : va_W} {v9 : Int32} {s9 : CS} {κ : Nat} (hκ : κ < 7) {x1 : Int32} {σ : CS} (h : N_K10_taken κ x1 σ = some (v9, s9)) : CI g l yX10_taken cX10_taken 2 (some .int) { frames := 0, cells := 0, slots := 0, locals := 0 } [.ref (A 7 (κ + 10)), .int x1] (wC g A σ X) (fun r0 w => r0 = v9 ∧ w = wC g A s9 X) := by
  refine CI.mk (by decide) (Nat.le_of_ble_eq_true rfl) (fun G hG hret => ?_)
  have K : ∀ L pc, decode cX10_taken pc = .ok (.ireturn, 1) → G 0 0 (wC g A s9 X) L pc [.int v9] := fun L pc d => hret _ L pc v9 d rfl ⟨rfl, rfl⟩
  unfold N_K10_taken at h
  refine g_iload_n hG dX10_taken_0 rfl ?_
  cases h
  exact K _ _ dX10_taken_1
def N_K8_taken (κ : Nat) (x1 : Int32) (σ : CS) : Option (Int32 × CS) := (some ((x1 - (irm x1 (2 : Int32))), σ))
set_option maxRecDepth 100000 in
set_option maxHeartbeats 4000000 in
theorem c_N_K8_taken {g : GP} {l : Launch} {A : Nat → Nat → Nat} {X : va_W} {v9 : Int32} {s9 : CS} {κ : Nat} (hκ : κ < 7) {x1 : Int32} {σ : CS} (h : N_K8_taken κ x1 σ = some (v9, s9)) : CI g l yX8_taken cX8_taken 2 (some .int) { frames := 0, cells := 0, slots := 0, locals := 0 } [.ref (A 7 (κ + 10)), .int x1] (wC g A σ X) (fun r0 w => r0 = v9 ∧ w = wC g A s9 X) := by
  refine CI.mk (by decide) (Nat.le_of_ble_eq_true rfl) (fun G hG hret => ?_)
  have K : ∀ L pc, decode cX8_taken pc = .ok (.ireturn, 1) → G 0 0 (wC g A s9 X) L pc [.int v9] := fun L pc d => hret _ L pc v9 d rfl ⟨rfl, rfl⟩
  unfold N_K8_taken at h
  refine g_iload_n hG dX8_taken_0 rfl ?_
  refine g_iload_n hG dX8_taken_1 rfl ?_
  refine g_iconstv hG dX8_taken_2 ki_2 ?_
  refine g_irm hG dX8_taken_3 (by decide) ?_
  refine g_isub hG dX8_taken_4 ?_
  cases h
  exact K _ _ dX8_taken_5
def N_K1_taken (κ : Nat) (x1 : Int32) (σ : CS) : Option (Int32 × CS) := (some ((x1 / (2 : Int32)), σ))
set_option maxRecDepth 100000 in
set_option maxHeartbeats 4000000 in
theorem c_N_K1_taken {g : GP} {l : Launch} {A : Nat → Nat → Nat} {X : va_W} {v9 : Int32} {s9 : CS} {κ : Nat} (hκ : κ < 7) {x1 : Int32} {σ : CS} (h : N_K1_taken κ x1 σ = some (v9, s9)) : CI g l yX1_taken cX1_taken 2 (some .int) { frames := 0, cells := 0, slots := 0, locals := 0 } [.ref (A 7 (κ + 10)), .int x1] (wC g A σ X) (fun r0 w => r0 = v9 ∧ w = wC g A s9 X) := by
  refine CI.mk (by decide) (Nat.le_of_ble_eq_true rfl) (fun G hG hret => ?_)
  have K : ∀ L pc, decode cX1_taken pc = .ok (.ireturn, 1) → G 0 0 (wC g A s9 X) L pc [.int v9] := fun L pc d => hret _ L pc v9 d rfl ⟨rfl, rfl⟩
  unfold N_K1_taken at h
  refine g_iload_n hG dX1_taken_0 rfl ?_
  refine g_iconstv hG dX1_taken_1 ki_2 ?_
  refine g_idiv hG dX1_taken_2 (by decide) ?_
  cases h
  exact K _ _ dX1_taken_3
def N_K9_taken (κ : Nat) (x1 : Int32) (σ : CS) : Option (Int32 × CS) := (some ((if (50 : Int32) < x1 then (50 : Int32) else x1), σ))
set_option maxRecDepth 100000 in
set_option maxHeartbeats 4000000 in
theorem c_N_K9_taken {g : GP} {l : Launch} {A : Nat → Nat → Nat} {X : va_W} {v9 : Int32} {s9 : CS} {κ : Nat} (hκ : κ < 7) {x1 : Int32} {σ : CS} (h : N_K9_taken κ x1 σ = some (v9, s9)) : CI g l yX9_taken cX9_taken 2 (some .int) { frames := 1, cells := 0, slots := 0, locals := 64 } [.ref (A 7 (κ + 10)), .int x1] (wC g A σ X) (fun r0 w => r0 = v9 ∧ w = wC g A s9 X) := by
  refine CI.mk (by decide) (Nat.le_of_ble_eq_true rfl) (fun G hG hret => ?_)
  have K : ∀ L pc, decode cX9_taken pc = .ok (.ireturn, 1) → G 0 0 (wC g A s9 X) L pc [.int v9] := fun L pc d => hret _ L pc v9 d rfl ⟨rfl, rfl⟩
  unfold N_K9_taken at h
  refine g_iload_n hG dX9_taken_0 rfl ?_
  refine g_bipushv hG dX9_taken_1 kb_50 ?_
  refine g_min hG dX9_taken_3 v_X9_7 st_min in_Math co_min (Nat.le_of_ble_eq_true rfl) (Nat.le_of_ble_eq_true rfl) (Nat.zero_le _) (Nat.zero_le _) ?_
  cases h
  exact K _ _ dX9_taken_6
def N_K2_taken (κ : Nat) (x1 : Int32) (σ : CS) : Option (Int32 × CS) := (ob (N_K8_taken κ x1 σ) fun v1 σ2 => (some ((if (99 : Int32) < v1 then (99 : Int32) else v1), σ2)))
set_option maxRecDepth 100000 in
set_option maxHeartbeats 4000000 in
theorem c_N_K2_taken {g : GP} {l : Launch} {A : Nat → Nat → Nat} {X : va_W} {v9 : Int32} {s9 : CS} {κ : Nat} (hκ : κ < 7) {x1 : Int32} {σ : CS} (h : N_K2_taken κ x1 σ = some (v9, s9)) : CI g l yX2_taken cX2_taken 2 (some .int) { frames := 1, cells := 0, slots := 0, locals := 64 } [.ref (A 7 (κ + 10)), .int x1] (wC g A σ X) (fun r0 w => r0 = v9 ∧ w = wC g A s9 X) := by
  refine CI.mk (by decide) (Nat.le_of_ble_eq_true rfl) (fun G hG hret => ?_)
  have K : ∀ L pc, decode cX2_taken pc = .ok (.ireturn, 1) → G 0 0 (wC g A s9 X) L pc [.int v9] := fun L pc d => hret _ L pc v9 d rfl ⟨rfl, rfl⟩
  unfold N_K2_taken at h
  refine g_aload_n hG dX2_taken_0 rfl ?_
  refine g_iload_n hG dX2_taken_1 rfl ?_
  obtain ⟨v1, σ2, q3, h⟩ := ob_some h
  refine g_cSU hG dX2_taken_2 (c_N_K8_taken hκ q3) b_X8_taken w_X2_11 rfl (eKd hκ) (kcl_ok hκ) ⟨Nat.le_of_ble_eq_true rfl, Nat.le_of_ble_eq_true rfl⟩ ⟨rfl, rfl⟩ ⟨Nat.zero_le _, Nat.zero_le _⟩ _ rfl (Nat.le_of_ble_eq_true rfl) ?_
  refine g_bipushv hG dX2_taken_5 kb_99 ?_
  refine g_min hG dX2_taken_7 v_X2_15 st_min in_Math co_min (Nat.le_of_ble_eq_true rfl) (Nat.le_of_ble_eq_true rfl) (Nat.zero_le _) (Nat.zero_le _) ?_
  cases h
  exact K _ _ dX2_taken_10
def N_K3_taken (κ : Nat) (x1 : Int32) (σ : CS) : Option (Int32 × CS) := (ob (N_K1_taken κ x1 σ) fun v1 σ2 => (some ((if x1 < (v1 + (10 : Int32)) then x1 else (v1 + (10 : Int32))), σ2)))
set_option maxRecDepth 100000 in
set_option maxHeartbeats 4000000 in
theorem c_N_K3_taken {g : GP} {l : Launch} {A : Nat → Nat → Nat} {X : va_W} {v9 : Int32} {s9 : CS} {κ : Nat} (hκ : κ < 7) {x1 : Int32} {σ : CS} (h : N_K3_taken κ x1 σ = some (v9, s9)) : CI g l yX3_taken cX3_taken 2 (some .int) { frames := 1, cells := 0, slots := 0, locals := 64 } [.ref (A 7 (κ + 10)), .int x1] (wC g A σ X) (fun r0 w => r0 = v9 ∧ w = wC g A s9 X) := by
  refine CI.mk (by decide) (Nat.le_of_ble_eq_true rfl) (fun G hG hret => ?_)
  have K : ∀ L pc, decode cX3_taken pc = .ok (.ireturn, 1) → G 0 0 (wC g A s9 X) L pc [.int v9] := fun L pc d => hret _ L pc v9 d rfl ⟨rfl, rfl⟩
  unfold N_K3_taken at h
  refine g_aload_n hG dX3_taken_0 rfl ?_
  refine g_iload_n hG dX3_taken_1 rfl ?_
  obtain ⟨v1, σ2, q3, h⟩ := ob_some h
  refine g_cSU hG dX3_taken_2 (c_N_K1_taken hκ q3) b_X1_taken w_X3_11 rfl (eKd hκ) (kcl_ok hκ) ⟨Nat.le_of_ble_eq_true rfl, Nat.le_of_ble_eq_true rfl⟩ ⟨rfl, rfl⟩ ⟨Nat.zero_le _, Nat.zero_le _⟩ _ rfl (Nat.le_of_ble_eq_true rfl) ?_
  refine g_bipushv hG dX3_taken_5 kb_10 ?_
  refine g_iadd hG dX3_taken_7 ?_
  refine g_iload_n hG dX3_taken_8 rfl ?_
  refine g_min hG dX3_taken_9 v_X3_15 st_min in_Math co_min (Nat.le_of_ble_eq_true rfl) (Nat.le_of_ble_eq_true rfl) (Nat.zero_le _) (Nat.zero_le _) ?_
  cases h
  exact K _ _ dX3_taken_12
def D_fallen (κ : Nat) (x1 x2 x3 x4 x5 : Int32) (σ : CS) : Option (Int32 × CS) := match κ with
  | 0 => N_K10_fallen κ x1 x2 x3 x4 x5 σ
  | 1 => N_K8_fallen κ x1 x2 x3 x4 x5 σ
  | 2 => N_K1_fallen κ x1 x2 x3 x4 x5 σ
  | 3 => N_K9_fallen κ x1 x2 x3 x4 x5 σ
  | 4 => N_K2_fallen κ x1 x2 x3 x4 x5 σ
  | 5 => N_K3_fallen κ x1 x2 x3 x4 x5 σ
  | _ => N_K0_fallen κ x1 x2 x3 x4 x5 σ
def D_taken (κ : Nat) (x1 : Int32) (σ : CS) : Option (Int32 × CS) := match κ with
  | 0 => N_K10_taken κ x1 σ
  | 1 => N_K8_taken κ x1 σ
  | 2 => N_K1_taken κ x1 σ
  | 3 => N_K9_taken κ x1 σ
  | 4 => N_K2_taken κ x1 σ
  | 5 => N_K3_taken κ x1 σ
  | _ => N_K9_taken κ x1 σ
theorem lku_X7_97_0 : LkU RX7 97 "SweptRound$YardKind" "SweptRound$YardKind" ⟨"SweptRound$YardKind", "fallen", "(IIIII)I"⟩ yX10_fallen := ⟨(gtb_of (tm 318 (by decide +kernel)) rfl), (gtb_of (tm 321 (by decide +kernel)) rfl), (gtb_of (tm 319 (by decide +kernel)) rfl), (gtb_of (tm 320 (by decide +kernel)) rfl), (gtb_of (tm 319 (by decide +kernel)) rfl), by decide, by decide, ⟨_, _, _, (b_X10_fallen).1⟩, by decide +kernel⟩
theorem lku_X7_97_1 : LkU RX7 97 "SweptRound$SweptKind" "SweptRound$YardKind" ⟨"SweptRound$YardKind", "fallen", "(IIIII)I"⟩ yX8_fallen := ⟨(gtb_of (tm 318 (by decide +kernel)) rfl), (gtb_of (tm 321 (by decide +kernel)) rfl), (gtb_of (tm 319 (by decide +kernel)) rfl), (gtb_of (tm 341 (by decide +kernel)) rfl), (gtb_of (tm 335 (by decide +kernel)) rfl), by decide, by decide, ⟨_, _, _, (b_X10_fallen).1⟩, by decide +kernel⟩
theorem lku_X7_97_2 : LkU RX7 97 "SweptRound$CoveredKind" "SweptRound$YardKind" ⟨"SweptRound$YardKind", "fallen", "(IIIII)I"⟩ yX1_fallen := ⟨(gtb_of (tm 318 (by decide +kernel)) rfl), (gtb_of (tm 321 (by decide +kernel)) rfl), (gtb_of (tm 319 (by decide +kernel)) rfl), (gtb_of (tm 328 (by decide +kernel)) rfl), (gtb_of (tm 329 (by decide +kernel)) rfl), by decide, by decide, ⟨_, _, _, (b_X10_fallen).1⟩, by decide +kernel⟩
theorem lku_X7_97_3 : LkU RX7 97 "SweptRound$WaitedKind" "SweptRound$YardKind" ⟨"SweptRound$YardKind", "fallen", "(IIIII)I"⟩ yX9_fallen := ⟨(gtb_of (tm 318 (by decide +kernel)) rfl), (gtb_of (tm 321 (by decide +kernel)) rfl), (gtb_of (tm 319 (by decide +kernel)) rfl), (gtb_of (tm 342 (by decide +kernel)) rfl), (gtb_of (tm 326 (by decide +kernel)) rfl), by decide, by decide, ⟨_, _, _, (b_X10_fallen).1⟩, by decide +kernel⟩
theorem lku_X7_97_4 : LkU RX7 97 "SweptRound$DoubledKind" "SweptRound$YardKind" ⟨"SweptRound$YardKind", "fallen", "(IIIII)I"⟩ yX2_fallen := ⟨(gtb_of (tm 318 (by decide +kernel)) rfl), (gtb_of (tm 321 (by decide +kernel)) rfl), (gtb_of (tm 319 (by decide +kernel)) rfl), (gtb_of (tm 331 (by decide +kernel)) rfl), (gtb_of (tm 332 (by decide +kernel)) rfl), by decide, by decide, ⟨_, _, _, (b_X10_fallen).1⟩, by decide +kernel⟩
theorem lku_X7_97_5 : LkU RX7 97 "SweptRound$EmptyKind" "SweptRound$YardKind" ⟨"SweptRound$YardKind", "fallen", "(IIIII)I"⟩ yX3_fallen := ⟨(gtb_of (tm 318 (by decide +kernel)) rfl), (gtb_of (tm 321 (by decide +kernel)) rfl), (gtb_of (tm 319 (by decide +kernel)) rfl), (gtb_of (tm 337 (by decide +kernel)) rfl), (gtb_of (tm 338 (by decide +kernel)) rfl), by decide, by decide, ⟨_, _, _, (b_X10_fallen).1⟩, by decide +kernel⟩
theorem lku_X7_97_6 : LkU RX7 97 "SweptRound$BlownKind" "SweptRound$YardKind" ⟨"SweptRound$YardKind", "fallen", "(IIIII)I"⟩ yX0_fallen := ⟨(gtb_of (tm 318 (by decide +kernel)) rfl), (gtb_of (tm 321 (by decide +kernel)) rfl), (gtb_of (tm 319 (by decide +kernel)) rfl), (gtb_of (tm 322 (by decide +kernel)) rfl), (gtb_of (tm 323 (by decide +kernel)) rfl), by decide, by decide, ⟨_, _, _, (b_X10_fallen).1⟩, by decide +kernel⟩
set_option maxRecDepth 100000 in
theorem kc_X7_97 {g : GP} {l : Launch} {y : MethodName} {cc : ByteArray} {nL : Nat} {R : Room} {G : GT} {pc : Nat} {L : List (Nat × Value)} {st : List Value} {A : Nat → Nat → Nat} {σ s9 : CS} {X : va_W} {v9 : Int32} {κ : Nat} {x1 x2 x3 x4 x5 : Int32} (hG : IsG g l y cc nL R G) (d : decode cc pc = .ok (.invokevirtual 97, 3)) (hκ : κ < 7) (h : D_fallen κ x1 x2 x3 x4 x5 σ = some (v9, s9)) (st0 : List Value) (hst0 : st0 = [.int x1, .int x2, .int x3, .int x4, .int x5].reverse ++ .ref (A 7 (κ + 10)) :: st) (hR : 1 + 1 ≤ R.frames ∧ 8 + (6 + 11) + 25 ≤ R.locals) (hst : (st.map fun v => v.category).sum ≤ 8) (hy : y.cls = RX7) (kk : G 0 0 (wC g A s9 X) L (pc + 3) (.int v9 :: st)) : G 0 0 (wC g A σ X) L pc st0 := by
  rcases (show κ = 0 ∨ κ = 1 ∨ κ = 2 ∨ κ = 3 ∨ κ = 4 ∨ κ = 5 ∨ κ = 6 by omega) with rfl | rfl | rfl | rfl | rfl | rfl | rfl
  · exact g_cU hG d (c_N_K10_fallen (by decide) h) b_X10_fallen (by rw [hy]; exact lku_X7_97_0) rfl (eKd (κ := 0) (by decide)) rfl ⟨by have := hR.1; show 0 + 1 ≤ _; omega, by have := hR.2; show 8 + (6 + 11) + 0 ≤ _; omega⟩ ⟨rfl, rfl⟩ ⟨Nat.zero_le _, Nat.zero_le _⟩ _ hst0 hst kk
  · exact g_cU hG d (c_N_K8_fallen (by decide) h) b_X8_fallen (by rw [hy]; exact lku_X7_97_1) rfl (eKd (κ := 1) (by decide)) rfl ⟨by have := hR.1; show 0 + 1 ≤ _; omega, by have := hR.2; show 8 + (6 + 11) + 0 ≤ _; omega⟩ ⟨rfl, rfl⟩ ⟨Nat.zero_le _, Nat.zero_le _⟩ _ hst0 hst kk
  · exact g_cU hG d (c_N_K1_fallen (by decide) h) b_X1_fallen (by rw [hy]; exact lku_X7_97_2) rfl (eKd (κ := 2) (by decide)) rfl ⟨by have := hR.1; show 0 + 1 ≤ _; omega, by have := hR.2; show 8 + (6 + 11) + 0 ≤ _; omega⟩ ⟨rfl, rfl⟩ ⟨Nat.zero_le _, Nat.zero_le _⟩ _ hst0 hst kk
  · exact g_cU hG d (c_N_K9_fallen (by decide) h) b_X9_fallen (by rw [hy]; exact lku_X7_97_3) rfl (eKd (κ := 3) (by decide)) rfl ⟨by have := hR.1; show 0 + 1 ≤ _; omega, by have := hR.2; show 8 + (6 + 11) + 0 ≤ _; omega⟩ ⟨rfl, rfl⟩ ⟨Nat.zero_le _, Nat.zero_le _⟩ _ hst0 hst kk
  · exact g_cU hG d (c_N_K2_fallen (by decide) h) b_X2_fallen (by rw [hy]; exact lku_X7_97_4) rfl (eKd (κ := 4) (by decide)) rfl ⟨by have := hR.1; show 1 + 1 ≤ _; omega, by have := hR.2; show 8 + (6 + 11) + 25 ≤ _; omega⟩ ⟨rfl, rfl⟩ ⟨Nat.zero_le _, Nat.zero_le _⟩ _ hst0 hst kk
  · exact g_cU hG d (c_N_K3_fallen (by decide) h) b_X3_fallen (by rw [hy]; exact lku_X7_97_5) rfl (eKd (κ := 5) (by decide)) rfl ⟨by have := hR.1; show 1 + 1 ≤ _; omega, by have := hR.2; show 8 + (6 + 11) + 25 ≤ _; omega⟩ ⟨rfl, rfl⟩ ⟨Nat.zero_le _, Nat.zero_le _⟩ _ hst0 hst kk
  · exact g_cU hG d (c_N_K0_fallen (by decide) h) b_X0_fallen (by rw [hy]; exact lku_X7_97_6) rfl (eKd (κ := 6) (by decide)) rfl ⟨by have := hR.1; show 1 + 1 ≤ _; omega, by have := hR.2; show 8 + (6 + 11) + 25 ≤ _; omega⟩ ⟨rfl, rfl⟩ ⟨Nat.zero_le _, Nat.zero_le _⟩ _ hst0 hst kk
theorem lku_X7_109_0 : LkU RX7 109 "SweptRound$YardKind" "SweptRound$YardKind" ⟨"SweptRound$YardKind", "taken", "(I)I"⟩ yX10_taken := ⟨(gtb_of (tm 349 (by decide +kernel)) rfl), (gtb_of (tm 352 (by decide +kernel)) rfl), (gtb_of (tm 350 (by decide +kernel)) rfl), (gtb_of (tm 351 (by decide +kernel)) rfl), (gtb_of (tm 350 (by decide +kernel)) rfl), by decide, by decide, ⟨_, _, _, (b_X10_taken).1⟩, by decide +kernel⟩
theorem lku_X7_109_1 : LkU RX7 109 "SweptRound$SweptKind" "SweptRound$YardKind" ⟨"SweptRound$YardKind", "taken", "(I)I"⟩ yX8_taken := ⟨(gtb_of (tm 349 (by decide +kernel)) rfl), (gtb_of (tm 352 (by decide +kernel)) rfl), (gtb_of (tm 350 (by decide +kernel)) rfl), (gtb_of (tm 372 (by decide +kernel)) rfl), (gtb_of (tm 364 (by decide +kernel)) rfl), by decide, by decide, ⟨_, _, _, (b_X10_taken).1⟩, by decide +kernel⟩
theorem lku_X7_109_2 : LkU RX7 109 "SweptRound$CoveredKind" "SweptRound$YardKind" ⟨"SweptRound$YardKind", "taken", "(I)I"⟩ yX1_taken := ⟨(gtb_of (tm 349 (by decide +kernel)) rfl), (gtb_of (tm 352 (by decide +kernel)) rfl), (gtb_of (tm 350 (by decide +kernel)) rfl), (gtb_of (tm 357 (by decide +kernel)) rfl), (gtb_of (tm 358 (by decide +kernel)) rfl), by decide, by decide, ⟨_, _, _, (b_X10_taken).1⟩, by decide +kernel⟩
theorem lku_X7_109_3 : LkU RX7 109 "SweptRound$WaitedKind" "SweptRound$YardKind" ⟨"SweptRound$YardKind", "taken", "(I)I"⟩ yX9_taken := ⟨(gtb_of (tm 349 (by decide +kernel)) rfl), (gtb_of (tm 352 (by decide +kernel)) rfl), (gtb_of (tm 350 (by decide +kernel)) rfl), (gtb_of (tm 373 (by decide +kernel)) rfl), (gtb_of (tm 354 (by decide +kernel)) rfl), by decide, by decide, ⟨_, _, _, (b_X10_taken).1⟩, by decide +kernel⟩
theorem lku_X7_109_4 : LkU RX7 109 "SweptRound$DoubledKind" "SweptRound$YardKind" ⟨"SweptRound$YardKind", "taken", "(I)I"⟩ yX2_taken := ⟨(gtb_of (tm 349 (by decide +kernel)) rfl), (gtb_of (tm 352 (by decide +kernel)) rfl), (gtb_of (tm 350 (by decide +kernel)) rfl), (gtb_of (tm 360 (by decide +kernel)) rfl), (gtb_of (tm 361 (by decide +kernel)) rfl), by decide, by decide, ⟨_, _, _, (b_X10_taken).1⟩, by decide +kernel⟩
theorem lku_X7_109_5 : LkU RX7 109 "SweptRound$EmptyKind" "SweptRound$YardKind" ⟨"SweptRound$YardKind", "taken", "(I)I"⟩ yX3_taken := ⟨(gtb_of (tm 349 (by decide +kernel)) rfl), (gtb_of (tm 352 (by decide +kernel)) rfl), (gtb_of (tm 350 (by decide +kernel)) rfl), (gtb_of (tm 367 (by decide +kernel)) rfl), (gtb_of (tm 368 (by decide +kernel)) rfl), by decide, by decide, ⟨_, _, _, (b_X10_taken).1⟩, by decide +kernel⟩
theorem lku_X7_109_6 : LkU RX7 109 "SweptRound$BlownKind" "SweptRound$YardKind" ⟨"SweptRound$YardKind", "taken", "(I)I"⟩ yX9_taken := ⟨(gtb_of (tm 349 (by decide +kernel)) rfl), (gtb_of (tm 352 (by decide +kernel)) rfl), (gtb_of (tm 350 (by decide +kernel)) rfl), (gtb_of (tm 353 (by decide +kernel)) rfl), (gtb_of (tm 354 (by decide +kernel)) rfl), by decide, by decide, ⟨_, _, _, (b_X10_taken).1⟩, by decide +kernel⟩
set_option maxRecDepth 100000 in
theorem kc_X7_109 {g : GP} {l : Launch} {y : MethodName} {cc : ByteArray} {nL : Nat} {R : Room} {G : GT} {pc : Nat} {L : List (Nat × Value)} {st : List Value} {A : Nat → Nat → Nat} {σ s9 : CS} {X : va_W} {v9 : Int32} {κ : Nat} {x1 : Int32} (hG : IsG g l y cc nL R G) (d : decode cc pc = .ok (.invokevirtual 109, 3)) (hκ : κ < 7) (h : D_taken κ x1 σ = some (v9, s9)) (st0 : List Value) (hst0 : st0 = [.int x1].reverse ++ .ref (A 7 (κ + 10)) :: st) (hR : 1 + 1 ≤ R.frames ∧ 8 + (2 + 11) + 64 ≤ R.locals) (hst : (st.map fun v => v.category).sum ≤ 8) (hy : y.cls = RX7) (kk : G 0 0 (wC g A s9 X) L (pc + 3) (.int v9 :: st)) : G 0 0 (wC g A σ X) L pc st0 := by
  rcases (show κ = 0 ∨ κ = 1 ∨ κ = 2 ∨ κ = 3 ∨ κ = 4 ∨ κ = 5 ∨ κ = 6 by omega) with rfl | rfl | rfl | rfl | rfl | rfl | rfl
  · exact g_cU hG d (c_N_K10_taken (by decide) h) b_X10_taken (by rw [hy]; exact lku_X7_109_0) rfl (eKd (κ := 0) (by decide)) rfl ⟨by have := hR.1; show 0 + 1 ≤ _; omega, by have := hR.2; show 8 + (2 + 11) + 0 ≤ _; omega⟩ ⟨rfl, rfl⟩ ⟨Nat.zero_le _, Nat.zero_le _⟩ _ hst0 hst kk
  · exact g_cU hG d (c_N_K8_taken (by decide) h) b_X8_taken (by rw [hy]; exact lku_X7_109_1) rfl (eKd (κ := 1) (by decide)) rfl ⟨by have := hR.1; show 0 + 1 ≤ _; omega, by have := hR.2; show 8 + (2 + 11) + 0 ≤ _; omega⟩ ⟨rfl, rfl⟩ ⟨Nat.zero_le _, Nat.zero_le _⟩ _ hst0 hst kk
  · exact g_cU hG d (c_N_K1_taken (by decide) h) b_X1_taken (by rw [hy]; exact lku_X7_109_2) rfl (eKd (κ := 2) (by decide)) rfl ⟨by have := hR.1; show 0 + 1 ≤ _; omega, by have := hR.2; show 8 + (2 + 11) + 0 ≤ _; omega⟩ ⟨rfl, rfl⟩ ⟨Nat.zero_le _, Nat.zero_le _⟩ _ hst0 hst kk
  · exact g_cU hG d (c_N_K9_taken (by decide) h) b_X9_taken (by rw [hy]; exact lku_X7_109_3) rfl (eKd (κ := 3) (by decide)) rfl ⟨by have := hR.1; show 1 + 1 ≤ _; omega, by have := hR.2; show 8 + (2 + 11) + 64 ≤ _; omega⟩ ⟨rfl, rfl⟩ ⟨Nat.zero_le _, Nat.zero_le _⟩ _ hst0 hst kk
  · exact g_cU hG d (c_N_K2_taken (by decide) h) b_X2_taken (by rw [hy]; exact lku_X7_109_4) rfl (eKd (κ := 4) (by decide)) rfl ⟨by have := hR.1; show 1 + 1 ≤ _; omega, by have := hR.2; show 8 + (2 + 11) + 64 ≤ _; omega⟩ ⟨rfl, rfl⟩ ⟨Nat.zero_le _, Nat.zero_le _⟩ _ hst0 hst kk
  · exact g_cU hG d (c_N_K3_taken (by decide) h) b_X3_taken (by rw [hy]; exact lku_X7_109_5) rfl (eKd (κ := 5) (by decide)) rfl ⟨by have := hR.1; show 1 + 1 ≤ _; omega, by have := hR.2; show 8 + (2 + 11) + 64 ≤ _; omega⟩ ⟨rfl, rfl⟩ ⟨Nat.zero_le _, Nat.zero_le _⟩ _ hst0 hst kk
  · exact g_cU hG d (c_N_K9_taken (by decide) h) b_X9_taken (by rw [hy]; exact lku_X7_109_6) rfl (eKd (κ := 6) (by decide)) rfl ⟨by have := hR.1; show 1 + 1 ≤ _; omega, by have := hR.2; show 8 + (2 + 11) + 64 ≤ _; omega⟩ ⟨rfl, rfl⟩ ⟨Nat.zero_le _, Nat.zero_le _⟩ _ hst0 hst kk
def N_S_kindOf (d : Nat) (x1 : Int32) (σ : CS) : Option (Nat × CS) := gd (inb x1 12) (gd (inb (σ.2.1 d 1 (ix x1)) 7) (some (ix (σ.2.1 d 1 (ix x1)), σ)))
theorem N_S_kindOf_lt {d : Nat} {x1 : Int32} {σ s9 : CS} {q : Nat} (h : N_S_kindOf d x1 σ = some (q, s9)) : q < 7 := by
  unfold N_S_kindOf at h
  obtain ⟨b1, h⟩ := gd_some h
  obtain ⟨b2, h⟩ := gd_some h
  cases h
  exact inb_lt b2
theorem c_N_S_kindOf {g : GP} {l : Launch} {A : Nat → Nat → Nat} {X : va_W} {s9 : CS} {d : Nat} (hd : d < 3) {x1 : Int32} {σ : CS} {q : Nat} (h : N_S_kindOf d x1 σ = some (q, s9)) : CR g l yX7_kindOf cX7_kindOf 2 (some (.object "SweptRound$YardKind")) { frames := 0, cells := 0, slots := 0, locals := 0 } [.ref (A d 99), .int x1] (wC g A σ X) (fun u => u.1 = A 7 (q + 10) ∧ u.2 = wC g A s9 X) := by
  refine CR.mk (by decide) (Nat.le_of_ble_eq_true rfl) (fun G hG hret => ?_)
  unfold N_S_kindOf at h
  obtain ⟨b1, h⟩ := gd_some h
  obtain ⟨b2, h⟩ := gd_some h
  cases h
  refine g_aload_n hG dX7_kindOf_0 rfl ?_
  refine g_get (f := 0) hG dX7_kindOf_1 (eS hd) rfl inX7 (by decide) rfl f_X7_37 rfl ?_
  refine g_aload_n hG dX7_kindOf_4 rfl ?_
  refine g_get (f := 1) hG dX7_kindOf_5 (eS hd) rfl inX7 (by decide) rfl f_X7_9 rfl ?_
  refine g_iload_n hG dX7_kindOf_8 rfl ?_
  refine c_iald hG dX7_kindOf_9 (aS1 hd) b1 rfl ?_
  refine c_kind hG dX7_kindOf_10 b2 ?_
  exact hret _ _ 11 _ dX7_kindOf_11 ⟨rfl, rfl⟩
theorem g_kindOf {g : GP} {l : Launch} {y : MethodName} {cc : ByteArray} {nL : Nat} {R : Room} {G : GT} {pc idx : Nat} {L : List (Nat × Value)} {st : List Value} {A : Nat → Nat → Nat} {σ s9 : CS} {X : va_W} {d0 q : Nat} {x1 : Int32} (hG : IsG g l y cc nL R G) (d : decode cc pc = .ok (.invokevirtual idx, 3)) (hd : d0 < 3) (lk : LkV y.cls idx yX7_kindOf) (h : N_S_kindOf d0 x1 σ = some (q, s9)) (hR : 0 + 1 ≤ R.frames ∧ 8 + (2 + 11) + 0 ≤ R.locals) (hst : (st.map fun v => v.category).sum ≤ 8) (kk : q < 7 → G 0 0 (wC g A s9 X) L (pc + 3) (.ref (A 7 (q + 10)) :: st)) : G 0 0 (wC g A σ X) L pc (.int x1 :: .ref (A d0 99) :: st) := by
  refine g_cVr hG d (c_N_S_kindOf hd h) b_X7_kindOf lk rfl (eS hd) rfl hR ⟨Nat.zero_le _, Nat.zero_le _⟩ _ rfl hst (fun a hp' hpost => ?_)
  obtain ⟨h1, h2⟩ := hpost
  dsimp only at h1 h2
  subst h1
  subst h2
  exact kk (N_S_kindOf_lt h)
