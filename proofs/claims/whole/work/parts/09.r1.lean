def M_in (x0 : Int32) (x1 : Int32) (x2 : Int32) (σ : RS) : Option (Int32 × RS) := (some ((if x0 < x1 then (0 : Int32) else (if x2 < x0 then (0 : Int32) else (1 : Int32))), σ))
set_option maxRecDepth 100000 in
set_option maxHeartbeats 4000000 in
theorem c_M_in {g : GP} {l : Launch} {r : Nat → Nat} {X : va_W} {v9 : Int32} {s9 : RS} {x0 : Int32} {x1 : Int32} {x2 : Int32} {σ : RS} (h : M_in x0 x1 x2 σ = some (v9, s9)) : CI g l yX12_in cX12_in 3 (some .boolean) { frames := 0, cells := 0, slots := 0, locals := 0 } [.int x0, .int x1, .int x2] (wR g r σ X) (fun r0 w => r0 = v9 ∧ w = wR g r s9 X) := by
  refine CI.mk (by decide) (Nat.le_of_ble_eq_true rfl) (fun G hG hret => ?_)
  have K : ∀ L pc, decode cX12_in pc = .ok (.ireturn, 1) → isb v9 = true → G 0 0 (wR g r s9 X) L pc [.int v9] := fun L pc d hz => hret _ L pc v9 d (isb_n hz) ⟨rfl, rfl⟩
  unfold M_in at h
  refine g_iload_n hG dX12_in_0 rfl ?_
  refine g_iload_n hG dX12_in_1 rfl ?_
  refine g_dia2 (if x0 < x1 then (0 : Int32) else (if x2 < x0 then (0 : Int32) else (1 : Int32))) 15 (fun J1 => ?_) ?_
  · by_cases c2 : x0 < x1
    · refine g_icmp_lt (tgt := 14) hG dX12_in_2 rfl (fun _ => ?_) (fun q => absurd c2 q)
      refine g_iconstv hG dX12_in_14 ki_0 ?_
      rw [if_pos c2] at J1
      exact J1
    · refine g_icmp_lt (tgt := 14) hG dX12_in_2 rfl (fun q => absurd q c2) (fun _ => ?_)
      refine g_iload_n hG dX12_in_5 rfl ?_
      refine g_iload_n hG dX12_in_6 rfl ?_
      by_cases c3 : x2 < x0
      · refine g_icmp_gt (tgt := 14) hG dX12_in_7 rfl (fun _ => ?_) (fun q => absurd c3 q)
        refine g_iconstv hG dX12_in_14 ki_0 ?_
        rw [if_neg c2, if_pos c3] at J1
        exact J1
      · refine g_icmp_gt (tgt := 14) hG dX12_in_7 rfl (fun q => absurd q c3) (fun _ => ?_)
        refine g_iconstv hG dX12_in_10 ki_1 ?_
        refine g_goto (tgt := 15) hG dX12_in_11 rfl ?_
        rw [if_neg c2, if_neg c3] at J1
        exact J1
  cases h
  exact K _ _ dX12_in_15 (isb_ite (by decide) (isb_ite (by decide) (by decide)))
def M_errs (x1 : Int32) (σ : RS) : Option (Int32 × RS) := (gd (inb ((-1000000000 : Int32) - x1) 6) (gd (inb ((-1000000000 : Int32) - x1) 6) (lt (ra σ 6 (upd (σ.2 6) (ix ((-1000000000 : Int32) - x1)) ((σ.2 6 (ix ((-1000000000 : Int32) - x1))) + (1 : Int32)))) fun σ3 => (some (x1, σ3)))))
set_option maxRecDepth 100000 in
set_option maxHeartbeats 4000000 in
theorem c_M_errs {g : GP} {l : Launch} {r : Nat → Nat} {X : va_W} {v9 : Int32} {s9 : RS} {x1 : Int32} {σ : RS} (h : M_errs x1 σ = some (v9, s9)) : CI g l yX12_errs cX12_errs 2 (some .int) { frames := 0, cells := 0, slots := 0, locals := 0 } [.ref (r 25), .int x1] (wR g r σ X) (fun r0 w => r0 = v9 ∧ w = wR g r s9 X) := by
  refine CI.mk (by decide) (Nat.le_of_ble_eq_true rfl) (fun G hG hret => ?_)
  have K : ∀ L pc, decode cX12_errs pc = .ok (.ireturn, 1) → G 0 0 (wR g r s9 X) L pc [.int v9] := fun L pc d => hret _ L pc v9 d rfl ⟨rfl, rfl⟩
  unfold M_errs at h
  refine g_aload_n hG dX12_errs_0 rfl ?_
  refine r_get 6 hG dX12_errs_1 f_X12_22 (by decide) rfl ?_
  refine g_ldc hG dX12_errs_4 k_X12_40 ?_
  refine g_iload_n hG dX12_errs_6 rfl ?_
  refine g_isub hG dX12_errs_7 ?_
  refine g_dup2 hG dX12_errs_8 rfl rfl ?_
  obtain ⟨b1, h⟩ := gd_some h
  refine r_iald 5 6 6 hG dX12_errs_9 rfl b1 rfl ?_
  refine g_iconstv hG dX12_errs_10 ki_1 ?_
  refine g_iadd hG dX12_errs_11 ?_
  obtain ⟨b2, h⟩ := gd_some h
  obtain ⟨σ3, e4, h⟩ := lt_ex h
  refine r_iast 5 6 6 hG e4 dX12_errs_12 rfl b2 rfl rfl ?_
  refine g_iload_n hG dX12_errs_13 rfl ?_
  cases h
  exact K _ _ dX12_errs_14
def M_held (x0 : Int32) (x1 : Int32) (x2 : Int32) (σ : RS) : Option (Int32 × RS) := (some ((if x1 ≤ x0 then (if x0 ≤ x2 then x0 else x2) else x1), σ))
set_option maxRecDepth 100000 in
set_option maxHeartbeats 4000000 in
theorem c_M_held {g : GP} {l : Launch} {r : Nat → Nat} {X : va_W} {v9 : Int32} {s9 : RS} {x0 : Int32} {x1 : Int32} {x2 : Int32} {σ : RS} (h : M_held x0 x1 x2 σ = some (v9, s9)) : CI g l yX12_held cX12_held 3 (some .int) { frames := 0, cells := 0, slots := 0, locals := 0 } [.int x0, .int x1, .int x2] (wR g r σ X) (fun r0 w => r0 = v9 ∧ w = wR g r s9 X) := by
  refine CI.mk (by decide) (Nat.le_of_ble_eq_true rfl) (fun G hG hret => ?_)
  have K : ∀ L pc, decode cX12_held pc = .ok (.ireturn, 1) → G 0 0 (wR g r s9 X) L pc [.int v9] := fun L pc d => hret _ L pc v9 d rfl ⟨rfl, rfl⟩
  unfold M_held at h
  refine g_iload_n hG dX12_held_0 rfl ?_
  refine g_iload_n hG dX12_held_1 rfl ?_
  refine g_dia2 (if x1 ≤ x0 then (if x0 ≤ x2 then x0 else x2) else x1) 19 (fun J1 => ?_) ?_
  · by_cases c2 : x1 ≤ x0
    · refine g_icmp_ge (tgt := 9) hG dX12_held_2 rfl (fun _ => ?_) (fun q => absurd c2 q)
      refine g_iload_n hG dX12_held_9 rfl ?_
      refine g_iload_n hG dX12_held_10 rfl ?_
      by_cases c3 : x0 ≤ x2
      · refine g_icmp_le (tgt := 18) hG dX12_held_11 rfl (fun _ => ?_) (fun q => absurd c3 q)
        refine g_iload_n hG dX12_held_18 rfl ?_
        rw [if_pos c2, if_pos c3] at J1
        exact J1
      · refine g_icmp_le (tgt := 18) hG dX12_held_11 rfl (fun q => absurd q c3) (fun _ => ?_)
        refine g_iload_n hG dX12_held_14 rfl ?_
        refine g_goto (tgt := 19) hG dX12_held_15 rfl ?_
        rw [if_pos c2, if_neg c3] at J1
        exact J1
    · refine g_icmp_ge (tgt := 9) hG dX12_held_2 rfl (fun q => absurd q c2) (fun _ => ?_)
      refine g_iload_n hG dX12_held_5 rfl ?_
      refine g_goto (tgt := 19) hG dX12_held_6 rfl ?_
      rw [if_neg c2] at J1
      exact J1
  cases h
  exact K _ _ dX12_held_19
def M_its (x1 : Int32) (x2 : Int32) (σ : RS) : Option (Int32 × RS) := (gd (inb (((10 : Int32) + ((5 : Int32) * x1)) + x2) 240) (some ((σ.2 0 (ix (((10 : Int32) + ((5 : Int32) * x1)) + x2))), σ)))
set_option maxRecDepth 100000 in
set_option maxHeartbeats 4000000 in
theorem c_M_its {g : GP} {l : Launch} {r : Nat → Nat} {X : va_W} {v9 : Int32} {s9 : RS} {x1 : Int32} {x2 : Int32} {σ : RS} (h : M_its x1 x2 σ = some (v9, s9)) : CI g l yX12_its cX12_its 3 (some .int) { frames := 0, cells := 0, slots := 0, locals := 0 } [.ref (r 25), .int x1, .int x2] (wR g r σ X) (fun r0 w => r0 = v9 ∧ w = wR g r s9 X) := by
  refine CI.mk (by decide) (Nat.le_of_ble_eq_true rfl) (fun G hG hret => ?_)
  have K : ∀ L pc, decode cX12_its pc = .ok (.ireturn, 1) → G 0 0 (wR g r s9 X) L pc [.int v9] := fun L pc d => hret _ L pc v9 d rfl ⟨rfl, rfl⟩
  unfold M_its at h
  refine g_aload_n hG dX12_its_0 rfl ?_
  refine r_get 0 hG dX12_its_1 f_X12_7 (by decide) rfl ?_
  refine g_bipushv hG dX12_its_4 kb_10 ?_
  refine g_iconstv hG dX12_its_6 ki_5 ?_
  refine g_iload_n hG dX12_its_7 rfl ?_
  refine g_imul hG dX12_its_8 ?_
  refine g_iadd hG dX12_its_9 ?_
  refine g_iload_n hG dX12_its_10 rfl ?_
  refine g_iadd hG dX12_its_11 ?_
  obtain ⟨b1, h⟩ := gd_some h
  refine r_iald 1 0 240 hG dX12_its_12 rfl b1 rfl ?_
  cases h
  exact K _ _ dX12_its_13
def M_gets (x1 : Int32) (x2 : Int32) (x3 : Int32) (σ : RS) : Option (Int32 × RS) := (gd (inb (((10 : Int32) + ((5 : Int32) * x1)) + x2) 240) (lt (ra σ 0 (upd (σ.2 0) (ix (((10 : Int32) + ((5 : Int32) * x1)) + x2)) x3)) fun σ2 => (some ((0 : Int32), σ2))))
set_option maxRecDepth 100000 in
set_option maxHeartbeats 4000000 in
theorem c_M_gets {g : GP} {l : Launch} {r : Nat → Nat} {X : va_W} {v9 : Int32} {s9 : RS} {x1 : Int32} {x2 : Int32} {x3 : Int32} {σ : RS} (h : M_gets x1 x2 x3 σ = some (v9, s9)) : CV g l yX12_gets cX12_gets 4 { frames := 0, cells := 0, slots := 0, locals := 0 } [.ref (r 25), .int x1, .int x2, .int x3] (wR g r σ X) (fun w => w = wR g r s9 X) := by
  refine CV.mk (by decide) (Nat.le_of_ble_eq_true rfl) (fun G hG hret => ?_)
  have K : ∀ L pc, decode cX12_gets pc = .ok (.return_, 1) → G 0 0 (wR g r s9 X) L pc [] := fun L pc d => hret _ L pc d rfl
  unfold M_gets at h
  refine g_aload_n hG dX12_gets_0 rfl ?_
  refine r_get 0 hG dX12_gets_1 f_X12_7 (by decide) rfl ?_
  refine g_bipushv hG dX12_gets_4 kb_10 ?_
  refine g_iconstv hG dX12_gets_6 ki_5 ?_
  refine g_iload_n hG dX12_gets_7 rfl ?_
  refine g_imul hG dX12_gets_8 ?_
  refine g_iadd hG dX12_gets_9 ?_
  refine g_iload_n hG dX12_gets_10 rfl ?_
  refine g_iadd hG dX12_gets_11 ?_
  refine g_iload_n hG dX12_gets_12 rfl ?_
  obtain ⟨b1, h⟩ := gd_some h
  obtain ⟨σ2, e3, h⟩ := lt_ex h
  refine r_iast 1 0 240 hG e3 dX12_gets_13 rfl b1 rfl rfl ?_
  cases h
  exact K _ _ dX12_gets_14
def M_isYard (x1 : Int32) (σ : RS) : Option (Int32 × RS) := (ob (M_in x1 (0 : Int32) ((σ.2 0 2) - (1 : Int32)) σ) fun v1 σ2 => (gd (isb v1) (some (v1, σ2))))
set_option maxRecDepth 100000 in
set_option maxHeartbeats 4000000 in
theorem c_M_isYard {g : GP} {l : Launch} {r : Nat → Nat} {X : va_W} {v9 : Int32} {s9 : RS} {x1 : Int32} {σ : RS} (h : M_isYard x1 σ = some (v9, s9)) : CI g l yX12_isYard cX12_isYard 2 (some .boolean) { frames := 1, cells := 0, slots := 0, locals := 22 } [.ref (r 25), .int x1] (wR g r σ X) (fun r0 w => r0 = v9 ∧ w = wR g r s9 X) := by
  refine CI.mk (by decide) (Nat.le_of_ble_eq_true rfl) (fun G hG hret => ?_)
  have K : ∀ L pc, decode cX12_isYard pc = .ok (.ireturn, 1) → isb v9 = true → G 0 0 (wR g r s9 X) L pc [.int v9] := fun L pc d hz => hret _ L pc v9 d (isb_n hz) ⟨rfl, rfl⟩
  unfold M_isYard at h
  refine g_iload_n hG dX12_isYard_0 rfl ?_
  refine g_iconstv hG dX12_isYard_1 ki_0 ?_
  refine g_aload_n hG dX12_isYard_2 rfl ?_
  refine r_get 0 hG dX12_isYard_3 f_X12_7 (by decide) rfl ?_
  refine g_iconstv hG dX12_isYard_6 ki_2 ?_
  refine r_iald 1 0 240 hG dX12_isYard_7 rfl (by decide) (by decide : Int32.toNatClampNeg (2 : Int32) = 2) ?_
  refine g_iconstv hG dX12_isYard_8 ki_1 ?_
  refine g_isub hG dX12_isYard_9 ?_
  obtain ⟨v1, σ2, q3, h⟩ := ob_some h
  refine g_cS hG dX12_isYard_10 (c_M_in q3) b_X12_in v_X12_41 rfl ⟨Nat.le_of_ble_eq_true rfl, Nat.le_of_ble_eq_true rfl⟩ ⟨rfl, rfl⟩ ⟨Nat.zero_le _, Nat.zero_le _⟩ _ rfl (Nat.le_of_ble_eq_true rfl) ?_
  obtain ⟨b4, h⟩ := gd_some h
  cases h
  exact K _ _ dX12_isYard_13 b4
def M_becomes (x1 : Int32) (x2 : Int32) (σ : RS) : Option (Int32 × RS) := (gd (inb x1 240) (lt (σ.2 0 (ix x1)) fun v2 => (gd (inb x1 240) (lt (ra σ 0 (upd (σ.2 0) (ix x1) x2)) fun σ5 => (some (v2, σ5))))))
set_option maxRecDepth 100000 in
set_option maxHeartbeats 4000000 in
theorem c_M_becomes {g : GP} {l : Launch} {r : Nat → Nat} {X : va_W} {v9 : Int32} {s9 : RS} {x1 : Int32} {x2 : Int32} {σ : RS} (h : M_becomes x1 x2 σ = some (v9, s9)) : CI g l yX12_becomes cX12_becomes 4 (some .int) { frames := 0, cells := 0, slots := 0, locals := 0 } [.ref (r 25), .int x1, .int x2] (wR g r σ X) (fun r0 w => r0 = v9 ∧ w = wR g r s9 X) := by
  refine CI.mk (by decide) (Nat.le_of_ble_eq_true rfl) (fun G hG hret => ?_)
  have K : ∀ L pc, decode cX12_becomes pc = .ok (.ireturn, 1) → G 0 0 (wR g r s9 X) L pc [.int v9] := fun L pc d => hret _ L pc v9 d rfl ⟨rfl, rfl⟩
  unfold M_becomes at h
  refine g_aload_n hG dX12_becomes_0 rfl ?_
  refine r_get 0 hG dX12_becomes_1 f_X12_7 (by decide) rfl ?_
  refine g_iload_n hG dX12_becomes_4 rfl ?_
  obtain ⟨b1, h⟩ := gd_some h
  refine r_iald 1 0 240 hG dX12_becomes_5 rfl b1 rfl ?_
  obtain ⟨v2, e3, h⟩ := lt_ex h
  refine g_nam e3 ?_
  refine g_istore_n hG dX12_becomes_6 (by decide) ?_
  refine g_aload_n hG dX12_becomes_7 rfl ?_
  refine r_get 0 hG dX12_becomes_8 f_X12_7 (by decide) rfl ?_
  refine g_iload_n hG dX12_becomes_11 rfl ?_
  refine g_iload_n hG dX12_becomes_12 rfl ?_
  obtain ⟨b4, h⟩ := gd_some h
  obtain ⟨σ5, e6, h⟩ := lt_ex h
  refine r_iast 1 0 240 hG e6 dX12_becomes_13 rfl b4 rfl rfl ?_
  refine g_iload_n hG dX12_becomes_14 rfl ?_
  cases h
  exact K _ _ dX12_becomes_15
def M_yard (x1 : Int32) (x2 : Int32) (x3 : Int32) (σ : RS) : Option (Int32 × RS) := (ob (M_in x1 (0 : Int32) (69 : Int32) σ) fun v1 σ2 => (if v1 = 0 then (ob (M_errs (-1000000001 : Int32) σ2) fun v5 σ6 => (some (v5, σ6))) else (ob (M_in x2 (0 : Int32) (999 : Int32) σ2) fun v8 σ9 => (if v8 = 0 then (ob (M_errs (-1000000001 : Int32) σ9) fun v12 σ13 => (some (v12, σ13))) else (ob (M_in x3 (-1 : Int32) (99 : Int32) σ9) fun v15 σ16 => (if v15 = 0 then (ob (M_errs (-1000000001 : Int32) σ16) fun v19 σ20 => (some (v19, σ20))) else (if (σ16.2 0 2) = (12 : Int32) then (ob (M_errs (-1000000004 : Int32) σ16) fun v23 σ24 => (some (v23, σ24))) else (lt (σ16.2 0 2) fun v26 => (ob (M_gets v26 (0 : Int32) (x1 / (10 : Int32)) σ16) fun v28 σ29 => (ob (M_gets v26 (1 : Int32) (irm x1 (10 : Int32)) σ29) fun v31 σ32 => (ob (M_gets v26 (2 : Int32) x2 σ32) fun v34 σ35 => (ob (M_gets v26 (3 : Int32) (if 0 ≤ x3 then (1 : Int32) else (0 : Int32)) σ35) fun v39 σ40 => (ob (M_gets v26 (4 : Int32) (if 0 ≤ x3 then x3 else (0 : Int32)) σ40) fun v44 σ45 => (lt (ra σ45 0 (upd (σ45.2 0) 2 ((σ45.2 0 2) + (1 : Int32)))) fun σ47 => (some (v26, σ47))))))))))))))))
set_option maxRecDepth 100000 in
set_option maxHeartbeats 4000000 in
theorem c_M_yard {g : GP} {l : Launch} {r : Nat → Nat} {X : va_W} {v9 : Int32} {s9 : RS} {x1 : Int32} {x2 : Int32} {x3 : Int32} {σ : RS} (h : M_yard x1 x2 x3 σ = some (v9, s9)) : CI g l yX12_yard cX12_yard 5 (some .int) { frames := 1, cells := 0, slots := 0, locals := 23 } [.ref (r 25), .int x1, .int x2, .int x3] (wR g r σ X) (fun r0 w => r0 = v9 ∧ w = wR g r s9 X) := by
  refine CI.mk (by decide) (Nat.le_of_ble_eq_true rfl) (fun G hG hret => ?_)
  have K : ∀ L pc, decode cX12_yard pc = .ok (.ireturn, 1) → G 0 0 (wR g r s9 X) L pc [.int v9] := fun L pc d => hret _ L pc v9 d rfl ⟨rfl, rfl⟩
  unfold M_yard at h
  refine g_iload_n hG dX12_yard_0 rfl ?_
  refine g_iconstv hG dX12_yard_1 ki_0 ?_
  refine g_bipushv hG dX12_yard_2 kb_69 ?_
  obtain ⟨v1, σ2, q3, h⟩ := ob_some h
  refine g_cS hG dX12_yard_4 (c_M_in q3) b_X12_in v_X12_41 rfl ⟨Nat.le_of_ble_eq_true rfl, Nat.le_of_ble_eq_true rfl⟩ ⟨rfl, rfl⟩ ⟨Nat.zero_le _, Nat.zero_le _⟩ _ rfl (Nat.le_of_ble_eq_true rfl) ?_
  rcases if_some h with ⟨c4, h⟩ | ⟨c4, h⟩
  · refine g_if_eq (tgt := 31) hG dX12_yard_7 rfl (fun _ => ?_) (fun q => absurd c4 q)
    refine g_aload_n hG dX12_yard_31 rfl ?_
    refine g_ldc hG dX12_yard_32 k_X12_45 ?_
    obtain ⟨v5, σ6, q7, h⟩ := ob_some h
    refine g_cV hG dX12_yard_34 (c_M_errs q7) b_X12_errs v_X12_46 rfl (k := 0) rfl rfl ⟨Nat.le_of_ble_eq_true rfl, Nat.le_of_ble_eq_true rfl⟩ ⟨rfl, rfl⟩ ⟨Nat.zero_le _, Nat.zero_le _⟩ _ rfl (Nat.le_of_ble_eq_true rfl) ?_
    cases h
    exact K _ _ dX12_yard_37
  · refine g_if_eq (tgt := 31) hG dX12_yard_7 rfl (fun q => absurd q c4) (fun _ => ?_)
    refine g_iload_n hG dX12_yard_10 rfl ?_
    refine g_iconstv hG dX12_yard_11 ki_0 ?_
    refine g_sipushv hG dX12_yard_12 ks_999 ?_
    obtain ⟨v8, σ9, q10, h⟩ := ob_some h
    refine g_cS hG dX12_yard_15 (c_M_in q10) b_X12_in v_X12_41 rfl ⟨Nat.le_of_ble_eq_true rfl, Nat.le_of_ble_eq_true rfl⟩ ⟨rfl, rfl⟩ ⟨Nat.zero_le _, Nat.zero_le _⟩ _ rfl (Nat.le_of_ble_eq_true rfl) ?_
    rcases if_some h with ⟨c11, h⟩ | ⟨c11, h⟩
    · refine g_if_eq (tgt := 31) hG dX12_yard_18 rfl (fun _ => ?_) (fun q => absurd c11 q)
      refine g_aload_n hG dX12_yard_31 rfl ?_
      refine g_ldc hG dX12_yard_32 k_X12_45 ?_
      obtain ⟨v12, σ13, q14, h⟩ := ob_some h
      refine g_cV hG dX12_yard_34 (c_M_errs q14) b_X12_errs v_X12_46 rfl (k := 0) rfl rfl ⟨Nat.le_of_ble_eq_true rfl, Nat.le_of_ble_eq_true rfl⟩ ⟨rfl, rfl⟩ ⟨Nat.zero_le _, Nat.zero_le _⟩ _ rfl (Nat.le_of_ble_eq_true rfl) ?_
      cases h
      exact K _ _ dX12_yard_37
    · refine g_if_eq (tgt := 31) hG dX12_yard_18 rfl (fun q => absurd q c11) (fun _ => ?_)
      refine g_iload_n hG dX12_yard_21 rfl ?_
      refine g_iconstv hG dX12_yard_22 ki_m1 ?_
      refine g_bipushv hG dX12_yard_23 kb_99 ?_
      obtain ⟨v15, σ16, q17, h⟩ := ob_some h
      refine g_cS hG dX12_yard_25 (c_M_in q17) b_X12_in v_X12_41 rfl ⟨Nat.le_of_ble_eq_true rfl, Nat.le_of_ble_eq_true rfl⟩ ⟨rfl, rfl⟩ ⟨Nat.zero_le _, Nat.zero_le _⟩ _ rfl (Nat.le_of_ble_eq_true rfl) ?_
      rcases if_some h with ⟨c18, h⟩ | ⟨c18, h⟩
      · refine g_if_ne (tgt := 38) hG dX12_yard_28 rfl (fun q => absurd c18 q) (fun _ => ?_)
        refine g_aload_n hG dX12_yard_31 rfl ?_
        refine g_ldc hG dX12_yard_32 k_X12_45 ?_
        obtain ⟨v19, σ20, q21, h⟩ := ob_some h
        refine g_cV hG dX12_yard_34 (c_M_errs q21) b_X12_errs v_X12_46 rfl (k := 0) rfl rfl ⟨Nat.le_of_ble_eq_true rfl, Nat.le_of_ble_eq_true rfl⟩ ⟨rfl, rfl⟩ ⟨Nat.zero_le _, Nat.zero_le _⟩ _ rfl (Nat.le_of_ble_eq_true rfl) ?_
        cases h
        exact K _ _ dX12_yard_37
      · refine g_if_ne (tgt := 38) hG dX12_yard_28 rfl (fun _ => ?_) (fun q => absurd q c18)
        refine g_aload_n hG dX12_yard_38 rfl ?_
        refine r_get 0 hG dX12_yard_39 f_X12_7 (by decide) rfl ?_
        refine g_iconstv hG dX12_yard_42 ki_2 ?_
        refine r_iald 1 0 240 hG dX12_yard_43 rfl (by decide) (by decide : Int32.toNatClampNeg (2 : Int32) = 2) ?_
        refine g_bipushv hG dX12_yard_44 kb_12 ?_
        rcases if_some h with ⟨c22, h⟩ | ⟨c22, h⟩
        · refine g_icmp_ne (tgt := 56) hG dX12_yard_46 rfl (fun q => absurd c22 q) (fun _ => ?_)
          refine g_aload_n hG dX12_yard_49 rfl ?_
          refine g_ldc hG dX12_yard_50 k_X12_50 ?_
          obtain ⟨v23, σ24, q25, h⟩ := ob_some h
          refine g_cV hG dX12_yard_52 (c_M_errs q25) b_X12_errs v_X12_46 rfl (k := 0) rfl rfl ⟨Nat.le_of_ble_eq_true rfl, Nat.le_of_ble_eq_true rfl⟩ ⟨rfl, rfl⟩ ⟨Nat.zero_le _, Nat.zero_le _⟩ _ rfl (Nat.le_of_ble_eq_true rfl) ?_
          cases h
          exact K _ _ dX12_yard_55
        · refine g_icmp_ne (tgt := 56) hG dX12_yard_46 rfl (fun _ => ?_) (fun q => absurd q c22)
          refine g_aload_n hG dX12_yard_56 rfl ?_
          refine r_get 0 hG dX12_yard_57 f_X12_7 (by decide) rfl ?_
          refine g_iconstv hG dX12_yard_60 ki_2 ?_
          refine r_iald 1 0 240 hG dX12_yard_61 rfl (by decide) (by decide : Int32.toNatClampNeg (2 : Int32) = 2) ?_
          obtain ⟨v26, e27, h⟩ := lt_ex h
          refine g_nam e27 ?_
          refine g_istore hG dX12_yard_62 (by decide) ?_
          refine g_aload_n hG dX12_yard_64 rfl ?_
          refine g_iload hG dX12_yard_65 rfl ?_
          refine g_iconstv hG dX12_yard_67 ki_0 ?_
          refine g_iload_n hG dX12_yard_68 rfl ?_
          refine g_bipushv hG dX12_yard_69 kb_10 ?_
          refine g_idiv hG dX12_yard_71 (by decide) ?_
          obtain ⟨v28, σ29, q30, h⟩ := ob_some h
          refine g_cVv hG dX12_yard_72 (c_M_gets q30) b_X12_gets v_X12_51 rfl (k := 0) rfl rfl ⟨Nat.le_of_ble_eq_true rfl, Nat.le_of_ble_eq_true rfl⟩ ⟨rfl, rfl⟩ ⟨Nat.zero_le _, Nat.zero_le _⟩ _ rfl (Nat.le_of_ble_eq_true rfl) ?_
          refine g_aload_n hG dX12_yard_75 rfl ?_
          refine g_iload hG dX12_yard_76 rfl ?_
          refine g_iconstv hG dX12_yard_78 ki_1 ?_
          refine g_iload_n hG dX12_yard_79 rfl ?_
          refine g_bipushv hG dX12_yard_80 kb_10 ?_
          refine g_irm hG dX12_yard_82 (by decide) ?_
          obtain ⟨v31, σ32, q33, h⟩ := ob_some h
          refine g_cVv hG dX12_yard_83 (c_M_gets q33) b_X12_gets v_X12_51 rfl (k := 0) rfl rfl ⟨Nat.le_of_ble_eq_true rfl, Nat.le_of_ble_eq_true rfl⟩ ⟨rfl, rfl⟩ ⟨Nat.zero_le _, Nat.zero_le _⟩ _ rfl (Nat.le_of_ble_eq_true rfl) ?_
          refine g_aload_n hG dX12_yard_86 rfl ?_
          refine g_iload hG dX12_yard_87 rfl ?_
          refine g_iconstv hG dX12_yard_89 ki_2 ?_
          refine g_iload_n hG dX12_yard_90 rfl ?_
          obtain ⟨v34, σ35, q36, h⟩ := ob_some h
          refine g_cVv hG dX12_yard_91 (c_M_gets q36) b_X12_gets v_X12_51 rfl (k := 0) rfl rfl ⟨Nat.le_of_ble_eq_true rfl, Nat.le_of_ble_eq_true rfl⟩ ⟨rfl, rfl⟩ ⟨Nat.zero_le _, Nat.zero_le _⟩ _ rfl (Nat.le_of_ble_eq_true rfl) ?_
          refine g_aload_n hG dX12_yard_94 rfl ?_
          refine g_iload hG dX12_yard_95 rfl ?_
          refine g_iconstv hG dX12_yard_97 ki_3 ?_
          refine g_iload_n hG dX12_yard_98 rfl ?_
          refine g_dia1 (if 0 ≤ x3 then (1 : Int32) else (0 : Int32)) 107 (fun J37 => ?_) ?_
          · by_cases c38 : 0 ≤ x3
            · refine g_if_ge (tgt := 106) hG dX12_yard_99 rfl (fun _ => ?_) (fun q => absurd c38 q)
              refine g_iconstv hG dX12_yard_106 ki_1 ?_
              rw [if_pos c38] at J37
              exact J37
            · refine g_if_ge (tgt := 106) hG dX12_yard_99 rfl (fun q => absurd q c38) (fun _ => ?_)
              refine g_iconstv hG dX12_yard_102 ki_0 ?_
              refine g_goto (tgt := 107) hG dX12_yard_103 rfl ?_
              rw [if_neg c38] at J37
              exact J37
          obtain ⟨v39, σ40, q41, h⟩ := ob_some h
          refine g_cVv hG dX12_yard_107 (c_M_gets q41) b_X12_gets v_X12_51 rfl (k := 0) rfl rfl ⟨Nat.le_of_ble_eq_true rfl, Nat.le_of_ble_eq_true rfl⟩ ⟨rfl, rfl⟩ ⟨Nat.zero_le _, Nat.zero_le _⟩ _ rfl (Nat.le_of_ble_eq_true rfl) ?_
          refine g_aload_n hG dX12_yard_110 rfl ?_
          refine g_iload hG dX12_yard_111 rfl ?_
          refine g_iconstv hG dX12_yard_113 ki_4 ?_
          refine g_iload_n hG dX12_yard_114 rfl ?_
          refine g_dia1 (if 0 ≤ x3 then x3 else (0 : Int32)) 123 (fun J42 => ?_) ?_
          · by_cases c43 : 0 ≤ x3
            · refine g_if_ge (tgt := 122) hG dX12_yard_115 rfl (fun _ => ?_) (fun q => absurd c43 q)
              refine g_iload_n hG dX12_yard_122 rfl ?_
              rw [if_pos c43] at J42
              exact J42
            · refine g_if_ge (tgt := 122) hG dX12_yard_115 rfl (fun q => absurd q c43) (fun _ => ?_)
              refine g_iconstv hG dX12_yard_118 ki_0 ?_
              refine g_goto (tgt := 123) hG dX12_yard_119 rfl ?_
              rw [if_neg c43] at J42
              exact J42
          obtain ⟨v44, σ45, q46, h⟩ := ob_some h
          refine g_cVv hG dX12_yard_123 (c_M_gets q46) b_X12_gets v_X12_51 rfl (k := 0) rfl rfl ⟨Nat.le_of_ble_eq_true rfl, Nat.le_of_ble_eq_true rfl⟩ ⟨rfl, rfl⟩ ⟨Nat.zero_le _, Nat.zero_le _⟩ _ rfl (Nat.le_of_ble_eq_true rfl) ?_
          refine g_aload_n hG dX12_yard_126 rfl ?_
          refine r_get 0 hG dX12_yard_127 f_X12_7 (by decide) rfl ?_
          refine g_iconstv hG dX12_yard_130 ki_2 ?_
          refine g_dup2 hG dX12_yard_131 rfl rfl ?_
          refine r_iald 1 0 240 hG dX12_yard_132 rfl (by decide) (by decide : Int32.toNatClampNeg (2 : Int32) = 2) ?_
          refine g_iconstv hG dX12_yard_133 ki_1 ?_
          refine g_iadd hG dX12_yard_134 ?_
          obtain ⟨σ47, e48, h⟩ := lt_ex h
          refine r_iast 1 0 240 hG e48 dX12_yard_135 rfl (by decide) (by decide : Int32.toNatClampNeg (2 : Int32) = 2) rfl ?_
          refine g_iload hG dX12_yard_136 rfl ?_
          cases h
          exact K _ _ dX12_yard_138
def M_change_b49 (x1 : Int32) (x2 : Int32) (x3 : Int32) (s0 : Int32) (σ : RS) : Option (Int32 × RS) := (ob (M_isYard x1 σ) fun v5 σ6 => (if v5 = 0 then (ob (M_errs (-1000000001 : Int32) σ6) fun v9 σ10 => (some (v9, σ10))) else (if s0 = 0 then (ob (M_errs (-1000000001 : Int32) σ6) fun v13 σ14 => (some (v13, σ14))) else (ob (M_becomes ((((10 : Int32) + ((5 : Int32) * x1)) + (2 : Int32)) + x2) x3 σ6) fun v16 σ17 => (some (v16, σ17))))))
set_option maxRecDepth 100000 in
set_option maxHeartbeats 4000000 in
theorem s_M_change_b49 {g : GP} {l : Launch} {r : Nat → Nat} {X : va_W} {G : GT} {v9 : Int32} {s9 : RS} (hG : IsG g l yX12_change cX12_change 5 { frames := 2, cells := 0, slots := 0, locals := 43 } G) (K : ∀ L pc, decode cX12_change pc = .ok (.ireturn, 1) → G 0 0 (wR g r s9 X) L pc [.int v9]) {x1 : Int32} {x2 : Int32} {x3 : Int32} {s0 : Int32} {σ : RS} (h : M_change_b49  x1 x2 x3 s0 σ = some (v9, s9)) : G 0 0 (wR g r σ X) [(0, .ref (r 25)), (1, .int x1), (2, .int x2), (3, .int x3)] 49 [.int s0] := by
  unfold M_change_b49 at h
  refine g_istore hG dX12_change_49 (by decide) ?_
  refine g_aload_n hG dX12_change_51 rfl ?_
  refine g_iload_n hG dX12_change_52 rfl ?_
  obtain ⟨v5, σ6, q7, h⟩ := ob_some h
  refine g_cV hG dX12_change_53 (c_M_isYard q7) b_X12_isYard v_X12_55 rfl (k := 0) rfl rfl ⟨Nat.le_of_ble_eq_true rfl, Nat.le_of_ble_eq_true rfl⟩ ⟨rfl, rfl⟩ ⟨Nat.zero_le _, Nat.zero_le _⟩ _ rfl (Nat.le_of_ble_eq_true rfl) ?_
  rcases if_some h with ⟨c8, h⟩ | ⟨c8, h⟩
  · refine g_if_eq (tgt := 82) hG dX12_change_56 rfl (fun _ => ?_) (fun q => absurd c8 q)
    refine g_aload_n hG dX12_change_82 rfl ?_
    refine g_ldc hG dX12_change_83 k_X12_45 ?_
    obtain ⟨v9, σ10, q11, h⟩ := ob_some h
    refine g_cV hG dX12_change_85 (c_M_errs q11) b_X12_errs v_X12_46 rfl (k := 0) rfl rfl ⟨Nat.le_of_ble_eq_true rfl, Nat.le_of_ble_eq_true rfl⟩ ⟨rfl, rfl⟩ ⟨Nat.zero_le _, Nat.zero_le _⟩ _ rfl (Nat.le_of_ble_eq_true rfl) ?_
    cases h
    exact K _ _ dX12_change_88
  · refine g_if_eq (tgt := 82) hG dX12_change_56 rfl (fun q => absurd q c8) (fun _ => ?_)
    refine g_iload hG dX12_change_59 rfl ?_
    rcases if_some h with ⟨c12, h⟩ | ⟨c12, h⟩
    · refine g_if_eq (tgt := 82) hG dX12_change_61 rfl (fun _ => ?_) (fun q => absurd c12 q)
      refine g_aload_n hG dX12_change_82 rfl ?_
      refine g_ldc hG dX12_change_83 k_X12_45 ?_
      obtain ⟨v13, σ14, q15, h⟩ := ob_some h
      refine g_cV hG dX12_change_85 (c_M_errs q15) b_X12_errs v_X12_46 rfl (k := 0) rfl rfl ⟨Nat.le_of_ble_eq_true rfl, Nat.le_of_ble_eq_true rfl⟩ ⟨rfl, rfl⟩ ⟨Nat.zero_le _, Nat.zero_le _⟩ _ rfl (Nat.le_of_ble_eq_true rfl) ?_
      cases h
      exact K _ _ dX12_change_88
    · refine g_if_eq (tgt := 82) hG dX12_change_61 rfl (fun q => absurd q c12) (fun _ => ?_)
      refine g_aload_n hG dX12_change_64 rfl ?_
      refine g_bipushv hG dX12_change_65 kb_10 ?_
      refine g_iconstv hG dX12_change_67 ki_5 ?_
      refine g_iload_n hG dX12_change_68 rfl ?_
      refine g_imul hG dX12_change_69 ?_
      refine g_iadd hG dX12_change_70 ?_
      refine g_iconstv hG dX12_change_71 ki_2 ?_
      refine g_iadd hG dX12_change_72 ?_
      refine g_iload_n hG dX12_change_73 rfl ?_
      refine g_iadd hG dX12_change_74 ?_
      refine g_iload_n hG dX12_change_75 rfl ?_
      obtain ⟨v16, σ17, q18, h⟩ := ob_some h
      refine g_cV hG dX12_change_76 (c_M_becomes q18) b_X12_becomes v_X12_69 rfl (k := 0) rfl rfl ⟨Nat.le_of_ble_eq_true rfl, Nat.le_of_ble_eq_true rfl⟩ ⟨rfl, rfl⟩ ⟨Nat.zero_le _, Nat.zero_le _⟩ _ rfl (Nat.le_of_ble_eq_true rfl) ?_
      refine g_goto (tgt := 88) hG dX12_change_79 rfl ?_
      cases h
      exact K _ _ dX12_change_88
def M_change (x1 : Int32) (x2 : Int32) (x3 : Int32) (σ : RS) : Option (Int32 × RS) := (if x2 = 0 then (ob (M_in x3 (0 : Int32) (999 : Int32) σ) fun v2 σ3 => (M_change_b49  x1 x2 x3 v2 σ3)) else (if x2 = (1 : Int32) then (ob (M_in x3 (0 : Int32) (1 : Int32) σ) fun v20 σ21 => (M_change_b49  x1 x2 x3 v20 σ21)) else (if x2 = (2 : Int32) then (ob (M_in x3 (0 : Int32) (99 : Int32) σ) fun v24 σ25 => (M_change_b49  x1 x2 x3 (if v24 = 0 then (0 : Int32) else (1 : Int32)) σ25)) else (M_change_b49  x1 x2 x3 (0 : Int32) σ))))
set_option maxRecDepth 100000 in
set_option maxHeartbeats 4000000 in
theorem c_M_change {g : GP} {l : Launch} {r : Nat → Nat} {X : va_W} {v9 : Int32} {s9 : RS} {x1 : Int32} {x2 : Int32} {x3 : Int32} {σ : RS} (h : M_change x1 x2 x3 σ = some (v9, s9)) : CI g l yX12_change cX12_change 5 (some .int) { frames := 2, cells := 0, slots := 0, locals := 43 } [.ref (r 25), .int x1, .int x2, .int x3] (wR g r σ X) (fun r0 w => r0 = v9 ∧ w = wR g r s9 X) := by
  refine CI.mk (by decide) (Nat.le_of_ble_eq_true rfl) (fun G hG hret => ?_)
  have K : ∀ L pc, decode cX12_change pc = .ok (.ireturn, 1) → G 0 0 (wR g r s9 X) L pc [.int v9] := fun L pc d => hret _ L pc v9 d rfl ⟨rfl, rfl⟩
  unfold M_change at h
  refine g_iload_n hG dX12_change_0 rfl ?_
  rcases if_some h with ⟨c1, h⟩ | ⟨c1, h⟩
  · refine g_if_ne (tgt := 15) hG dX12_change_1 rfl (fun q => absurd c1 q) (fun _ => ?_)
    refine g_iload_n hG dX12_change_4 rfl ?_
    refine g_iconstv hG dX12_change_5 ki_0 ?_
    refine g_sipushv hG dX12_change_6 ks_999 ?_
    obtain ⟨v2, σ3, q4, h⟩ := ob_some h
    refine g_cS hG dX12_change_9 (c_M_in q4) b_X12_in v_X12_41 rfl ⟨Nat.le_of_ble_eq_true rfl, Nat.le_of_ble_eq_true rfl⟩ ⟨rfl, rfl⟩ ⟨Nat.zero_le _, Nat.zero_le _⟩ _ rfl (Nat.le_of_ble_eq_true rfl) ?_
    refine g_goto (tgt := 49) hG dX12_change_12 rfl ?_
    refine g_loc hG [(0, .ref (r 25)), (1, .int x1), (2, .int x2), (3, .int x3)] ⟨rfl, rfl, rfl, rfl, trivial⟩ ?_
    exact s_M_change_b49  hG K  h
  · refine g_if_ne (tgt := 15) hG dX12_change_1 rfl (fun _ => ?_) (fun q => absurd q c1)
    refine g_iload_n hG dX12_change_15 rfl ?_
    refine g_iconstv hG dX12_change_16 ki_1 ?_
    rcases if_some h with ⟨c19, h⟩ | ⟨c19, h⟩
    · refine g_icmp_ne (tgt := 29) hG dX12_change_17 rfl (fun q => absurd c19 q) (fun _ => ?_)
      refine g_iload_n hG dX12_change_20 rfl ?_
      refine g_iconstv hG dX12_change_21 ki_0 ?_
      refine g_iconstv hG dX12_change_22 ki_1 ?_
      obtain ⟨v20, σ21, q22, h⟩ := ob_some h
      refine g_cS hG dX12_change_23 (c_M_in q22) b_X12_in v_X12_41 rfl ⟨Nat.le_of_ble_eq_true rfl, Nat.le_of_ble_eq_true rfl⟩ ⟨rfl, rfl⟩ ⟨Nat.zero_le _, Nat.zero_le _⟩ _ rfl (Nat.le_of_ble_eq_true rfl) ?_
      refine g_goto (tgt := 49) hG dX12_change_26 rfl ?_
      refine g_loc hG [(0, .ref (r 25)), (1, .int x1), (2, .int x2), (3, .int x3)] ⟨rfl, rfl, rfl, rfl, trivial⟩ ?_
      exact s_M_change_b49  hG K  h
    · refine g_icmp_ne (tgt := 29) hG dX12_change_17 rfl (fun _ => ?_) (fun q => absurd q c19)
      refine g_iload_n hG dX12_change_29 rfl ?_
      refine g_iconstv hG dX12_change_30 ki_2 ?_
      rcases if_some h with ⟨c23, h⟩ | ⟨c23, h⟩
      · refine g_icmp_ne (tgt := 48) hG dX12_change_31 rfl (fun q => absurd c23 q) (fun _ => ?_)
        refine g_iload_n hG dX12_change_34 rfl ?_
        refine g_iconstv hG dX12_change_35 ki_0 ?_
        refine g_bipushv hG dX12_change_36 kb_99 ?_
        obtain ⟨v24, σ25, q26, h⟩ := ob_some h
        refine g_cS hG dX12_change_38 (c_M_in q26) b_X12_in v_X12_41 rfl ⟨Nat.le_of_ble_eq_true rfl, Nat.le_of_ble_eq_true rfl⟩ ⟨rfl, rfl⟩ ⟨Nat.zero_le _, Nat.zero_le _⟩ _ rfl (Nat.le_of_ble_eq_true rfl) ?_
        refine g_dia1 (if v24 = 0 then (0 : Int32) else (1 : Int32)) 49 (fun J27 => ?_) ?_
        · by_cases c28 : v24 = 0
          · refine g_if_eq (tgt := 48) hG dX12_change_41 rfl (fun _ => ?_) (fun q => absurd c28 q)
            refine g_iconstv hG dX12_change_48 ki_0 ?_
            rw [if_pos c28] at J27
            exact J27
          · refine g_if_eq (tgt := 48) hG dX12_change_41 rfl (fun q => absurd q c28) (fun _ => ?_)
            refine g_iconstv hG dX12_change_44 ki_1 ?_
            refine g_goto (tgt := 49) hG dX12_change_45 rfl ?_
            rw [if_neg c28] at J27
            exact J27
        refine g_loc hG [(0, .ref (r 25)), (1, .int x1), (2, .int x2), (3, .int x3)] ⟨rfl, rfl, rfl, rfl, trivial⟩ ?_
        exact s_M_change_b49  hG K  h
      · refine g_icmp_ne (tgt := 48) hG dX12_change_31 rfl (fun _ => ?_) (fun q => absurd q c23)
        refine g_iconstv hG dX12_change_48 ki_0 ?_
        refine g_loc hG [(0, .ref (r 25)), (1, .int x1), (2, .int x2), (3, .int x3)] ⟨rfl, rfl, rfl, rfl, trivial⟩ ?_
        exact s_M_change_b49  hG K  h
def M_set_b49 (x1 : Int32) (x2 : Int32) (s0 : Int32) (σ : RS) : Option (Int32 × RS) := (if s0 = 0 then (ob (M_errs (-1000000001 : Int32) σ) fun v6 σ7 => (some (v6, σ7))) else (ob (M_becomes ((7 : Int32) + x1) x2 σ) fun v9 σ10 => (some (v9, σ10))))
set_option maxRecDepth 100000 in
set_option maxHeartbeats 4000000 in
theorem s_M_set_b49 {g : GP} {l : Launch} {r : Nat → Nat} {X : va_W} {G : GT} {v9 : Int32} {s9 : RS} (hG : IsG g l yX12_set cX12_set 4 { frames := 1, cells := 0, slots := 0, locals := 23 } G) (K : ∀ L pc, decode cX12_set pc = .ok (.ireturn, 1) → G 0 0 (wR g r s9 X) L pc [.int v9]) {x1 : Int32} {x2 : Int32} {s0 : Int32} {σ : RS} (h : M_set_b49  x1 x2 s0 σ = some (v9, s9)) : G 0 0 (wR g r σ X) [(0, .ref (r 25)), (1, .int x1), (2, .int x2)] 49 [.int s0] := by
  unfold M_set_b49 at h
  refine g_istore_n hG dX12_set_49 (by decide) ?_
  refine g_iload_n hG dX12_set_50 rfl ?_
  rcases if_some h with ⟨c5, h⟩ | ⟨c5, h⟩
  · refine g_if_eq (tgt := 66) hG dX12_set_51 rfl (fun _ => ?_) (fun q => absurd c5 q)
    refine g_aload_n hG dX12_set_66 rfl ?_
    refine g_ldc hG dX12_set_67 k_X12_45 ?_
    obtain ⟨v6, σ7, q8, h⟩ := ob_some h
    refine g_cV hG dX12_set_69 (c_M_errs q8) b_X12_errs v_X12_46 rfl (k := 0) rfl rfl ⟨Nat.le_of_ble_eq_true rfl, Nat.le_of_ble_eq_true rfl⟩ ⟨rfl, rfl⟩ ⟨Nat.zero_le _, Nat.zero_le _⟩ _ rfl (Nat.le_of_ble_eq_true rfl) ?_
    cases h
    exact K _ _ dX12_set_72
  · refine g_if_eq (tgt := 66) hG dX12_set_51 rfl (fun q => absurd q c5) (fun _ => ?_)
    refine g_aload_n hG dX12_set_54 rfl ?_
    refine g_bipushv hG dX12_set_55 kb_7 ?_
    refine g_iload_n hG dX12_set_57 rfl ?_
    refine g_iadd hG dX12_set_58 ?_
    refine g_iload_n hG dX12_set_59 rfl ?_
    obtain ⟨v9, σ10, q11, h⟩ := ob_some h
    refine g_cV hG dX12_set_60 (c_M_becomes q11) b_X12_becomes v_X12_69 rfl (k := 0) rfl rfl ⟨Nat.le_of_ble_eq_true rfl, Nat.le_of_ble_eq_true rfl⟩ ⟨rfl, rfl⟩ ⟨Nat.zero_le _, Nat.zero_le _⟩ _ rfl (Nat.le_of_ble_eq_true rfl) ?_
    refine g_goto (tgt := 72) hG dX12_set_63 rfl ?_
    cases h
    exact K _ _ dX12_set_72
def M_set (x1 : Int32) (x2 : Int32) (σ : RS) : Option (Int32 × RS) := (if x1 = 0 then (ob (M_in x2 (0 : Int32) (9 : Int32) σ) fun v2 σ3 => (M_set_b49  x1 x2 v2 σ3)) else (if x1 = (1 : Int32) then (ob (M_in x2 (0 : Int32) (99 : Int32) σ) fun v13 σ14 => (M_set_b49  x1 x2 v13 σ14)) else (if x1 = (2 : Int32) then (ob (M_in x2 (0 : Int32) (99999 : Int32) σ) fun v17 σ18 => (M_set_b49  x1 x2 (if v17 = 0 then (0 : Int32) else (1 : Int32)) σ18)) else (M_set_b49  x1 x2 (0 : Int32) σ))))
set_option maxRecDepth 100000 in
set_option maxHeartbeats 4000000 in
theorem c_M_set {g : GP} {l : Launch} {r : Nat → Nat} {X : va_W} {v9 : Int32} {s9 : RS} {x1 : Int32} {x2 : Int32} {σ : RS} (h : M_set x1 x2 σ = some (v9, s9)) : CI g l yX12_set cX12_set 4 (some .int) { frames := 1, cells := 0, slots := 0, locals := 23 } [.ref (r 25), .int x1, .int x2] (wR g r σ X) (fun r0 w => r0 = v9 ∧ w = wR g r s9 X) := by
  refine CI.mk (by decide) (Nat.le_of_ble_eq_true rfl) (fun G hG hret => ?_)
  have K : ∀ L pc, decode cX12_set pc = .ok (.ireturn, 1) → G 0 0 (wR g r s9 X) L pc [.int v9] := fun L pc d => hret _ L pc v9 d rfl ⟨rfl, rfl⟩
  unfold M_set at h
  refine g_iload_n hG dX12_set_0 rfl ?_
  rcases if_some h with ⟨c1, h⟩ | ⟨c1, h⟩
  · refine g_if_ne (tgt := 14) hG dX12_set_1 rfl (fun q => absurd c1 q) (fun _ => ?_)
    refine g_iload_n hG dX12_set_4 rfl ?_
    refine g_iconstv hG dX12_set_5 ki_0 ?_
    refine g_bipushv hG dX12_set_6 kb_9 ?_
    obtain ⟨v2, σ3, q4, h⟩ := ob_some h
    refine g_cS hG dX12_set_8 (c_M_in q4) b_X12_in v_X12_41 rfl ⟨Nat.le_of_ble_eq_true rfl, Nat.le_of_ble_eq_true rfl⟩ ⟨rfl, rfl⟩ ⟨Nat.zero_le _, Nat.zero_le _⟩ _ rfl (Nat.le_of_ble_eq_true rfl) ?_
    refine g_goto (tgt := 49) hG dX12_set_11 rfl ?_
    refine g_loc hG [(0, .ref (r 25)), (1, .int x1), (2, .int x2)] ⟨rfl, rfl, rfl, trivial⟩ ?_
    exact s_M_set_b49  hG K  h
  · refine g_if_ne (tgt := 14) hG dX12_set_1 rfl (fun _ => ?_) (fun q => absurd q c1)
    refine g_iload_n hG dX12_set_14 rfl ?_
    refine g_iconstv hG dX12_set_15 ki_1 ?_
    rcases if_some h with ⟨c12, h⟩ | ⟨c12, h⟩
    · refine g_icmp_ne (tgt := 29) hG dX12_set_16 rfl (fun q => absurd c12 q) (fun _ => ?_)
      refine g_iload_n hG dX12_set_19 rfl ?_
      refine g_iconstv hG dX12_set_20 ki_0 ?_
      refine g_bipushv hG dX12_set_21 kb_99 ?_
      obtain ⟨v13, σ14, q15, h⟩ := ob_some h
      refine g_cS hG dX12_set_23 (c_M_in q15) b_X12_in v_X12_41 rfl ⟨Nat.le_of_ble_eq_true rfl, Nat.le_of_ble_eq_true rfl⟩ ⟨rfl, rfl⟩ ⟨Nat.zero_le _, Nat.zero_le _⟩ _ rfl (Nat.le_of_ble_eq_true rfl) ?_
      refine g_goto (tgt := 49) hG dX12_set_26 rfl ?_
      refine g_loc hG [(0, .ref (r 25)), (1, .int x1), (2, .int x2)] ⟨rfl, rfl, rfl, trivial⟩ ?_
      exact s_M_set_b49  hG K  h
    · refine g_icmp_ne (tgt := 29) hG dX12_set_16 rfl (fun _ => ?_) (fun q => absurd q c12)
      refine g_iload_n hG dX12_set_29 rfl ?_
      refine g_iconstv hG dX12_set_30 ki_2 ?_
      rcases if_some h with ⟨c16, h⟩ | ⟨c16, h⟩
      · refine g_icmp_ne (tgt := 48) hG dX12_set_31 rfl (fun q => absurd c16 q) (fun _ => ?_)
        refine g_iload_n hG dX12_set_34 rfl ?_
        refine g_iconstv hG dX12_set_35 ki_0 ?_
        refine g_ldc hG dX12_set_36 k_X12_72 ?_
        obtain ⟨v17, σ18, q19, h⟩ := ob_some h
        refine g_cS hG dX12_set_38 (c_M_in q19) b_X12_in v_X12_41 rfl ⟨Nat.le_of_ble_eq_true rfl, Nat.le_of_ble_eq_true rfl⟩ ⟨rfl, rfl⟩ ⟨Nat.zero_le _, Nat.zero_le _⟩ _ rfl (Nat.le_of_ble_eq_true rfl) ?_
        refine g_dia1 (if v17 = 0 then (0 : Int32) else (1 : Int32)) 49 (fun J20 => ?_) ?_
        · by_cases c21 : v17 = 0
          · refine g_if_eq (tgt := 48) hG dX12_set_41 rfl (fun _ => ?_) (fun q => absurd c21 q)
            refine g_iconstv hG dX12_set_48 ki_0 ?_
            rw [if_pos c21] at J20
            exact J20
          · refine g_if_eq (tgt := 48) hG dX12_set_41 rfl (fun q => absurd q c21) (fun _ => ?_)
            refine g_iconstv hG dX12_set_44 ki_1 ?_
            refine g_goto (tgt := 49) hG dX12_set_45 rfl ?_
            rw [if_neg c21] at J20
            exact J20
        refine g_loc hG [(0, .ref (r 25)), (1, .int x1), (2, .int x2)] ⟨rfl, rfl, rfl, trivial⟩ ?_
        exact s_M_set_b49  hG K  h
      · refine g_icmp_ne (tgt := 48) hG dX12_set_31 rfl (fun _ => ?_) (fun q => absurd q c16)
        refine g_iconstv hG dX12_set_48 ki_0 ?_
        refine g_loc hG [(0, .ref (r 25)), (1, .int x1), (2, .int x2)] ⟨rfl, rfl, rfl, trivial⟩ ?_
        exact s_M_set_b49  hG K  h
def M_become (x1 : Int32) (x2 : Int32) (σ : RS) : Option (Int32 × RS) := (ob (M_isYard x1 σ) fun v1 σ2 => (if v1 = 0 then (ob (M_errs (-1000000001 : Int32) σ2) fun v5 σ6 => (some (v5, σ6))) else (ob (M_in x2 (0 : Int32) (69 : Int32) σ2) fun v8 σ9 => (if v8 = 0 then (ob (M_errs (-1000000001 : Int32) σ9) fun v12 σ13 => (some (v12, σ13))) else (ob (M_gets x1 (1 : Int32) (irm x2 (10 : Int32)) σ9) fun v15 σ16 => (ob (M_becomes ((10 : Int32) + ((5 : Int32) * x1)) (x2 / (10 : Int32)) σ16) fun v18 σ19 => (some (v18, σ19))))))))
set_option maxRecDepth 100000 in
set_option maxHeartbeats 4000000 in
theorem c_M_become {g : GP} {l : Launch} {r : Nat → Nat} {X : va_W} {v9 : Int32} {s9 : RS} {x1 : Int32} {x2 : Int32} {σ : RS} (h : M_become x1 x2 σ = some (v9, s9)) : CI g l yX12_become cX12_become 3 (some .int) { frames := 2, cells := 0, slots := 0, locals := 43 } [.ref (r 25), .int x1, .int x2] (wR g r σ X) (fun r0 w => r0 = v9 ∧ w = wR g r s9 X) := by
  refine CI.mk (by decide) (Nat.le_of_ble_eq_true rfl) (fun G hG hret => ?_)
  have K : ∀ L pc, decode cX12_become pc = .ok (.ireturn, 1) → G 0 0 (wR g r s9 X) L pc [.int v9] := fun L pc d => hret _ L pc v9 d rfl ⟨rfl, rfl⟩
  unfold M_become at h
  refine g_aload_n hG dX12_become_0 rfl ?_
  refine g_iload_n hG dX12_become_1 rfl ?_
  obtain ⟨v1, σ2, q3, h⟩ := ob_some h
  refine g_cV hG dX12_become_2 (c_M_isYard q3) b_X12_isYard v_X12_55 rfl (k := 0) rfl rfl ⟨Nat.le_of_ble_eq_true rfl, Nat.le_of_ble_eq_true rfl⟩ ⟨rfl, rfl⟩ ⟨Nat.zero_le _, Nat.zero_le _⟩ _ rfl (Nat.le_of_ble_eq_true rfl) ?_
  rcases if_some h with ⟨c4, h⟩ | ⟨c4, h⟩
  · refine g_if_eq (tgt := 18) hG dX12_become_5 rfl (fun _ => ?_) (fun q => absurd c4 q)
    refine g_aload_n hG dX12_become_18 rfl ?_
    refine g_ldc hG dX12_become_19 k_X12_45 ?_
    obtain ⟨v5, σ6, q7, h⟩ := ob_some h
    refine g_cV hG dX12_become_21 (c_M_errs q7) b_X12_errs v_X12_46 rfl (k := 0) rfl rfl ⟨Nat.le_of_ble_eq_true rfl, Nat.le_of_ble_eq_true rfl⟩ ⟨rfl, rfl⟩ ⟨Nat.zero_le _, Nat.zero_le _⟩ _ rfl (Nat.le_of_ble_eq_true rfl) ?_
    cases h
    exact K _ _ dX12_become_24
  · refine g_if_eq (tgt := 18) hG dX12_become_5 rfl (fun q => absurd q c4) (fun _ => ?_)
    refine g_iload_n hG dX12_become_8 rfl ?_
    refine g_iconstv hG dX12_become_9 ki_0 ?_
    refine g_bipushv hG dX12_become_10 kb_69 ?_
    obtain ⟨v8, σ9, q10, h⟩ := ob_some h
    refine g_cS hG dX12_become_12 (c_M_in q10) b_X12_in v_X12_41 rfl ⟨Nat.le_of_ble_eq_true rfl, Nat.le_of_ble_eq_true rfl⟩ ⟨rfl, rfl⟩ ⟨Nat.zero_le _, Nat.zero_le _⟩ _ rfl (Nat.le_of_ble_eq_true rfl) ?_
    rcases if_some h with ⟨c11, h⟩ | ⟨c11, h⟩
    · refine g_if_ne (tgt := 25) hG dX12_become_15 rfl (fun q => absurd c11 q) (fun _ => ?_)
      refine g_aload_n hG dX12_become_18 rfl ?_
      refine g_ldc hG dX12_become_19 k_X12_45 ?_
      obtain ⟨v12, σ13, q14, h⟩ := ob_some h
      refine g_cV hG dX12_become_21 (c_M_errs q14) b_X12_errs v_X12_46 rfl (k := 0) rfl rfl ⟨Nat.le_of_ble_eq_true rfl, Nat.le_of_ble_eq_true rfl⟩ ⟨rfl, rfl⟩ ⟨Nat.zero_le _, Nat.zero_le _⟩ _ rfl (Nat.le_of_ble_eq_true rfl) ?_
      cases h
      exact K _ _ dX12_become_24
    · refine g_if_ne (tgt := 25) hG dX12_become_15 rfl (fun _ => ?_) (fun q => absurd q c11)
      refine g_aload_n hG dX12_become_25 rfl ?_
      refine g_iload_n hG dX12_become_26 rfl ?_
      refine g_iconstv hG dX12_become_27 ki_1 ?_
      refine g_iload_n hG dX12_become_28 rfl ?_
      refine g_bipushv hG dX12_become_29 kb_10 ?_
      refine g_irm hG dX12_become_31 (by decide) ?_
      obtain ⟨v15, σ16, q17, h⟩ := ob_some h
      refine g_cVv hG dX12_become_32 (c_M_gets q17) b_X12_gets v_X12_51 rfl (k := 0) rfl rfl ⟨Nat.le_of_ble_eq_true rfl, Nat.le_of_ble_eq_true rfl⟩ ⟨rfl, rfl⟩ ⟨Nat.zero_le _, Nat.zero_le _⟩ _ rfl (Nat.le_of_ble_eq_true rfl) ?_
      refine g_aload_n hG dX12_become_35 rfl ?_
      refine g_bipushv hG dX12_become_36 kb_10 ?_
      refine g_iconstv hG dX12_become_38 ki_5 ?_
      refine g_iload_n hG dX12_become_39 rfl ?_
      refine g_imul hG dX12_become_40 ?_
      refine g_iadd hG dX12_become_41 ?_
      refine g_iload_n hG dX12_become_42 rfl ?_
      refine g_bipushv hG dX12_become_43 kb_10 ?_
      refine g_idiv hG dX12_become_45 (by decide) ?_
      obtain ⟨v18, σ19, q20, h⟩ := ob_some h
      refine g_cV hG dX12_become_46 (c_M_becomes q20) b_X12_becomes v_X12_69 rfl (k := 0) rfl rfl ⟨Nat.le_of_ble_eq_true rfl, Nat.le_of_ble_eq_true rfl⟩ ⟨rfl, rfl⟩ ⟨Nat.zero_le _, Nat.zero_le _⟩ _ rfl (Nat.le_of_ble_eq_true rfl) ?_
      cases h
      exact K _ _ dX12_become_49
def M_above (x0 : Int32) (σ : RS) : Option (Int32 × RS) := (some ((if x0 = 0 then (-1 : Int32) else (if x0 ≤ (3 : Int32) then (0 : Int32) else (x0 - (3 : Int32)))), σ))
set_option maxRecDepth 100000 in
set_option maxHeartbeats 4000000 in
theorem c_M_above {g : GP} {l : Launch} {r : Nat → Nat} {X : va_W} {v9 : Int32} {s9 : RS} {x0 : Int32} {σ : RS} (h : M_above x0 σ = some (v9, s9)) : CI g l yX12_above cX12_above 1 (some .int) { frames := 0, cells := 0, slots := 0, locals := 0 } [.int x0] (wR g r σ X) (fun r0 w => r0 = v9 ∧ w = wR g r s9 X) := by
  refine CI.mk (by decide) (Nat.le_of_ble_eq_true rfl) (fun G hG hret => ?_)
  have K : ∀ L pc, decode cX12_above pc = .ok (.ireturn, 1) → G 0 0 (wR g r s9 X) L pc [.int v9] := fun L pc d => hret _ L pc v9 d rfl ⟨rfl, rfl⟩
  unfold M_above at h
  refine g_iload_n hG dX12_above_0 rfl ?_
  refine g_dia1 (if x0 = 0 then (-1 : Int32) else (if x0 ≤ (3 : Int32) then (0 : Int32) else (x0 - (3 : Int32)))) 20 (fun J1 => ?_) ?_
  · by_cases c2 : x0 = 0
    · refine g_if_ne (tgt := 8) hG dX12_above_1 rfl (fun q => absurd c2 q) (fun _ => ?_)
      refine g_iconstv hG dX12_above_4 ki_m1 ?_
      refine g_goto (tgt := 20) hG dX12_above_5 rfl ?_
      rw [if_pos c2] at J1
      exact J1
    · refine g_if_ne (tgt := 8) hG dX12_above_1 rfl (fun _ => ?_) (fun q => absurd q c2)
      refine g_iload_n hG dX12_above_8 rfl ?_
      refine g_iconstv hG dX12_above_9 ki_3 ?_
      by_cases c3 : x0 ≤ (3 : Int32)
      · refine g_icmp_le (tgt := 19) hG dX12_above_10 rfl (fun _ => ?_) (fun q => absurd c3 q)
        refine g_iconstv hG dX12_above_19 ki_0 ?_
        rw [if_neg c2, if_pos c3] at J1
        exact J1
      · refine g_icmp_le (tgt := 19) hG dX12_above_10 rfl (fun q => absurd q c3) (fun _ => ?_)
        refine g_iload_n hG dX12_above_13 rfl ?_
        refine g_iconstv hG dX12_above_14 ki_3 ?_
        refine g_isub hG dX12_above_15 ?_
        refine g_goto (tgt := 20) hG dX12_above_16 rfl ?_
        rw [if_neg c2, if_neg c3] at J1
        exact J1
  cases h
  exact K _ _ dX12_above_20
def M_as_b49 (x1 : Int32) (x3 : Int32) (σ : RS) : Option (Int32 × RS) := (if 0 ≤ x3 then (ob (M_its x1 (1 : Int32) σ) fun v20 σ21 => (some (v20, σ21))) else (ob (M_errs (-1000000005 : Int32) σ) fun v23 σ24 => (some (v23, σ24))))
set_option maxRecDepth 100000 in
set_option maxHeartbeats 4000000 in
theorem s_M_as_b49 {g : GP} {l : Launch} {r : Nat → Nat} {X : va_W} {G : GT} {v9 : Int32} {s9 : RS} (hG : IsG g l yX12_as cX12_as 4 { frames := 2, cells := 0, slots := 0, locals := 43 } G) (K : ∀ L pc, decode cX12_as pc = .ok (.ireturn, 1) → G 0 0 (wR g r s9 X) L pc [.int v9]) {x1 : Int32} {x3 : Int32} {σ : RS} (h : M_as_b49  x1 x3 σ = some (v9, s9)) : G 0 0 (wR g r σ X) [(0, .ref (r 25)), (1, .int x1), (3, .int x3)] 49 [] := by
  unfold M_as_b49 at h
  refine g_iload_n hG dX12_as_49 rfl ?_
  rcases if_some h with ⟨c19, h⟩ | ⟨c19, h⟩
  · refine g_if_ge (tgt := 62) hG dX12_as_50 rfl (fun _ => ?_) (fun q => absurd c19 q)
    refine g_aload_n hG dX12_as_62 rfl ?_
    refine g_iload_n hG dX12_as_63 rfl ?_
    refine g_iconstv hG dX12_as_64 ki_1 ?_
    obtain ⟨v20, σ21, q22, h⟩ := ob_some h
    refine g_cV hG dX12_as_65 (c_M_its q22) b_X12_its v_X12_59 rfl (k := 0) rfl rfl ⟨Nat.le_of_ble_eq_true rfl, Nat.le_of_ble_eq_true rfl⟩ ⟨rfl, rfl⟩ ⟨Nat.zero_le _, Nat.zero_le _⟩ _ rfl (Nat.le_of_ble_eq_true rfl) ?_
    cases h
    exact K _ _ dX12_as_68
  · refine g_if_ge (tgt := 62) hG dX12_as_50 rfl (fun q => absurd q c19) (fun _ => ?_)
    refine g_aload_n hG dX12_as_53 rfl ?_
    refine g_ldc hG dX12_as_54 k_X12_76 ?_
    obtain ⟨v23, σ24, q25, h⟩ := ob_some h
    refine g_cV hG dX12_as_56 (c_M_errs q25) b_X12_errs v_X12_46 rfl (k := 0) rfl rfl ⟨Nat.le_of_ble_eq_true rfl, Nat.le_of_ble_eq_true rfl⟩ ⟨rfl, rfl⟩ ⟨Nat.zero_le _, Nat.zero_le _⟩ _ rfl (Nat.le_of_ble_eq_true rfl) ?_
    refine g_goto (tgt := 68) hG dX12_as_59 rfl ?_
    cases h
    exact K _ _ dX12_as_68
def M_as_b32 : Nat → Int32 → Int32 → Int32 → RS → Option (Int32 × RS)
  | 0, _, _, _, _ => none
  | n + 1, x1, x2, x3, σ => (if x3 < 0 then (M_as_b49  x1 x3 σ) else (if x3 = x2 then (M_as_b49  x1 x3 σ) else (ob (M_above x3 σ) fun v27 σ28 => ((M_as_b32  n) x1 x2 v27 σ28))))
set_option maxRecDepth 100000 in
set_option maxHeartbeats 4000000 in
theorem s_M_as_b32 {g : GP} {l : Launch} {r : Nat → Nat} {X : va_W} {G : GT} {v9 : Int32} {s9 : RS} (hG : IsG g l yX12_as cX12_as 4 { frames := 2, cells := 0, slots := 0, locals := 43 } G) (K : ∀ L pc, decode cX12_as pc = .ok (.ireturn, 1) → G 0 0 (wR g r s9 X) L pc [.int v9]) : ∀ (n : Nat) (x1 : Int32) (x2 : Int32) (x3 : Int32) (σ : RS) (h : M_as_b32  n x1 x2 x3 σ = some (v9, s9)), G 0 0 (wR g r σ X) [(0, .ref (r 25)), (1, .int x1), (2, .int x2), (3, .int x3)] 32 [] := by
  intro n
  induction n with
  | zero => intro _ _ _ σ h; cases h
  | succ n ih =>
    intro x1 x2 x3 σ h
    unfold M_as_b32 at h
    refine g_iload_n hG dX12_as_32 rfl ?_
    rcases if_some h with ⟨c18, h⟩ | ⟨c18, h⟩
    · refine g_if_lt (tgt := 49) hG dX12_as_33 rfl (fun _ => ?_) (fun q => absurd c18 q)
      refine g_loc hG [(0, .ref (r 25)), (1, .int x1), (3, .int x3)] ⟨rfl, rfl, rfl, trivial⟩ ?_
      exact s_M_as_b49  hG K  h
    · refine g_if_lt (tgt := 49) hG dX12_as_33 rfl (fun q => absurd q c18) (fun _ => ?_)
      refine g_iload_n hG dX12_as_36 rfl ?_
      refine g_iload_n hG dX12_as_37 rfl ?_
      rcases if_some h with ⟨c26, h⟩ | ⟨c26, h⟩
      · refine g_icmp_eq (tgt := 49) hG dX12_as_38 rfl (fun _ => ?_) (fun q => absurd c26 q)
        refine g_loc hG [(0, .ref (r 25)), (1, .int x1), (3, .int x3)] ⟨rfl, rfl, rfl, trivial⟩ ?_
        exact s_M_as_b49  hG K  h
      · refine g_icmp_eq (tgt := 49) hG dX12_as_38 rfl (fun q => absurd q c26) (fun _ => ?_)
        refine g_iload_n hG dX12_as_41 rfl ?_
        obtain ⟨v27, σ28, q29, h⟩ := ob_some h
        refine g_cS hG dX12_as_42 (c_M_above q29) b_X12_above v_X12_73 rfl ⟨Nat.le_of_ble_eq_true rfl, Nat.le_of_ble_eq_true rfl⟩ ⟨rfl, rfl⟩ ⟨Nat.zero_le _, Nat.zero_le _⟩ _ rfl (Nat.le_of_ble_eq_true rfl) ?_
        refine g_istore_n hG dX12_as_45 (by decide) ?_
        refine g_goto (tgt := 32) hG dX12_as_46 rfl ?_
        refine g_loc hG [(0, .ref (r 25)), (1, .int x1), (2, .int x2), (3, .int v27)] ⟨rfl, rfl, rfl, rfl, trivial⟩ ?_
        exact ih _ _ _ _ h
def M_as (x1 : Int32) (x2 : Int32) (σ : RS) : Option (Int32 × RS) := (ob (M_isYard x1 σ) fun v1 σ2 => (if v1 = 0 then (ob (M_errs (-1000000001 : Int32) σ2) fun v5 σ6 => (some (v5, σ6))) else (ob (M_in x2 (0 : Int32) (6 : Int32) σ2) fun v8 σ9 => (if v8 = 0 then (ob (M_errs (-1000000001 : Int32) σ9) fun v12 σ13 => (some (v12, σ13))) else (ob (M_its x1 (0 : Int32) σ9) fun v15 σ16 => (M_as_b32  FU x1 x2 v15 σ16))))))
set_option maxRecDepth 100000 in
set_option maxHeartbeats 4000000 in
theorem c_M_as {g : GP} {l : Launch} {r : Nat → Nat} {X : va_W} {v9 : Int32} {s9 : RS} {x1 : Int32} {x2 : Int32} {σ : RS} (h : M_as x1 x2 σ = some (v9, s9)) : CI g l yX12_as cX12_as 4 (some .int) { frames := 2, cells := 0, slots := 0, locals := 43 } [.ref (r 25), .int x1, .int x2] (wR g r σ X) (fun r0 w => r0 = v9 ∧ w = wR g r s9 X) := by
  refine CI.mk (by decide) (Nat.le_of_ble_eq_true rfl) (fun G hG hret => ?_)
  have K : ∀ L pc, decode cX12_as pc = .ok (.ireturn, 1) → G 0 0 (wR g r s9 X) L pc [.int v9] := fun L pc d => hret _ L pc v9 d rfl ⟨rfl, rfl⟩
  unfold M_as at h
  refine g_aload_n hG dX12_as_0 rfl ?_
  refine g_iload_n hG dX12_as_1 rfl ?_
  obtain ⟨v1, σ2, q3, h⟩ := ob_some h
  refine g_cV hG dX12_as_2 (c_M_isYard q3) b_X12_isYard v_X12_55 rfl (k := 0) rfl rfl ⟨Nat.le_of_ble_eq_true rfl, Nat.le_of_ble_eq_true rfl⟩ ⟨rfl, rfl⟩ ⟨Nat.zero_le _, Nat.zero_le _⟩ _ rfl (Nat.le_of_ble_eq_true rfl) ?_
  rcases if_some h with ⟨c4, h⟩ | ⟨c4, h⟩
  · refine g_if_eq (tgt := 18) hG dX12_as_5 rfl (fun _ => ?_) (fun q => absurd c4 q)
    refine g_aload_n hG dX12_as_18 rfl ?_
    refine g_ldc hG dX12_as_19 k_X12_45 ?_
    obtain ⟨v5, σ6, q7, h⟩ := ob_some h
    refine g_cV hG dX12_as_21 (c_M_errs q7) b_X12_errs v_X12_46 rfl (k := 0) rfl rfl ⟨Nat.le_of_ble_eq_true rfl, Nat.le_of_ble_eq_true rfl⟩ ⟨rfl, rfl⟩ ⟨Nat.zero_le _, Nat.zero_le _⟩ _ rfl (Nat.le_of_ble_eq_true rfl) ?_
    cases h
    exact K _ _ dX12_as_24
  · refine g_if_eq (tgt := 18) hG dX12_as_5 rfl (fun q => absurd q c4) (fun _ => ?_)
    refine g_iload_n hG dX12_as_8 rfl ?_
    refine g_iconstv hG dX12_as_9 ki_0 ?_
    refine g_bipushv hG dX12_as_10 kb_6 ?_
    obtain ⟨v8, σ9, q10, h⟩ := ob_some h
    refine g_cS hG dX12_as_12 (c_M_in q10) b_X12_in v_X12_41 rfl ⟨Nat.le_of_ble_eq_true rfl, Nat.le_of_ble_eq_true rfl⟩ ⟨rfl, rfl⟩ ⟨Nat.zero_le _, Nat.zero_le _⟩ _ rfl (Nat.le_of_ble_eq_true rfl) ?_
    rcases if_some h with ⟨c11, h⟩ | ⟨c11, h⟩
    · refine g_if_ne (tgt := 25) hG dX12_as_15 rfl (fun q => absurd c11 q) (fun _ => ?_)
      refine g_aload_n hG dX12_as_18 rfl ?_
      refine g_ldc hG dX12_as_19 k_X12_45 ?_
      obtain ⟨v12, σ13, q14, h⟩ := ob_some h
      refine g_cV hG dX12_as_21 (c_M_errs q14) b_X12_errs v_X12_46 rfl (k := 0) rfl rfl ⟨Nat.le_of_ble_eq_true rfl, Nat.le_of_ble_eq_true rfl⟩ ⟨rfl, rfl⟩ ⟨Nat.zero_le _, Nat.zero_le _⟩ _ rfl (Nat.le_of_ble_eq_true rfl) ?_
      cases h
      exact K _ _ dX12_as_24
    · refine g_if_ne (tgt := 25) hG dX12_as_15 rfl (fun _ => ?_) (fun q => absurd q c11)
      refine g_aload_n hG dX12_as_25 rfl ?_
      refine g_iload_n hG dX12_as_26 rfl ?_
      refine g_iconstv hG dX12_as_27 ki_0 ?_
      obtain ⟨v15, σ16, q17, h⟩ := ob_some h
      refine g_cV hG dX12_as_28 (c_M_its q17) b_X12_its v_X12_59 rfl (k := 0) rfl rfl ⟨Nat.le_of_ble_eq_true rfl, Nat.le_of_ble_eq_true rfl⟩ ⟨rfl, rfl⟩ ⟨Nat.zero_le _, Nat.zero_le _⟩ _ rfl (Nat.le_of_ble_eq_true rfl) ?_
      refine g_istore_n hG dX12_as_31 (by decide) ?_
      refine g_loc hG [(0, .ref (r 25)), (1, .int x1), (2, .int x2), (3, .int v15)] ⟨rfl, rfl, rfl, rfl, trivial⟩ ?_
      exact s_M_as_b32  hG K FU _ _ _ _ h
