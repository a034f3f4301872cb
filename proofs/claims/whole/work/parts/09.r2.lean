def M_byteAt (x1 : Int32) (σ : RS) : Option (Int32 × RS) := (if (σ.1 9) ≤ x1 then (some ((-1 : Int32), σ)) else (gd (inb (((140 : Int32) + ((50 : Int32) * (σ.1 7))) + x1) 240) (some ((σ.2 0 (ix (((140 : Int32) + ((50 : Int32) * (σ.1 7))) + x1))), σ))))
set_option maxRecDepth 100000 in
set_option maxHeartbeats 4000000 in
theorem c_M_byteAt {g : GP} {l : Launch} {r : Nat → Nat} {X : va_W} {v9 : Int32} {s9 : RS} {x1 : Int32} {σ : RS} (h : M_byteAt x1 σ = some (v9, s9)) : CI g l yX12_byteAt cX12_byteAt 2 (some .int) { frames := 0, cells := 0, slots := 0, locals := 0 } [.ref (r 25), .int x1] (wR g r σ X) (fun r0 w => r0 = v9 ∧ w = wR g r s9 X) := by
  refine CI.mk (by decide) (Nat.le_of_ble_eq_true rfl) (fun G hG hret => ?_)
  have K : ∀ L pc, decode cX12_byteAt pc = .ok (.ireturn, 1) → G 0 0 (wR g r s9 X) L pc [.int v9] := fun L pc d => hret _ L pc v9 d rfl ⟨rfl, rfl⟩
  unfold M_byteAt at h
  refine g_iload_n hG dX12_byteAt_0 rfl ?_
  refine g_aload_n hG dX12_byteAt_1 rfl ?_
  refine r_get 9 hG dX12_byteAt_2 f_X12_77 (by decide) rfl ?_
  rcases if_some h with ⟨c1, h⟩ | ⟨c1, h⟩
  · refine g_icmp_ge (tgt := 29) hG dX12_byteAt_5 rfl (fun _ => ?_) (fun q => absurd c1 q)
    refine g_iconstv hG dX12_byteAt_29 ki_m1 ?_
    cases h
    exact K _ _ dX12_byteAt_30
  · refine g_icmp_ge (tgt := 29) hG dX12_byteAt_5 rfl (fun q => absurd q c1) (fun _ => ?_)
    refine g_aload_n hG dX12_byteAt_8 rfl ?_
    refine r_get 0 hG dX12_byteAt_9 f_X12_7 (by decide) rfl ?_
    refine g_sipushv hG dX12_byteAt_12 ks_140 ?_
    refine g_bipushv hG dX12_byteAt_15 kb_50 ?_
    refine g_aload_n hG dX12_byteAt_17 rfl ?_
    refine r_get 7 hG dX12_byteAt_18 f_X12_81 (by decide) rfl ?_
    refine g_imul hG dX12_byteAt_21 ?_
    refine g_iadd hG dX12_byteAt_22 ?_
    refine g_iload_n hG dX12_byteAt_23 rfl ?_
    refine g_iadd hG dX12_byteAt_24 ?_
    obtain ⟨b2, h⟩ := gd_some h
    refine r_iald 1 0 240 hG dX12_byteAt_25 rfl b2 rfl ?_
    refine g_goto (tgt := 30) hG dX12_byteAt_26 rfl ?_
    cases h
    exact K _ _ dX12_byteAt_30
def M_isDigit (x0 : Int32) (σ : RS) : Option (Int32 × RS) := (ob (M_in x0 (48 : Int32) (57 : Int32) σ) fun v1 σ2 => (gd (isb v1) (some (v1, σ2))))
set_option maxRecDepth 100000 in
set_option maxHeartbeats 4000000 in
theorem c_M_isDigit {g : GP} {l : Launch} {r : Nat → Nat} {X : va_W} {v9 : Int32} {s9 : RS} {x0 : Int32} {σ : RS} (h : M_isDigit x0 σ = some (v9, s9)) : CI g l yX12_isDigit cX12_isDigit 1 (some .boolean) { frames := 1, cells := 0, slots := 0, locals := 22 } [.int x0] (wR g r σ X) (fun r0 w => r0 = v9 ∧ w = wR g r s9 X) := by
  refine CI.mk (by decide) (Nat.le_of_ble_eq_true rfl) (fun G hG hret => ?_)
  have K : ∀ L pc, decode cX12_isDigit pc = .ok (.ireturn, 1) → isb v9 = true → G 0 0 (wR g r s9 X) L pc [.int v9] := fun L pc d hz => hret _ L pc v9 d (isb_n hz) ⟨rfl, rfl⟩
  unfold M_isDigit at h
  refine g_iload_n hG dX12_isDigit_0 rfl ?_
  refine g_bipushv hG dX12_isDigit_1 kb_48 ?_
  refine g_bipushv hG dX12_isDigit_3 kb_57 ?_
  obtain ⟨v1, σ2, q3, h⟩ := ob_some h
  refine g_cS hG dX12_isDigit_5 (c_M_in q3) b_X12_in v_X12_41 rfl ⟨Nat.le_of_ble_eq_true rfl, Nat.le_of_ble_eq_true rfl⟩ ⟨rfl, rfl⟩ ⟨Nat.zero_le _, Nat.zero_le _⟩ _ rfl (Nat.le_of_ble_eq_true rfl) ?_
  obtain ⟨b4, h⟩ := gd_some h
  cases h
  exact K _ _ dX12_isDigit_8 b4
def M_fails  (σ : RS) : Option (Int32 × RS) := (lt (ri σ 14 (0 : Int32)) fun σ1 => (some ((0 : Int32), σ1)))
set_option maxRecDepth 100000 in
set_option maxHeartbeats 4000000 in
theorem c_M_fails {g : GP} {l : Launch} {r : Nat → Nat} {X : va_W} {v9 : Int32} {s9 : RS} {σ : RS} (h : M_fails  σ = some (v9, s9)) : CI g l yX12_fails cX12_fails 1 (some .int) { frames := 0, cells := 0, slots := 0, locals := 0 } [.ref (r 25)] (wR g r σ X) (fun r0 w => r0 = v9 ∧ w = wR g r s9 X) := by
  refine CI.mk (by decide) (Nat.le_of_ble_eq_true rfl) (fun G hG hret => ?_)
  have K : ∀ L pc, decode cX12_fails pc = .ok (.ireturn, 1) → G 0 0 (wR g r s9 X) L pc [.int v9] := fun L pc d => hret _ L pc v9 d rfl ⟨rfl, rfl⟩
  unfold M_fails at h
  refine g_aload_n hG dX12_fails_0 rfl ?_
  refine g_iconstv hG dX12_fails_1 ki_0 ?_
  obtain ⟨σ1, e2, h⟩ := lt_ex h
  refine r_put 14 hG e2 dX12_fails_2 f_X12_84 (by decide) rfl (isb_n (by decide)) (isb_f (by decide)) rfl ?_
  refine g_iconstv hG dX12_fails_5 ki_0 ?_
  cases h
  exact K _ _ dX12_fails_6
def M_number_b4 : Nat → Int32 → Int32 → RS → Option (Int32 × RS)
  | 0, _, _, _ => none
  | n + 1, x1, x2, σ => (if (4 : Int32) ≤ x2 then (some (x1, σ)) else (ob (M_byteAt (σ.1 8) σ) fun v2 σ3 => (ob (M_isDigit v2 σ3) fun v5 σ6 => (if v5 = 0 then (some (x1, σ6)) else (ob (M_byteAt (σ6.1 8) σ6) fun v9 σ10 => (lt ((((10 : Int32) * x1) + v9) - (48 : Int32)) fun v12 => (lt (ri σ10 8 ((σ10.1 8) + (1 : Int32))) fun σ14 => ((M_number_b4  n) v12 (x2 + (1 : Int32)) σ14))))))))
set_option maxRecDepth 100000 in
set_option maxHeartbeats 4000000 in
theorem s_M_number_b4 {g : GP} {l : Launch} {r : Nat → Nat} {X : va_W} {G : GT} {v9 : Int32} {s9 : RS} (hG : IsG g l yX12_number cX12_number 3 { frames := 2, cells := 0, slots := 0, locals := 42 } G) (K : ∀ L pc, decode cX12_number pc = .ok (.ireturn, 1) → G 0 0 (wR g r s9 X) L pc [.int v9]) : ∀ (n : Nat) (x1 : Int32) (x2 : Int32) (σ : RS) (h : M_number_b4  n x1 x2 σ = some (v9, s9)), G 0 0 (wR g r σ X) [(0, .ref (r 25)), (1, .int x1), (2, .int x2)] 4 [] := by
  intro n
  induction n with
  | zero => intro _ _ σ h; cases h
  | succ n ih =>
    intro x1 x2 σ h
    unfold M_number_b4 at h
    refine g_iload_n hG dX12_number_4 rfl ?_
    refine g_iconstv hG dX12_number_5 ki_4 ?_
    rcases if_some h with ⟨c1, h⟩ | ⟨c1, h⟩
    · refine g_icmp_ge (tgt := 56) hG dX12_number_6 rfl (fun _ => ?_) (fun q => absurd c1 q)
      refine g_iload_n hG dX12_number_56 rfl ?_
      cases h
      exact K _ _ dX12_number_57
    · refine g_icmp_ge (tgt := 56) hG dX12_number_6 rfl (fun q => absurd q c1) (fun _ => ?_)
      refine g_aload_n hG dX12_number_9 rfl ?_
      refine g_aload_n hG dX12_number_10 rfl ?_
      refine r_get 8 hG dX12_number_11 f_X12_88 (by decide) rfl ?_
      obtain ⟨v2, σ3, q4, h⟩ := ob_some h
      refine g_cV hG dX12_number_14 (c_M_byteAt q4) b_X12_byteAt v_X12_91 rfl (k := 0) rfl rfl ⟨Nat.le_of_ble_eq_true rfl, Nat.le_of_ble_eq_true rfl⟩ ⟨rfl, rfl⟩ ⟨Nat.zero_le _, Nat.zero_le _⟩ _ rfl (Nat.le_of_ble_eq_true rfl) ?_
      obtain ⟨v5, σ6, q7, h⟩ := ob_some h
      refine g_cS hG dX12_number_17 (c_M_isDigit q7) b_X12_isDigit v_X12_94 rfl ⟨Nat.le_of_ble_eq_true rfl, Nat.le_of_ble_eq_true rfl⟩ ⟨rfl, rfl⟩ ⟨Nat.zero_le _, Nat.zero_le _⟩ _ rfl (Nat.le_of_ble_eq_true rfl) ?_
      rcases if_some h with ⟨c8, h⟩ | ⟨c8, h⟩
      · refine g_if_eq (tgt := 56) hG dX12_number_20 rfl (fun _ => ?_) (fun q => absurd c8 q)
        refine g_iload_n hG dX12_number_56 rfl ?_
        cases h
        exact K _ _ dX12_number_57
      · refine g_if_eq (tgt := 56) hG dX12_number_20 rfl (fun q => absurd q c8) (fun _ => ?_)
        refine g_bipushv hG dX12_number_23 kb_10 ?_
        refine g_iload_n hG dX12_number_25 rfl ?_
        refine g_imul hG dX12_number_26 ?_
        refine g_aload_n hG dX12_number_27 rfl ?_
        refine g_aload_n hG dX12_number_28 rfl ?_
        refine r_get 8 hG dX12_number_29 f_X12_88 (by decide) rfl ?_
        obtain ⟨v9, σ10, q11, h⟩ := ob_some h
        refine g_cV hG dX12_number_32 (c_M_byteAt q11) b_X12_byteAt v_X12_91 rfl (k := 0) rfl rfl ⟨Nat.le_of_ble_eq_true rfl, Nat.le_of_ble_eq_true rfl⟩ ⟨rfl, rfl⟩ ⟨Nat.zero_le _, Nat.zero_le _⟩ _ rfl (Nat.le_of_ble_eq_true rfl) ?_
        refine g_iadd hG dX12_number_35 ?_
        refine g_bipushv hG dX12_number_36 kb_48 ?_
        refine g_isub hG dX12_number_38 ?_
        obtain ⟨v12, e13, h⟩ := lt_ex h
        refine g_nam e13 ?_
        refine g_istore_n hG dX12_number_39 (by decide) ?_
        refine g_aload_n hG dX12_number_40 rfl ?_
        refine g_dup hG dX12_number_41 rfl ?_
        refine r_get 8 hG dX12_number_42 f_X12_88 (by decide) rfl ?_
        refine g_iconstv hG dX12_number_45 ki_1 ?_
        refine g_iadd hG dX12_number_46 ?_
        obtain ⟨σ14, e15, h⟩ := lt_ex h
        refine r_put 8 hG e15 dX12_number_47 f_X12_88 (by decide) rfl rfl rfl rfl ?_
        refine g_iincv (c := (1 : Int32)) hG dX12_number_50 rfl (by decide) (by decide) ?_
        refine g_goto (tgt := 4) hG dX12_number_53 rfl ?_
        refine g_loc hG [(0, .ref (r 25)), (1, .int v12), (2, .int (x2 + (1 : Int32)))] ⟨rfl, rfl, rfl, trivial⟩ ?_
        exact ih _ _ _ h
def M_number  (σ : RS) : Option (Int32 × RS) := (M_number_b4  FU (0 : Int32) (0 : Int32) σ)
set_option maxRecDepth 100000 in
set_option maxHeartbeats 4000000 in
theorem c_M_number {g : GP} {l : Launch} {r : Nat → Nat} {X : va_W} {v9 : Int32} {s9 : RS} {σ : RS} (h : M_number  σ = some (v9, s9)) : CI g l yX12_number cX12_number 3 (some .int) { frames := 2, cells := 0, slots := 0, locals := 42 } [.ref (r 25)] (wR g r σ X) (fun r0 w => r0 = v9 ∧ w = wR g r s9 X) := by
  refine CI.mk (by decide) (Nat.le_of_ble_eq_true rfl) (fun G hG hret => ?_)
  have K : ∀ L pc, decode cX12_number pc = .ok (.ireturn, 1) → G 0 0 (wR g r s9 X) L pc [.int v9] := fun L pc d => hret _ L pc v9 d rfl ⟨rfl, rfl⟩
  unfold M_number at h
  refine g_iconstv hG dX12_number_0 ki_0 ?_
  refine g_istore_n hG dX12_number_1 (by decide) ?_
  refine g_iconstv hG dX12_number_2 ki_0 ?_
  refine g_istore_n hG dX12_number_3 (by decide) ?_
  refine g_loc hG [(0, .ref (r 25)), (1, .int (0 : Int32)), (2, .int (0 : Int32))] ⟨rfl, rfl, rfl, trivial⟩ ?_
  exact s_M_number_b4  hG K FU _ _ _ h
def M_named_b79 (x2 : Int32) (x3 : Int32) (σ : RS) : Option (Int32 × RS) := (lt (ri σ 8 ((σ.1 8) + (1 : Int32))) fun σ23 => (if x2 = 0 then (if x3 = 0 then (some ((σ23.1 13), σ23)) else (some ((σ23.1 12), σ23))) else (some ((σ23.1 11), σ23))))
set_option maxRecDepth 100000 in
set_option maxHeartbeats 4000000 in
theorem s_M_named_b79 {g : GP} {l : Launch} {r : Nat → Nat} {X : va_W} {G : GT} {v9 : Int32} {s9 : RS} (hG : IsG g l yX12_named cX12_named 5 { frames := 1, cells := 0, slots := 0, locals := 20 } G) (K : ∀ L pc, decode cX12_named pc = .ok (.ireturn, 1) → G 0 0 (wR g r s9 X) L pc [.int v9]) {x2 : Int32} {x3 : Int32} {σ : RS} (h : M_named_b79  x2 x3 σ = some (v9, s9)) : G 0 0 (wR g r σ X) [(0, .ref (r 25)), (2, .int x2), (3, .int x3)] 79 [] := by
  unfold M_named_b79 at h
  refine g_aload_n hG dX12_named_79 rfl ?_
  refine g_dup hG dX12_named_80 rfl ?_
  refine r_get 8 hG dX12_named_81 f_X12_88 (by decide) rfl ?_
  refine g_iconstv hG dX12_named_84 ki_1 ?_
  refine g_iadd hG dX12_named_85 ?_
  obtain ⟨σ23, e24, h⟩ := lt_ex h
  refine r_put 8 hG e24 dX12_named_86 f_X12_88 (by decide) rfl rfl rfl rfl ?_
  refine g_iload_n hG dX12_named_89 rfl ?_
  rcases if_some h with ⟨c25, h⟩ | ⟨c25, h⟩
  · refine g_if_eq (tgt := 100) hG dX12_named_90 rfl (fun _ => ?_) (fun q => absurd c25 q)
    refine g_iload_n hG dX12_named_100 rfl ?_
    rcases if_some h with ⟨c26, h⟩ | ⟨c26, h⟩
    · refine g_if_eq (tgt := 111) hG dX12_named_101 rfl (fun _ => ?_) (fun q => absurd c26 q)
      refine g_aload_n hG dX12_named_111 rfl ?_
      refine r_get 13 hG dX12_named_112 f_X12_107 (by decide) rfl ?_
      cases h
      exact K _ _ dX12_named_115
    · refine g_if_eq (tgt := 111) hG dX12_named_101 rfl (fun q => absurd q c26) (fun _ => ?_)
      refine g_aload_n hG dX12_named_104 rfl ?_
      refine r_get 12 hG dX12_named_105 f_X12_104 (by decide) rfl ?_
      refine g_goto (tgt := 115) hG dX12_named_108 rfl ?_
      cases h
      exact K _ _ dX12_named_115
  · refine g_if_eq (tgt := 100) hG dX12_named_90 rfl (fun q => absurd q c25) (fun _ => ?_)
    refine g_aload_n hG dX12_named_93 rfl ?_
    refine r_get 11 hG dX12_named_94 f_X12_101 (by decide) rfl ?_
    refine g_goto (tgt := 115) hG dX12_named_97 rfl ?_
    cases h
    exact K _ _ dX12_named_115
def M_named (x1 : Int32) (σ : RS) : Option (Int32 × RS) := (lt (if x1 = (if (σ.1 7) = 0 then (121 : Int32) else (115 : Int32)) then (1 : Int32) else (0 : Int32)) fun v5 => (lt (if x1 = (100 : Int32) then (1 : Int32) else (0 : Int32)) fun v9 => (lt (if x1 = (if (σ.1 7) = 0 then (120 : Int32) else (101 : Int32)) then (1 : Int32) else (0 : Int32)) fun v15 => (if v5 = 0 then (if v9 = 0 then (if v15 = 0 then (ob (M_fails  σ) fun v20 σ21 => (some (v20, σ21))) else (M_named_b79  v5 v9 σ)) else (M_named_b79  v5 v9 σ)) else (M_named_b79  v5 v9 σ)))))
set_option maxRecDepth 100000 in
set_option maxHeartbeats 4000000 in
theorem c_M_named {g : GP} {l : Launch} {r : Nat → Nat} {X : va_W} {v9 : Int32} {s9 : RS} {x1 : Int32} {σ : RS} (h : M_named x1 σ = some (v9, s9)) : CI g l yX12_named cX12_named 5 (some .int) { frames := 1, cells := 0, slots := 0, locals := 20 } [.ref (r 25), .int x1] (wR g r σ X) (fun r0 w => r0 = v9 ∧ w = wR g r s9 X) := by
  refine CI.mk (by decide) (Nat.le_of_ble_eq_true rfl) (fun G hG hret => ?_)
  have K : ∀ L pc, decode cX12_named pc = .ok (.ireturn, 1) → G 0 0 (wR g r s9 X) L pc [.int v9] := fun L pc d => hret _ L pc v9 d rfl ⟨rfl, rfl⟩
  unfold M_named at h
  refine g_iload_n hG dX12_named_0 rfl ?_
  refine g_aload_n hG dX12_named_1 rfl ?_
  refine r_get 7 hG dX12_named_2 f_X12_81 (by decide) rfl ?_
  refine g_dia1 (if (σ.1 7) = 0 then (121 : Int32) else (115 : Int32)) 15 (fun J1 => ?_) ?_
  · by_cases c2 : (σ.1 7) = 0
    · refine g_if_ne (tgt := 13) hG dX12_named_5 rfl (fun q => absurd c2 q) (fun _ => ?_)
      refine g_bipushv hG dX12_named_8 kb_121 ?_
      refine g_goto (tgt := 15) hG dX12_named_10 rfl ?_
      rw [if_pos c2] at J1
      exact J1
    · refine g_if_ne (tgt := 13) hG dX12_named_5 rfl (fun _ => ?_) (fun q => absurd q c2)
      refine g_bipushv hG dX12_named_13 kb_115 ?_
      rw [if_neg c2] at J1
      exact J1
  refine g_dia2 (if x1 = (if (σ.1 7) = 0 then (121 : Int32) else (115 : Int32)) then (1 : Int32) else (0 : Int32)) 23 (fun J3 => ?_) ?_
  · by_cases c4 : x1 = (if (σ.1 7) = 0 then (121 : Int32) else (115 : Int32))
    · refine g_icmp_ne (tgt := 22) hG dX12_named_15 rfl (fun q => absurd c4 q) (fun _ => ?_)
      refine g_iconstv hG dX12_named_18 ki_1 ?_
      refine g_goto (tgt := 23) hG dX12_named_19 rfl ?_
      rw [if_pos c4] at J3
      exact J3
    · refine g_icmp_ne (tgt := 22) hG dX12_named_15 rfl (fun _ => ?_) (fun q => absurd q c4)
      refine g_iconstv hG dX12_named_22 ki_0 ?_
      rw [if_neg c4] at J3
      exact J3
  obtain ⟨v5, e6, h⟩ := lt_ex h
  refine g_nam e6 ?_
  refine g_istore_n hG dX12_named_23 (by decide) ?_
  refine g_iload_n hG dX12_named_24 rfl ?_
  refine g_bipushv hG dX12_named_25 kb_100 ?_
  refine g_dia2 (if x1 = (100 : Int32) then (1 : Int32) else (0 : Int32)) 35 (fun J7 => ?_) ?_
  · by_cases c8 : x1 = (100 : Int32)
    · refine g_icmp_ne (tgt := 34) hG dX12_named_27 rfl (fun q => absurd c8 q) (fun _ => ?_)
      refine g_iconstv hG dX12_named_30 ki_1 ?_
      refine g_goto (tgt := 35) hG dX12_named_31 rfl ?_
      rw [if_pos c8] at J7
      exact J7
    · refine g_icmp_ne (tgt := 34) hG dX12_named_27 rfl (fun _ => ?_) (fun q => absurd q c8)
      refine g_iconstv hG dX12_named_34 ki_0 ?_
      rw [if_neg c8] at J7
      exact J7
  obtain ⟨v9, e10, h⟩ := lt_ex h
  refine g_nam e10 ?_
  refine g_istore_n hG dX12_named_35 (by decide) ?_
  refine g_iload_n hG dX12_named_36 rfl ?_
  refine g_aload_n hG dX12_named_37 rfl ?_
  refine r_get 7 hG dX12_named_38 f_X12_81 (by decide) rfl ?_
  refine g_dia1 (if (σ.1 7) = 0 then (120 : Int32) else (101 : Int32)) 51 (fun J11 => ?_) ?_
  · by_cases c12 : (σ.1 7) = 0
    · refine g_if_ne (tgt := 49) hG dX12_named_41 rfl (fun q => absurd c12 q) (fun _ => ?_)
      refine g_bipushv hG dX12_named_44 kb_120 ?_
      refine g_goto (tgt := 51) hG dX12_named_46 rfl ?_
      rw [if_pos c12] at J11
      exact J11
    · refine g_if_ne (tgt := 49) hG dX12_named_41 rfl (fun _ => ?_) (fun q => absurd q c12)
      refine g_bipushv hG dX12_named_49 kb_101 ?_
      rw [if_neg c12] at J11
      exact J11
  refine g_dia2 (if x1 = (if (σ.1 7) = 0 then (120 : Int32) else (101 : Int32)) then (1 : Int32) else (0 : Int32)) 59 (fun J13 => ?_) ?_
  · by_cases c14 : x1 = (if (σ.1 7) = 0 then (120 : Int32) else (101 : Int32))
    · refine g_icmp_ne (tgt := 58) hG dX12_named_51 rfl (fun q => absurd c14 q) (fun _ => ?_)
      refine g_iconstv hG dX12_named_54 ki_1 ?_
      refine g_goto (tgt := 59) hG dX12_named_55 rfl ?_
      rw [if_pos c14] at J13
      exact J13
    · refine g_icmp_ne (tgt := 58) hG dX12_named_51 rfl (fun _ => ?_) (fun q => absurd q c14)
      refine g_iconstv hG dX12_named_58 ki_0 ?_
      rw [if_neg c14] at J13
      exact J13
  obtain ⟨v15, e16, h⟩ := lt_ex h
  refine g_nam e16 ?_
  refine g_istore hG dX12_named_59 (by decide) ?_
  refine g_iload_n hG dX12_named_61 rfl ?_
  rcases if_some h with ⟨c17, h⟩ | ⟨c17, h⟩
  · refine g_if_ne (tgt := 79) hG dX12_named_62 rfl (fun q => absurd c17 q) (fun _ => ?_)
    refine g_iload_n hG dX12_named_65 rfl ?_
    rcases if_some h with ⟨c18, h⟩ | ⟨c18, h⟩
    · refine g_if_ne (tgt := 79) hG dX12_named_66 rfl (fun q => absurd c18 q) (fun _ => ?_)
      refine g_iload hG dX12_named_69 rfl ?_
      rcases if_some h with ⟨c19, h⟩ | ⟨c19, h⟩
      · refine g_if_ne (tgt := 79) hG dX12_named_71 rfl (fun q => absurd c19 q) (fun _ => ?_)
        refine g_aload_n hG dX12_named_74 rfl ?_
        obtain ⟨v20, σ21, q22, h⟩ := ob_some h
        refine g_cV hG dX12_named_75 (c_M_fails q22) b_X12_fails v_X12_97 rfl (k := 0) rfl rfl ⟨Nat.le_of_ble_eq_true rfl, Nat.le_of_ble_eq_true rfl⟩ ⟨rfl, rfl⟩ ⟨Nat.zero_le _, Nat.zero_le _⟩ _ rfl (Nat.le_of_ble_eq_true rfl) ?_
        cases h
        exact K _ _ dX12_named_78
      · refine g_if_ne (tgt := 79) hG dX12_named_71 rfl (fun _ => ?_) (fun q => absurd q c19)
        refine g_loc hG [(0, .ref (r 25)), (2, .int v5), (3, .int v9)] ⟨rfl, rfl, rfl, trivial⟩ ?_
        exact s_M_named_b79  hG K  h
    · refine g_if_ne (tgt := 79) hG dX12_named_66 rfl (fun _ => ?_) (fun q => absurd q c18)
      refine g_loc hG [(0, .ref (r 25)), (2, .int v5), (3, .int v9)] ⟨rfl, rfl, rfl, trivial⟩ ?_
      exact s_M_named_b79  hG K  h
  · refine g_if_ne (tgt := 79) hG dX12_named_62 rfl (fun _ => ?_) (fun q => absurd q c17)
    refine g_loc hG [(0, .ref (r 25)), (2, .int v5), (3, .int v9)] ⟨rfl, rfl, rfl, trivial⟩ ?_
    exact s_M_named_b79  hG K  h
def M_product_b110 (fac : RS → Option (Int32 × RS)) (ag5 : Int32 → RS → Option (Int32 × RS)) (s0 : Int32) (σ : RS) : Option (Int32 × RS) := (ag5 s0 σ)
set_option maxRecDepth 100000 in
set_option maxHeartbeats 4000000 in
theorem s_M_product_b110 {g : GP} {l : Launch} {r : Nat → Nat} {X : va_W} {G : GT} {v9 : Int32} {s9 : RS} {fac : RS → Option (Int32 × RS)} {F1 L1 : Nat} (hfac : ∀ (σ : RS) (v9 : Int32) (s9 : RS), fac σ = some (v9, s9) → CI g l yX12_factor cX12_factor 3 (some .int) { frames := F1, cells := 0, slots := 0, locals := L1 } [.ref (r 25)] (wR g r σ X) (fun r0 w => r0 = v9 ∧ w = wR g r s9 X)) (hG : IsG g l yX12_product cX12_product 4 { frames := F1 + 1, cells := 0, slots := 0, locals := L1 + 22 } G) (K : ∀ L pc, decode cX12_product pc = .ok (.ireturn, 1) → G 0 0 (wR g r s9 X) L pc [.int v9]) {ag5 : Int32 → RS → Option (Int32 × RS)} (hag5 : ∀ (x1 : Int32) (σ : RS), ag5 x1 σ = some (v9, s9) → G 0 0 (wR g r σ X) [(0, .ref (r 25)), (1, .int x1)] 5 []) {s0 : Int32} {σ : RS} (h : M_product_b110 fac ag5 s0 σ = some (v9, s9)) : G 0 0 (wR g r σ X) [(0, .ref (r 25))] 110 [.int s0] := by
  unfold M_product_b110 at h
  refine g_istore_n hG dX12_product_110 (by decide) ?_
  refine g_goto (tgt := 5) hG dX12_product_111 rfl ?_
  refine g_loc hG [(0, .ref (r 25)), (1, .int s0)] ⟨rfl, rfl, trivial⟩ ?_
  exact hag5 _ _ h
def M_product_b51 (fac : RS → Option (Int32 × RS)) (ag5 : Int32 → RS → Option (Int32 × RS)) (x1 : Int32) (σ : RS) : Option (Int32 × RS) := (ob (M_byteAt (σ.1 8) σ) fun v9 σ10 => (lt (ri σ10 8 ((σ10.1 8) + (1 : Int32))) fun σ12 => (ob (fac  σ12) fun v14 σ15 => (if v9 = (42 : Int32) then (M_product_b110 fac ag5 (x1 * v14) σ15) else (if v14 = 0 then (M_product_b110 fac ag5 (0 : Int32) σ15) else (if v9 = (47 : Int32) then (gd (nz v14) (M_product_b110 fac ag5 (x1 / v14) σ15)) else (gd (nz v14) (M_product_b110 fac ag5 (irm x1 v14) σ15))))))))
set_option maxRecDepth 100000 in
set_option maxHeartbeats 4000000 in
theorem s_M_product_b51 {g : GP} {l : Launch} {r : Nat → Nat} {X : va_W} {G : GT} {v9 : Int32} {s9 : RS} {fac : RS → Option (Int32 × RS)} {F1 L1 : Nat} (hfac : ∀ (σ : RS) (v9 : Int32) (s9 : RS), fac σ = some (v9, s9) → CI g l yX12_factor cX12_factor 3 (some .int) { frames := F1, cells := 0, slots := 0, locals := L1 } [.ref (r 25)] (wR g r σ X) (fun r0 w => r0 = v9 ∧ w = wR g r s9 X)) (hG : IsG g l yX12_product cX12_product 4 { frames := F1 + 1, cells := 0, slots := 0, locals := L1 + 22 } G) (K : ∀ L pc, decode cX12_product pc = .ok (.ireturn, 1) → G 0 0 (wR g r s9 X) L pc [.int v9]) {ag5 : Int32 → RS → Option (Int32 × RS)} (hag5 : ∀ (x1 : Int32) (σ : RS), ag5 x1 σ = some (v9, s9) → G 0 0 (wR g r σ X) [(0, .ref (r 25)), (1, .int x1)] 5 []) {x1 : Int32} {σ : RS} (h : M_product_b51 fac ag5 x1 σ = some (v9, s9)) : G 0 0 (wR g r σ X) [(0, .ref (r 25)), (1, .int x1)] 51 [] := by
  unfold M_product_b51 at h
  refine g_aload_n hG dX12_product_51 rfl ?_
  refine g_aload_n hG dX12_product_52 rfl ?_
  refine r_get 8 hG dX12_product_53 f_X12_88 (by decide) rfl ?_
  obtain ⟨v9, σ10, q11, h⟩ := ob_some h
  refine g_cV hG dX12_product_56 (c_M_byteAt q11) b_X12_byteAt v_X12_91 rfl (k := 0) rfl rfl ⟨by dsimp only; omega, by dsimp only; omega⟩ ⟨rfl, rfl⟩ ⟨Nat.zero_le _, Nat.zero_le _⟩ _ rfl (Nat.le_of_ble_eq_true rfl) ?_
  refine g_istore_n hG dX12_product_59 (by decide) ?_
  refine g_aload_n hG dX12_product_60 rfl ?_
  refine g_dup hG dX12_product_61 rfl ?_
  refine r_get 8 hG dX12_product_62 f_X12_88 (by decide) rfl ?_
  refine g_iconstv hG dX12_product_65 ki_1 ?_
  refine g_iadd hG dX12_product_66 ?_
  obtain ⟨σ12, e13, h⟩ := lt_ex h
  refine r_put 8 hG e13 dX12_product_67 f_X12_88 (by decide) rfl rfl rfl rfl ?_
  refine g_aload_n hG dX12_product_70 rfl ?_
  obtain ⟨v14, σ15, q16, h⟩ := ob_some h
  refine g_cV hG dX12_product_71 (hfac _ _ _ q16) b_X12_factor v_X12_119 rfl (k := 0) rfl rfl ⟨by dsimp only; omega, by dsimp only; omega⟩ ⟨rfl, rfl⟩ ⟨Nat.zero_le _, Nat.zero_le _⟩ _ rfl (Nat.le_of_ble_eq_true rfl) ?_
  refine g_istore_n hG dX12_product_74 (by decide) ?_
  refine g_iload_n hG dX12_product_75 rfl ?_
  refine g_bipushv hG dX12_product_76 kb_42 ?_
  rcases if_some h with ⟨c17, h⟩ | ⟨c17, h⟩
  · refine g_icmp_ne (tgt := 87) hG dX12_product_78 rfl (fun q => absurd c17 q) (fun _ => ?_)
    refine g_iload_n hG dX12_product_81 rfl ?_
    refine g_iload_n hG dX12_product_82 rfl ?_
    refine g_imul hG dX12_product_83 ?_
    refine g_goto (tgt := 110) hG dX12_product_84 rfl ?_
    refine g_loc hG [(0, .ref (r 25))] ⟨rfl, trivial⟩ ?_
    exact s_M_product_b110 hfac hG K hag5 h
  · refine g_icmp_ne (tgt := 87) hG dX12_product_78 rfl (fun _ => ?_) (fun q => absurd q c17)
    refine g_iload_n hG dX12_product_87 rfl ?_
    rcases if_some h with ⟨c18, h⟩ | ⟨c18, h⟩
    · refine g_if_ne (tgt := 95) hG dX12_product_88 rfl (fun q => absurd c18 q) (fun _ => ?_)
      refine g_iconstv hG dX12_product_91 ki_0 ?_
      refine g_goto (tgt := 110) hG dX12_product_92 rfl ?_
      refine g_loc hG [(0, .ref (r 25))] ⟨rfl, trivial⟩ ?_
      exact s_M_product_b110 hfac hG K hag5 h
    · refine g_if_ne (tgt := 95) hG dX12_product_88 rfl (fun _ => ?_) (fun q => absurd q c18)
      refine g_iload_n hG dX12_product_95 rfl ?_
      refine g_bipushv hG dX12_product_96 kb_47 ?_
      rcases if_some h with ⟨c19, h⟩ | ⟨c19, h⟩
      · refine g_icmp_ne (tgt := 107) hG dX12_product_98 rfl (fun q => absurd c19 q) (fun _ => ?_)
        refine g_iload_n hG dX12_product_101 rfl ?_
        refine g_iload_n hG dX12_product_102 rfl ?_
        obtain ⟨b20, h⟩ := gd_some h
        refine g_idiv hG dX12_product_103 (nz_ne b20) ?_
        refine g_goto (tgt := 110) hG dX12_product_104 rfl ?_
        refine g_loc hG [(0, .ref (r 25))] ⟨rfl, trivial⟩ ?_
        exact s_M_product_b110 hfac hG K hag5 h
      · refine g_icmp_ne (tgt := 107) hG dX12_product_98 rfl (fun _ => ?_) (fun q => absurd q c19)
        refine g_iload_n hG dX12_product_107 rfl ?_
        refine g_iload_n hG dX12_product_108 rfl ?_
        obtain ⟨b21, h⟩ := gd_some h
        refine g_irm hG dX12_product_109 (nz_ne b21) ?_
        refine g_loc hG [(0, .ref (r 25))] ⟨rfl, trivial⟩ ?_
        exact s_M_product_b110 hfac hG K hag5 h
def M_product_b5 (fac : RS → Option (Int32 × RS)) : Nat → Int32 → RS → Option (Int32 × RS)
  | 0, _, _ => none
  | n + 1, x1, σ => (if (σ.1 14) = 0 then (some (x1, σ)) else (ob (M_byteAt (σ.1 8) σ) fun v5 σ6 => (if v5 = (42 : Int32) then (M_product_b51 fac (M_product_b5 fac  n) x1 σ6) else (ob (M_byteAt (σ6.1 8) σ6) fun v22 σ23 => (if v22 = (47 : Int32) then (M_product_b51 fac (M_product_b5 fac  n) x1 σ23) else (ob (M_byteAt (σ23.1 8) σ23) fun v26 σ27 => (if v26 = (37 : Int32) then (M_product_b51 fac (M_product_b5 fac  n) x1 σ27) else (some (x1, σ27)))))))))
set_option maxRecDepth 100000 in
set_option maxHeartbeats 4000000 in
theorem s_M_product_b5 {g : GP} {l : Launch} {r : Nat → Nat} {X : va_W} {G : GT} {v9 : Int32} {s9 : RS} {fac : RS → Option (Int32 × RS)} {F1 L1 : Nat} (hfac : ∀ (σ : RS) (v9 : Int32) (s9 : RS), fac σ = some (v9, s9) → CI g l yX12_factor cX12_factor 3 (some .int) { frames := F1, cells := 0, slots := 0, locals := L1 } [.ref (r 25)] (wR g r σ X) (fun r0 w => r0 = v9 ∧ w = wR g r s9 X)) (hG : IsG g l yX12_product cX12_product 4 { frames := F1 + 1, cells := 0, slots := 0, locals := L1 + 22 } G) (K : ∀ L pc, decode cX12_product pc = .ok (.ireturn, 1) → G 0 0 (wR g r s9 X) L pc [.int v9]) : ∀ (n : Nat) (x1 : Int32) (σ : RS) (h : M_product_b5 fac  n x1 σ = some (v9, s9)), G 0 0 (wR g r σ X) [(0, .ref (r 25)), (1, .int x1)] 5 [] := by
  intro n
  induction n with
  | zero => intro _ σ h; cases h
  | succ n ih =>
    intro x1 σ h
    unfold M_product_b5 at h
    refine g_aload_n hG dX12_product_5 rfl ?_
    refine r_get 14 hG dX12_product_6 f_X12_84 (by decide) rfl ?_
    rcases if_some h with ⟨c4, h⟩ | ⟨c4, h⟩
    · refine g_if_eq (tgt := 114) hG dX12_product_9 rfl (fun _ => ?_) (fun q => absurd c4 q)
      refine g_iload_n hG dX12_product_114 rfl ?_
      cases h
      exact K _ _ dX12_product_115
    · refine g_if_eq (tgt := 114) hG dX12_product_9 rfl (fun q => absurd q c4) (fun _ => ?_)
      refine g_aload_n hG dX12_product_12 rfl ?_
      refine g_aload_n hG dX12_product_13 rfl ?_
      refine r_get 8 hG dX12_product_14 f_X12_88 (by decide) rfl ?_
      obtain ⟨v5, σ6, q7, h⟩ := ob_some h
      refine g_cV hG dX12_product_17 (c_M_byteAt q7) b_X12_byteAt v_X12_91 rfl (k := 0) rfl rfl ⟨by dsimp only; omega, by dsimp only; omega⟩ ⟨rfl, rfl⟩ ⟨Nat.zero_le _, Nat.zero_le _⟩ _ rfl (Nat.le_of_ble_eq_true rfl) ?_
      refine g_bipushv hG dX12_product_20 kb_42 ?_
      rcases if_some h with ⟨c8, h⟩ | ⟨c8, h⟩
      · refine g_icmp_eq (tgt := 51) hG dX12_product_22 rfl (fun _ => ?_) (fun q => absurd c8 q)
        refine g_loc hG [(0, .ref (r 25)), (1, .int x1)] ⟨rfl, rfl, trivial⟩ ?_
        exact s_M_product_b51 hfac hG K ih h
      · refine g_icmp_eq (tgt := 51) hG dX12_product_22 rfl (fun q => absurd q c8) (fun _ => ?_)
        refine g_aload_n hG dX12_product_25 rfl ?_
        refine g_aload_n hG dX12_product_26 rfl ?_
        refine r_get 8 hG dX12_product_27 f_X12_88 (by decide) rfl ?_
        obtain ⟨v22, σ23, q24, h⟩ := ob_some h
        refine g_cV hG dX12_product_30 (c_M_byteAt q24) b_X12_byteAt v_X12_91 rfl (k := 0) rfl rfl ⟨by dsimp only; omega, by dsimp only; omega⟩ ⟨rfl, rfl⟩ ⟨Nat.zero_le _, Nat.zero_le _⟩ _ rfl (Nat.le_of_ble_eq_true rfl) ?_
        refine g_bipushv hG dX12_product_33 kb_47 ?_
        rcases if_some h with ⟨c25, h⟩ | ⟨c25, h⟩
        · refine g_icmp_eq (tgt := 51) hG dX12_product_35 rfl (fun _ => ?_) (fun q => absurd c25 q)
          refine g_loc hG [(0, .ref (r 25)), (1, .int x1)] ⟨rfl, rfl, trivial⟩ ?_
          exact s_M_product_b51 hfac hG K ih h
        · refine g_icmp_eq (tgt := 51) hG dX12_product_35 rfl (fun q => absurd q c25) (fun _ => ?_)
          refine g_aload_n hG dX12_product_38 rfl ?_
          refine g_aload_n hG dX12_product_39 rfl ?_
          refine r_get 8 hG dX12_product_40 f_X12_88 (by decide) rfl ?_
          obtain ⟨v26, σ27, q28, h⟩ := ob_some h
          refine g_cV hG dX12_product_43 (c_M_byteAt q28) b_X12_byteAt v_X12_91 rfl (k := 0) rfl rfl ⟨by dsimp only; omega, by dsimp only; omega⟩ ⟨rfl, rfl⟩ ⟨Nat.zero_le _, Nat.zero_le _⟩ _ rfl (Nat.le_of_ble_eq_true rfl) ?_
          refine g_bipushv hG dX12_product_46 kb_37 ?_
          rcases if_some h with ⟨c29, h⟩ | ⟨c29, h⟩
          · refine g_icmp_ne (tgt := 114) hG dX12_product_48 rfl (fun q => absurd c29 q) (fun _ => ?_)
            refine g_loc hG [(0, .ref (r 25)), (1, .int x1)] ⟨rfl, rfl, trivial⟩ ?_
            exact s_M_product_b51 hfac hG K ih h
          · refine g_icmp_ne (tgt := 114) hG dX12_product_48 rfl (fun _ => ?_) (fun q => absurd q c29)
            refine g_iload_n hG dX12_product_114 rfl ?_
            cases h
            exact K _ _ dX12_product_115
def M_product (fac : RS → Option (Int32 × RS))  (σ : RS) : Option (Int32 × RS) := (ob (fac  σ) fun v1 σ2 => (M_product_b5 fac  FU v1 σ2))
set_option maxRecDepth 100000 in
set_option maxHeartbeats 4000000 in
theorem c_M_product {g : GP} {l : Launch} {r : Nat → Nat} {X : va_W} {v9 : Int32} {s9 : RS} {fac : RS → Option (Int32 × RS)} {F1 L1 : Nat} (hfac : ∀ (σ : RS) (v9 : Int32) (s9 : RS), fac σ = some (v9, s9) → CI g l yX12_factor cX12_factor 3 (some .int) { frames := F1, cells := 0, slots := 0, locals := L1 } [.ref (r 25)] (wR g r σ X) (fun r0 w => r0 = v9 ∧ w = wR g r s9 X)) {σ : RS} (h : M_product fac  σ = some (v9, s9)) : CI g l yX12_product cX12_product 4 (some .int) { frames := F1 + 1, cells := 0, slots := 0, locals := L1 + 22 } [.ref (r 25)] (wR g r σ X) (fun r0 w => r0 = v9 ∧ w = wR g r s9 X) := by
  refine CI.mk (by decide) (Nat.le_of_ble_eq_true rfl) (fun G hG hret => ?_)
  have K : ∀ L pc, decode cX12_product pc = .ok (.ireturn, 1) → G 0 0 (wR g r s9 X) L pc [.int v9] := fun L pc d => hret _ L pc v9 d rfl ⟨rfl, rfl⟩
  unfold M_product at h
  refine g_aload_n hG dX12_product_0 rfl ?_
  obtain ⟨v1, σ2, q3, h⟩ := ob_some h
  refine g_cV hG dX12_product_1 (hfac _ _ _ q3) b_X12_factor v_X12_119 rfl (k := 0) rfl rfl ⟨by dsimp only; omega, by dsimp only; omega⟩ ⟨rfl, rfl⟩ ⟨Nat.zero_le _, Nat.zero_le _⟩ _ rfl (Nat.le_of_ble_eq_true rfl) ?_
  refine g_istore_n hG dX12_product_4 (by decide) ?_
  refine g_loc hG [(0, .ref (r 25)), (1, .int v1)] ⟨rfl, rfl, trivial⟩ ?_
  exact s_M_product_b5 hfac hG K FU _ _ h
def M_sum_b38 (fac : RS → Option (Int32 × RS)) (ag5 : Int32 → RS → Option (Int32 × RS)) (x1 : Int32) (σ : RS) : Option (Int32 × RS) := (ob (M_byteAt (σ.1 8) σ) fun v9 σ10 => (lt (ri σ10 8 ((σ10.1 8) + (1 : Int32))) fun σ12 => (ob (M_product fac  σ12) fun v14 σ15 => (lt (if v9 = (43 : Int32) then (x1 + v14) else (x1 - v14)) fun v19 => (ag5 v19 σ15)))))
set_option maxRecDepth 100000 in
set_option maxHeartbeats 4000000 in
theorem s_M_sum_b38 {g : GP} {l : Launch} {r : Nat → Nat} {X : va_W} {G : GT} {v9 : Int32} {s9 : RS} {fac : RS → Option (Int32 × RS)} {F1 L1 : Nat} (hfac : ∀ (σ : RS) (v9 : Int32) (s9 : RS), fac σ = some (v9, s9) → CI g l yX12_factor cX12_factor 3 (some .int) { frames := F1, cells := 0, slots := 0, locals := L1 } [.ref (r 25)] (wR g r σ X) (fun r0 w => r0 = v9 ∧ w = wR g r s9 X)) (hG : IsG g l yX12_sum cX12_sum 4 { frames := F1 + 2, cells := 0, slots := 0, locals := L1 + 45 } G) (K : ∀ L pc, decode cX12_sum pc = .ok (.ireturn, 1) → G 0 0 (wR g r s9 X) L pc [.int v9]) {ag5 : Int32 → RS → Option (Int32 × RS)} (hag5 : ∀ (x1 : Int32) (σ : RS), ag5 x1 σ = some (v9, s9) → G 0 0 (wR g r σ X) [(0, .ref (r 25)), (1, .int x1)] 5 []) {x1 : Int32} {σ : RS} (h : M_sum_b38 fac ag5 x1 σ = some (v9, s9)) : G 0 0 (wR g r σ X) [(0, .ref (r 25)), (1, .int x1)] 38 [] := by
  unfold M_sum_b38 at h
  refine g_aload_n hG dX12_sum_38 rfl ?_
  refine g_aload_n hG dX12_sum_39 rfl ?_
  refine r_get 8 hG dX12_sum_40 f_X12_88 (by decide) rfl ?_
  obtain ⟨v9, σ10, q11, h⟩ := ob_some h
  refine g_cV hG dX12_sum_43 (c_M_byteAt q11) b_X12_byteAt v_X12_91 rfl (k := 0) rfl rfl ⟨by dsimp only; omega, by dsimp only; omega⟩ ⟨rfl, rfl⟩ ⟨Nat.zero_le _, Nat.zero_le _⟩ _ rfl (Nat.le_of_ble_eq_true rfl) ?_
  refine g_istore_n hG dX12_sum_46 (by decide) ?_
  refine g_aload_n hG dX12_sum_47 rfl ?_
  refine g_dup hG dX12_sum_48 rfl ?_
  refine r_get 8 hG dX12_sum_49 f_X12_88 (by decide) rfl ?_
  refine g_iconstv hG dX12_sum_52 ki_1 ?_
  refine g_iadd hG dX12_sum_53 ?_
  obtain ⟨σ12, e13, h⟩ := lt_ex h
  refine r_put 8 hG e13 dX12_sum_54 f_X12_88 (by decide) rfl rfl rfl rfl ?_
  refine g_aload_n hG dX12_sum_57 rfl ?_
  obtain ⟨v14, σ15, q16, h⟩ := ob_some h
  refine g_cV hG dX12_sum_58 (c_M_product hfac q16) b_X12_product v_X12_125 rfl (k := 0) rfl rfl ⟨by dsimp only; omega, by dsimp only; omega⟩ ⟨rfl, rfl⟩ ⟨Nat.zero_le _, Nat.zero_le _⟩ _ rfl (Nat.le_of_ble_eq_true rfl) ?_
  refine g_istore_n hG dX12_sum_61 (by decide) ?_
  refine g_iload_n hG dX12_sum_62 rfl ?_
  refine g_bipushv hG dX12_sum_63 kb_43 ?_
  refine g_dia2 (if v9 = (43 : Int32) then (x1 + v14) else (x1 - v14)) 77 (fun J17 => ?_) ?_
  · by_cases c18 : v9 = (43 : Int32)
    · refine g_icmp_ne (tgt := 74) hG dX12_sum_65 rfl (fun q => absurd c18 q) (fun _ => ?_)
      refine g_iload_n hG dX12_sum_68 rfl ?_
      refine g_iload_n hG dX12_sum_69 rfl ?_
      refine g_iadd hG dX12_sum_70 ?_
      refine g_goto (tgt := 77) hG dX12_sum_71 rfl ?_
      rw [if_pos c18] at J17
      exact J17
    · refine g_icmp_ne (tgt := 74) hG dX12_sum_65 rfl (fun _ => ?_) (fun q => absurd q c18)
      refine g_iload_n hG dX12_sum_74 rfl ?_
      refine g_iload_n hG dX12_sum_75 rfl ?_
      refine g_isub hG dX12_sum_76 ?_
      rw [if_neg c18] at J17
      exact J17
  obtain ⟨v19, e20, h⟩ := lt_ex h
  refine g_nam e20 ?_
  refine g_istore_n hG dX12_sum_77 (by decide) ?_
  refine g_goto (tgt := 5) hG dX12_sum_78 rfl ?_
  refine g_loc hG [(0, .ref (r 25)), (1, .int v19)] ⟨rfl, rfl, trivial⟩ ?_
  exact hag5 _ _ h
def M_sum_b5 (fac : RS → Option (Int32 × RS)) : Nat → Int32 → RS → Option (Int32 × RS)
  | 0, _, _ => none
  | n + 1, x1, σ => (if (σ.1 14) = 0 then (some (x1, σ)) else (ob (M_byteAt (σ.1 8) σ) fun v5 σ6 => (if v5 = (43 : Int32) then (M_sum_b38 fac (M_sum_b5 fac  n) x1 σ6) else (ob (M_byteAt (σ6.1 8) σ6) fun v21 σ22 => (if v21 = (45 : Int32) then (M_sum_b38 fac (M_sum_b5 fac  n) x1 σ22) else (some (x1, σ22)))))))
set_option maxRecDepth 100000 in
set_option maxHeartbeats 4000000 in
theorem s_M_sum_b5 {g : GP} {l : Launch} {r : Nat → Nat} {X : va_W} {G : GT} {v9 : Int32} {s9 : RS} {fac : RS → Option (Int32 × RS)} {F1 L1 : Nat} (hfac : ∀ (σ : RS) (v9 : Int32) (s9 : RS), fac σ = some (v9, s9) → CI g l yX12_factor cX12_factor 3 (some .int) { frames := F1, cells := 0, slots := 0, locals := L1 } [.ref (r 25)] (wR g r σ X) (fun r0 w => r0 = v9 ∧ w = wR g r s9 X)) (hG : IsG g l yX12_sum cX12_sum 4 { frames := F1 + 2, cells := 0, slots := 0, locals := L1 + 45 } G) (K : ∀ L pc, decode cX12_sum pc = .ok (.ireturn, 1) → G 0 0 (wR g r s9 X) L pc [.int v9]) : ∀ (n : Nat) (x1 : Int32) (σ : RS) (h : M_sum_b5 fac  n x1 σ = some (v9, s9)), G 0 0 (wR g r σ X) [(0, .ref (r 25)), (1, .int x1)] 5 [] := by
  intro n
  induction n with
  | zero => intro _ σ h; cases h
  | succ n ih =>
    intro x1 σ h
    unfold M_sum_b5 at h
    refine g_aload_n hG dX12_sum_5 rfl ?_
    refine r_get 14 hG dX12_sum_6 f_X12_84 (by decide) rfl ?_
    rcases if_some h with ⟨c4, h⟩ | ⟨c4, h⟩
    · refine g_if_eq (tgt := 81) hG dX12_sum_9 rfl (fun _ => ?_) (fun q => absurd c4 q)
      refine g_iload_n hG dX12_sum_81 rfl ?_
      cases h
      exact K _ _ dX12_sum_82
    · refine g_if_eq (tgt := 81) hG dX12_sum_9 rfl (fun q => absurd q c4) (fun _ => ?_)
      refine g_aload_n hG dX12_sum_12 rfl ?_
      refine g_aload_n hG dX12_sum_13 rfl ?_
      refine r_get 8 hG dX12_sum_14 f_X12_88 (by decide) rfl ?_
      obtain ⟨v5, σ6, q7, h⟩ := ob_some h
      refine g_cV hG dX12_sum_17 (c_M_byteAt q7) b_X12_byteAt v_X12_91 rfl (k := 0) rfl rfl ⟨by dsimp only; omega, by dsimp only; omega⟩ ⟨rfl, rfl⟩ ⟨Nat.zero_le _, Nat.zero_le _⟩ _ rfl (Nat.le_of_ble_eq_true rfl) ?_
      refine g_bipushv hG dX12_sum_20 kb_43 ?_
      rcases if_some h with ⟨c8, h⟩ | ⟨c8, h⟩
      · refine g_icmp_eq (tgt := 38) hG dX12_sum_22 rfl (fun _ => ?_) (fun q => absurd c8 q)
        refine g_loc hG [(0, .ref (r 25)), (1, .int x1)] ⟨rfl, rfl, trivial⟩ ?_
        exact s_M_sum_b38 hfac hG K ih h
      · refine g_icmp_eq (tgt := 38) hG dX12_sum_22 rfl (fun q => absurd q c8) (fun _ => ?_)
        refine g_aload_n hG dX12_sum_25 rfl ?_
        refine g_aload_n hG dX12_sum_26 rfl ?_
        refine r_get 8 hG dX12_sum_27 f_X12_88 (by decide) rfl ?_
        obtain ⟨v21, σ22, q23, h⟩ := ob_some h
        refine g_cV hG dX12_sum_30 (c_M_byteAt q23) b_X12_byteAt v_X12_91 rfl (k := 0) rfl rfl ⟨by dsimp only; omega, by dsimp only; omega⟩ ⟨rfl, rfl⟩ ⟨Nat.zero_le _, Nat.zero_le _⟩ _ rfl (Nat.le_of_ble_eq_true rfl) ?_
        refine g_bipushv hG dX12_sum_33 kb_45 ?_
        rcases if_some h with ⟨c24, h⟩ | ⟨c24, h⟩
        · refine g_icmp_ne (tgt := 81) hG dX12_sum_35 rfl (fun q => absurd c24 q) (fun _ => ?_)
          refine g_loc hG [(0, .ref (r 25)), (1, .int x1)] ⟨rfl, rfl, trivial⟩ ?_
          exact s_M_sum_b38 hfac hG K ih h
        · refine g_icmp_ne (tgt := 81) hG dX12_sum_35 rfl (fun _ => ?_) (fun q => absurd q c24)
          refine g_iload_n hG dX12_sum_81 rfl ?_
          cases h
          exact K _ _ dX12_sum_82
def M_sum (fac : RS → Option (Int32 × RS))  (σ : RS) : Option (Int32 × RS) := (ob (M_product fac  σ) fun v1 σ2 => (M_sum_b5 fac  FU v1 σ2))
set_option maxRecDepth 100000 in
set_option maxHeartbeats 4000000 in
theorem c_M_sum {g : GP} {l : Launch} {r : Nat → Nat} {X : va_W} {v9 : Int32} {s9 : RS} {fac : RS → Option (Int32 × RS)} {F1 L1 : Nat} (hfac : ∀ (σ : RS) (v9 : Int32) (s9 : RS), fac σ = some (v9, s9) → CI g l yX12_factor cX12_factor 3 (some .int) { frames := F1, cells := 0, slots := 0, locals := L1 } [.ref (r 25)] (wR g r σ X) (fun r0 w => r0 = v9 ∧ w = wR g r s9 X)) {σ : RS} (h : M_sum fac  σ = some (v9, s9)) : CI g l yX12_sum cX12_sum 4 (some .int) { frames := F1 + 2, cells := 0, slots := 0, locals := L1 + 45 } [.ref (r 25)] (wR g r σ X) (fun r0 w => r0 = v9 ∧ w = wR g r s9 X) := by
  refine CI.mk (by decide) (Nat.le_of_ble_eq_true rfl) (fun G hG hret => ?_)
  have K : ∀ L pc, decode cX12_sum pc = .ok (.ireturn, 1) → G 0 0 (wR g r s9 X) L pc [.int v9] := fun L pc d => hret _ L pc v9 d rfl ⟨rfl, rfl⟩
  unfold M_sum at h
  refine g_aload_n hG dX12_sum_0 rfl ?_
  obtain ⟨v1, σ2, q3, h⟩ := ob_some h
  refine g_cV hG dX12_sum_1 (c_M_product hfac q3) b_X12_product v_X12_125 rfl (k := 0) rfl rfl ⟨by dsimp only; omega, by dsimp only; omega⟩ ⟨rfl, rfl⟩ ⟨Nat.zero_le _, Nat.zero_le _⟩ _ rfl (Nat.le_of_ble_eq_true rfl) ?_
  refine g_istore_n hG dX12_sum_4 (by decide) ?_
  refine g_loc hG [(0, .ref (r 25)), (1, .int v1)] ⟨rfl, rfl, trivial⟩ ?_
  exact s_M_sum_b5 hfac hG K FU _ _ h
def M_compared_b45 (fac : RS → Option (Int32 × RS)) (x1 : Int32) (x2 : Int32) (σ : RS) : Option (Int32 × RS) := (lt (ri σ 8 ((σ.1 8) + (1 : Int32))) fun σ6 => (ob (M_sum fac  σ6) fun v8 σ9 => (lt (if x2 = (60 : Int32) then (if v8 ≤ x1 then (0 : Int32) else (1 : Int32)) else (if x2 = (61 : Int32) then (if x1 = v8 then (1 : Int32) else (0 : Int32)) else (if x1 ≤ v8 then (0 : Int32) else (1 : Int32)))) fun v17 => (some ((if v17 = 0 then (0 : Int32) else (1 : Int32)), σ9)))))
set_option maxRecDepth 100000 in
set_option maxHeartbeats 4000000 in
theorem s_M_compared_b45 {g : GP} {l : Launch} {r : Nat → Nat} {X : va_W} {G : GT} {v9 : Int32} {s9 : RS} {fac : RS → Option (Int32 × RS)} {F1 L1 : Nat} (hfac : ∀ (σ : RS) (v9 : Int32) (s9 : RS), fac σ = some (v9, s9) → CI g l yX12_factor cX12_factor 3 (some .int) { frames := F1, cells := 0, slots := 0, locals := L1 } [.ref (r 25)] (wR g r σ X) (fun r0 w => r0 = v9 ∧ w = wR g r s9 X)) (hG : IsG g l yX12_compared cX12_compared 5 { frames := F1 + 3, cells := 0, slots := 0, locals := L1 + 68 } G) (K : ∀ L pc, decode cX12_compared pc = .ok (.ireturn, 1) → G 0 0 (wR g r s9 X) L pc [.int v9]) {x1 : Int32} {x2 : Int32} {σ : RS} (h : M_compared_b45 fac  x1 x2 σ = some (v9, s9)) : G 0 0 (wR g r σ X) [(0, .ref (r 25)), (1, .int x1), (2, .int x2)] 45 [] := by
  unfold M_compared_b45 at h
  refine g_aload_n hG dX12_compared_45 rfl ?_
  refine g_dup hG dX12_compared_46 rfl ?_
  refine r_get 8 hG dX12_compared_47 f_X12_88 (by decide) rfl ?_
  refine g_iconstv hG dX12_compared_50 ki_1 ?_
  refine g_iadd hG dX12_compared_51 ?_
  obtain ⟨σ6, e7, h⟩ := lt_ex h
  refine r_put 8 hG e7 dX12_compared_52 f_X12_88 (by decide) rfl rfl rfl rfl ?_
  refine g_aload_n hG dX12_compared_55 rfl ?_
  obtain ⟨v8, σ9, q10, h⟩ := ob_some h
  refine g_cV hG dX12_compared_56 (c_M_sum hfac q10) b_X12_sum v_X12_128 rfl (k := 0) rfl rfl ⟨by dsimp only; omega, by dsimp only; omega⟩ ⟨rfl, rfl⟩ ⟨Nat.zero_le _, Nat.zero_le _⟩ _ rfl (Nat.le_of_ble_eq_true rfl) ?_
  refine g_istore_n hG dX12_compared_59 (by decide) ?_
  refine g_iload_n hG dX12_compared_60 rfl ?_
  refine g_bipushv hG dX12_compared_61 kb_60 ?_
  refine g_dia2 (if x2 = (60 : Int32) then (if v8 ≤ x1 then (0 : Int32) else (1 : Int32)) else (if x2 = (61 : Int32) then (if x1 = v8 then (1 : Int32) else (0 : Int32)) else (if x1 ≤ v8 then (0 : Int32) else (1 : Int32)))) 108 (fun J11 => ?_) ?_
  · by_cases c12 : x2 = (60 : Int32)
    · refine g_icmp_ne (tgt := 79) hG dX12_compared_63 rfl (fun q => absurd c12 q) (fun _ => ?_)
      refine g_iload_n hG dX12_compared_66 rfl ?_
      refine g_iload_n hG dX12_compared_67 rfl ?_
      by_cases c13 : v8 ≤ x1
      · refine g_icmp_ge (tgt := 75) hG dX12_compared_68 rfl (fun _ => ?_) (fun q => absurd c13 q)
        refine g_iconstv hG dX12_compared_75 ki_0 ?_
        refine g_goto (tgt := 108) hG dX12_compared_76 rfl ?_
        rw [if_pos c12, if_pos c13] at J11
        exact J11
      · refine g_icmp_ge (tgt := 75) hG dX12_compared_68 rfl (fun q => absurd q c13) (fun _ => ?_)
        refine g_iconstv hG dX12_compared_71 ki_1 ?_
        refine g_goto (tgt := 108) hG dX12_compared_72 rfl ?_
        rw [if_pos c12, if_neg c13] at J11
        exact J11
    · refine g_icmp_ne (tgt := 79) hG dX12_compared_63 rfl (fun _ => ?_) (fun q => absurd q c12)
      refine g_iload_n hG dX12_compared_79 rfl ?_
      refine g_bipushv hG dX12_compared_80 kb_61 ?_
      by_cases c14 : x2 = (61 : Int32)
      · refine g_icmp_ne (tgt := 98) hG dX12_compared_82 rfl (fun q => absurd c14 q) (fun _ => ?_)
        refine g_iload_n hG dX12_compared_85 rfl ?_
        refine g_iload_n hG dX12_compared_86 rfl ?_
        by_cases c15 : x1 = v8
        · refine g_icmp_ne (tgt := 94) hG dX12_compared_87 rfl (fun q => absurd c15 q) (fun _ => ?_)
          refine g_iconstv hG dX12_compared_90 ki_1 ?_
          refine g_goto (tgt := 108) hG dX12_compared_91 rfl ?_
          rw [if_neg c12, if_pos c14, if_pos c15] at J11
          exact J11
        · refine g_icmp_ne (tgt := 94) hG dX12_compared_87 rfl (fun _ => ?_) (fun q => absurd q c15)
          refine g_iconstv hG dX12_compared_94 ki_0 ?_
          refine g_goto (tgt := 108) hG dX12_compared_95 rfl ?_
          rw [if_neg c12, if_pos c14, if_neg c15] at J11
          exact J11
      · refine g_icmp_ne (tgt := 98) hG dX12_compared_82 rfl (fun _ => ?_) (fun q => absurd q c14)
        refine g_iload_n hG dX12_compared_98 rfl ?_
        refine g_iload_n hG dX12_compared_99 rfl ?_
        by_cases c16 : x1 ≤ v8
        · refine g_icmp_le (tgt := 107) hG dX12_compared_100 rfl (fun _ => ?_) (fun q => absurd c16 q)
          refine g_iconstv hG dX12_compared_107 ki_0 ?_
          rw [if_neg c12, if_neg c14, if_pos c16] at J11
          exact J11
        · refine g_icmp_le (tgt := 107) hG dX12_compared_100 rfl (fun q => absurd q c16) (fun _ => ?_)
          refine g_iconstv hG dX12_compared_103 ki_1 ?_
          refine g_goto (tgt := 108) hG dX12_compared_104 rfl ?_
          rw [if_neg c12, if_neg c14, if_neg c16] at J11
          exact J11
  obtain ⟨v17, e18, h⟩ := lt_ex h
  refine g_nam e18 ?_
  refine g_istore hG dX12_compared_108 (by decide) ?_
  refine g_iload hG dX12_compared_110 rfl ?_
  refine g_dia1 (if v17 = 0 then (0 : Int32) else (1 : Int32)) 120 (fun J19 => ?_) ?_
  · by_cases c20 : v17 = 0
    · refine g_if_eq (tgt := 119) hG dX12_compared_112 rfl (fun _ => ?_) (fun q => absurd c20 q)
      refine g_iconstv hG dX12_compared_119 ki_0 ?_
      rw [if_pos c20] at J19
      exact J19
    · refine g_if_eq (tgt := 119) hG dX12_compared_112 rfl (fun q => absurd q c20) (fun _ => ?_)
      refine g_iconstv hG dX12_compared_115 ki_1 ?_
      refine g_goto (tgt := 120) hG dX12_compared_116 rfl ?_
      rw [if_neg c20] at J19
      exact J19
  cases h
  exact K _ _ dX12_compared_120
def M_compared_b24 (fac : RS → Option (Int32 × RS)) (x1 : Int32) (s0 : Int32) (σ : RS) : Option (Int32 × RS) := (if s0 = (60 : Int32) then (M_compared_b45 fac  x1 s0 σ) else (if s0 = (61 : Int32) then (M_compared_b45 fac  x1 s0 σ) else (if s0 = (62 : Int32) then (M_compared_b45 fac  x1 s0 σ) else (some (x1, σ)))))
set_option maxRecDepth 100000 in
set_option maxHeartbeats 4000000 in
theorem s_M_compared_b24 {g : GP} {l : Launch} {r : Nat → Nat} {X : va_W} {G : GT} {v9 : Int32} {s9 : RS} {fac : RS → Option (Int32 × RS)} {F1 L1 : Nat} (hfac : ∀ (σ : RS) (v9 : Int32) (s9 : RS), fac σ = some (v9, s9) → CI g l yX12_factor cX12_factor 3 (some .int) { frames := F1, cells := 0, slots := 0, locals := L1 } [.ref (r 25)] (wR g r σ X) (fun r0 w => r0 = v9 ∧ w = wR g r s9 X)) (hG : IsG g l yX12_compared cX12_compared 5 { frames := F1 + 3, cells := 0, slots := 0, locals := L1 + 68 } G) (K : ∀ L pc, decode cX12_compared pc = .ok (.ireturn, 1) → G 0 0 (wR g r s9 X) L pc [.int v9]) {x1 : Int32} {s0 : Int32} {σ : RS} (h : M_compared_b24 fac  x1 s0 σ = some (v9, s9)) : G 0 0 (wR g r σ X) [(0, .ref (r 25)), (1, .int x1)] 24 [.int s0] := by
  unfold M_compared_b24 at h
  refine g_istore_n hG dX12_compared_24 (by decide) ?_
  refine g_iload_n hG dX12_compared_25 rfl ?_
  refine g_bipushv hG dX12_compared_26 kb_60 ?_
  rcases if_some h with ⟨c5, h⟩ | ⟨c5, h⟩
  · refine g_icmp_eq (tgt := 45) hG dX12_compared_28 rfl (fun _ => ?_) (fun q => absurd c5 q)
    refine g_loc hG [(0, .ref (r 25)), (1, .int x1), (2, .int s0)] ⟨rfl, rfl, rfl, trivial⟩ ?_
    exact s_M_compared_b45 hfac hG K  h
  · refine g_icmp_eq (tgt := 45) hG dX12_compared_28 rfl (fun q => absurd q c5) (fun _ => ?_)
    refine g_iload_n hG dX12_compared_31 rfl ?_
    refine g_bipushv hG dX12_compared_32 kb_61 ?_
    rcases if_some h with ⟨c21, h⟩ | ⟨c21, h⟩
    · refine g_icmp_eq (tgt := 45) hG dX12_compared_34 rfl (fun _ => ?_) (fun q => absurd c21 q)
      refine g_loc hG [(0, .ref (r 25)), (1, .int x1), (2, .int s0)] ⟨rfl, rfl, rfl, trivial⟩ ?_
      exact s_M_compared_b45 hfac hG K  h
    · refine g_icmp_eq (tgt := 45) hG dX12_compared_34 rfl (fun q => absurd q c21) (fun _ => ?_)
      refine g_iload_n hG dX12_compared_37 rfl ?_
      refine g_bipushv hG dX12_compared_38 kb_62 ?_
      rcases if_some h with ⟨c22, h⟩ | ⟨c22, h⟩
      · refine g_icmp_eq (tgt := 45) hG dX12_compared_40 rfl (fun _ => ?_) (fun q => absurd c22 q)
        refine g_loc hG [(0, .ref (r 25)), (1, .int x1), (2, .int s0)] ⟨rfl, rfl, rfl, trivial⟩ ?_
        exact s_M_compared_b45 hfac hG K  h
      · refine g_icmp_eq (tgt := 45) hG dX12_compared_40 rfl (fun q => absurd q c22) (fun _ => ?_)
        refine g_iload_n hG dX12_compared_43 rfl ?_
        cases h
        exact K _ _ dX12_compared_44
def M_compared (fac : RS → Option (Int32 × RS))  (σ : RS) : Option (Int32 × RS) := (ob (M_sum fac  σ) fun v1 σ2 => (if (σ2.1 14) = 0 then (M_compared_b24 fac  v1 (-1 : Int32) σ2) else (ob (M_byteAt (σ2.1 8) σ2) fun v23 σ24 => (M_compared_b24 fac  v1 v23 σ24))))
set_option maxRecDepth 100000 in
set_option maxHeartbeats 4000000 in
theorem c_M_compared {g : GP} {l : Launch} {r : Nat → Nat} {X : va_W} {v9 : Int32} {s9 : RS} {fac : RS → Option (Int32 × RS)} {F1 L1 : Nat} (hfac : ∀ (σ : RS) (v9 : Int32) (s9 : RS), fac σ = some (v9, s9) → CI g l yX12_factor cX12_factor 3 (some .int) { frames := F1, cells := 0, slots := 0, locals := L1 } [.ref (r 25)] (wR g r σ X) (fun r0 w => r0 = v9 ∧ w = wR g r s9 X)) {σ : RS} (h : M_compared fac  σ = some (v9, s9)) : CI g l yX12_compared cX12_compared 5 (some .int) { frames := F1 + 3, cells := 0, slots := 0, locals := L1 + 68 } [.ref (r 25)] (wR g r σ X) (fun r0 w => r0 = v9 ∧ w = wR g r s9 X) := by
  refine CI.mk (by decide) (Nat.le_of_ble_eq_true rfl) (fun G hG hret => ?_)
  have K : ∀ L pc, decode cX12_compared pc = .ok (.ireturn, 1) → G 0 0 (wR g r s9 X) L pc [.int v9] := fun L pc d => hret _ L pc v9 d rfl ⟨rfl, rfl⟩
  unfold M_compared at h
  refine g_aload_n hG dX12_compared_0 rfl ?_
  obtain ⟨v1, σ2, q3, h⟩ := ob_some h
  refine g_cV hG dX12_compared_1 (c_M_sum hfac q3) b_X12_sum v_X12_128 rfl (k := 0) rfl rfl ⟨by dsimp only; omega, by dsimp only; omega⟩ ⟨rfl, rfl⟩ ⟨Nat.zero_le _, Nat.zero_le _⟩ _ rfl (Nat.le_of_ble_eq_true rfl) ?_
  refine g_istore_n hG dX12_compared_4 (by decide) ?_
  refine g_aload_n hG dX12_compared_5 rfl ?_
  refine r_get 14 hG dX12_compared_6 f_X12_84 (by decide) rfl ?_
  rcases if_some h with ⟨c4, h⟩ | ⟨c4, h⟩
  · refine g_if_eq (tgt := 23) hG dX12_compared_9 rfl (fun _ => ?_) (fun q => absurd c4 q)
    refine g_iconstv hG dX12_compared_23 ki_m1 ?_
    refine g_loc hG [(0, .ref (r 25)), (1, .int v1)] ⟨rfl, rfl, trivial⟩ ?_
    exact s_M_compared_b24 hfac hG K  h
  · refine g_if_eq (tgt := 23) hG dX12_compared_9 rfl (fun q => absurd q c4) (fun _ => ?_)
    refine g_aload_n hG dX12_compared_12 rfl ?_
    refine g_aload_n hG dX12_compared_13 rfl ?_
    refine r_get 8 hG dX12_compared_14 f_X12_88 (by decide) rfl ?_
    obtain ⟨v23, σ24, q25, h⟩ := ob_some h
    refine g_cV hG dX12_compared_17 (c_M_byteAt q25) b_X12_byteAt v_X12_91 rfl (k := 0) rfl rfl ⟨by dsimp only; omega, by dsimp only; omega⟩ ⟨rfl, rfl⟩ ⟨Nat.zero_le _, Nat.zero_le _⟩ _ rfl (Nat.le_of_ble_eq_true rfl) ?_
    refine g_goto (tgt := 24) hG dX12_compared_20 rfl ?_
    refine g_loc hG [(0, .ref (r 25)), (1, .int v1)] ⟨rfl, rfl, trivial⟩ ?_
    exact s_M_compared_b24 hfac hG K  h
def M_both_b5 (fac : RS → Option (Int32 × RS)) : Nat → Int32 → RS → Option (Int32 × RS)
  | 0, _, _ => none
  | n + 1, x1, σ => (if (σ.1 14) = 0 then (some (x1, σ)) else (ob (M_byteAt (σ.1 8) σ) fun v5 σ6 => (if v5 = (38 : Int32) then (lt (ri σ6 8 ((σ6.1 8) + (1 : Int32))) fun σ9 => (ob (M_compared fac  σ9) fun v11 σ12 => (lt (if x1 = 0 then (0 : Int32) else (if v11 = 0 then (0 : Int32) else (1 : Int32))) fun v17 => ((M_both_b5 fac  n) v17 σ12)))) else (some (x1, σ6)))))
set_option maxRecDepth 100000 in
set_option maxHeartbeats 4000000 in
theorem s_M_both_b5 {g : GP} {l : Launch} {r : Nat → Nat} {X : va_W} {G : GT} {v9 : Int32} {s9 : RS} {fac : RS → Option (Int32 × RS)} {F1 L1 : Nat} (hfac : ∀ (σ : RS) (v9 : Int32) (s9 : RS), fac σ = some (v9, s9) → CI g l yX12_factor cX12_factor 3 (some .int) { frames := F1, cells := 0, slots := 0, locals := L1 } [.ref (r 25)] (wR g r σ X) (fun r0 w => r0 = v9 ∧ w = wR g r s9 X)) (hG : IsG g l yX12_both cX12_both 3 { frames := F1 + 4, cells := 0, slots := 0, locals := L1 + 92 } G) (K : ∀ L pc, decode cX12_both pc = .ok (.ireturn, 1) → G 0 0 (wR g r s9 X) L pc [.int v9]) : ∀ (n : Nat) (x1 : Int32) (σ : RS) (h : M_both_b5 fac  n x1 σ = some (v9, s9)), G 0 0 (wR g r σ X) [(0, .ref (r 25)), (1, .int x1)] 5 [] := by
  intro n
  induction n with
  | zero => intro _ σ h; cases h
  | succ n ih =>
    intro x1 σ h
    unfold M_both_b5 at h
    refine g_aload_n hG dX12_both_5 rfl ?_
    refine r_get 14 hG dX12_both_6 f_X12_84 (by decide) rfl ?_
    rcases if_some h with ⟨c4, h⟩ | ⟨c4, h⟩
    · refine g_if_eq (tgt := 57) hG dX12_both_9 rfl (fun _ => ?_) (fun q => absurd c4 q)
      refine g_iload_n hG dX12_both_57 rfl ?_
      cases h
      exact K _ _ dX12_both_58
    · refine g_if_eq (tgt := 57) hG dX12_both_9 rfl (fun q => absurd q c4) (fun _ => ?_)
      refine g_aload_n hG dX12_both_12 rfl ?_
      refine g_aload_n hG dX12_both_13 rfl ?_
      refine r_get 8 hG dX12_both_14 f_X12_88 (by decide) rfl ?_
      obtain ⟨v5, σ6, q7, h⟩ := ob_some h
      refine g_cV hG dX12_both_17 (c_M_byteAt q7) b_X12_byteAt v_X12_91 rfl (k := 0) rfl rfl ⟨by dsimp only; omega, by dsimp only; omega⟩ ⟨rfl, rfl⟩ ⟨Nat.zero_le _, Nat.zero_le _⟩ _ rfl (Nat.le_of_ble_eq_true rfl) ?_
      refine g_bipushv hG dX12_both_20 kb_38 ?_
      rcases if_some h with ⟨c8, h⟩ | ⟨c8, h⟩
      · refine g_icmp_ne (tgt := 57) hG dX12_both_22 rfl (fun q => absurd c8 q) (fun _ => ?_)
        refine g_aload_n hG dX12_both_25 rfl ?_
        refine g_dup hG dX12_both_26 rfl ?_
        refine r_get 8 hG dX12_both_27 f_X12_88 (by decide) rfl ?_
        refine g_iconstv hG dX12_both_30 ki_1 ?_
        refine g_iadd hG dX12_both_31 ?_
        obtain ⟨σ9, e10, h⟩ := lt_ex h
        refine r_put 8 hG e10 dX12_both_32 f_X12_88 (by decide) rfl rfl rfl rfl ?_
        refine g_aload_n hG dX12_both_35 rfl ?_
        obtain ⟨v11, σ12, q13, h⟩ := ob_some h
        refine g_cV hG dX12_both_36 (c_M_compared hfac q13) b_X12_compared v_X12_131 rfl (k := 0) rfl rfl ⟨by dsimp only; omega, by dsimp only; omega⟩ ⟨rfl, rfl⟩ ⟨Nat.zero_le _, Nat.zero_le _⟩ _ rfl (Nat.le_of_ble_eq_true rfl) ?_
        refine g_istore_n hG dX12_both_39 (by decide) ?_
        refine g_iload_n hG dX12_both_40 rfl ?_
        refine g_dia1 (if x1 = 0 then (0 : Int32) else (if v11 = 0 then (0 : Int32) else (1 : Int32))) 53 (fun J14 => ?_) ?_
        · by_cases c15 : x1 = 0
          · refine g_if_eq (tgt := 52) hG dX12_both_41 rfl (fun _ => ?_) (fun q => absurd c15 q)
            refine g_iconstv hG dX12_both_52 ki_0 ?_
            rw [if_pos c15] at J14
            exact J14
          · refine g_if_eq (tgt := 52) hG dX12_both_41 rfl (fun q => absurd q c15) (fun _ => ?_)
            refine g_iload_n hG dX12_both_44 rfl ?_
            by_cases c16 : v11 = 0
            · refine g_if_eq (tgt := 52) hG dX12_both_45 rfl (fun _ => ?_) (fun q => absurd c16 q)
              refine g_iconstv hG dX12_both_52 ki_0 ?_
              rw [if_neg c15, if_pos c16] at J14
              exact J14
            · refine g_if_eq (tgt := 52) hG dX12_both_45 rfl (fun q => absurd q c16) (fun _ => ?_)
              refine g_iconstv hG dX12_both_48 ki_1 ?_
              refine g_goto (tgt := 53) hG dX12_both_49 rfl ?_
              rw [if_neg c15, if_neg c16] at J14
              exact J14
        obtain ⟨v17, e18, h⟩ := lt_ex h
        refine g_nam e18 ?_
        refine g_istore_n hG dX12_both_53 (by decide) ?_
        refine g_goto (tgt := 5) hG dX12_both_54 rfl ?_
        refine g_loc hG [(0, .ref (r 25)), (1, .int v17)] ⟨rfl, rfl, trivial⟩ ?_
        exact ih _ _ h
      · refine g_icmp_ne (tgt := 57) hG dX12_both_22 rfl (fun _ => ?_) (fun q => absurd q c8)
        refine g_iload_n hG dX12_both_57 rfl ?_
        cases h
        exact K _ _ dX12_both_58
def M_both (fac : RS → Option (Int32 × RS))  (σ : RS) : Option (Int32 × RS) := (ob (M_compared fac  σ) fun v1 σ2 => (M_both_b5 fac  FU v1 σ2))
set_option maxRecDepth 100000 in
set_option maxHeartbeats 4000000 in
theorem c_M_both {g : GP} {l : Launch} {r : Nat → Nat} {X : va_W} {v9 : Int32} {s9 : RS} {fac : RS → Option (Int32 × RS)} {F1 L1 : Nat} (hfac : ∀ (σ : RS) (v9 : Int32) (s9 : RS), fac σ = some (v9, s9) → CI g l yX12_factor cX12_factor 3 (some .int) { frames := F1, cells := 0, slots := 0, locals := L1 } [.ref (r 25)] (wR g r σ X) (fun r0 w => r0 = v9 ∧ w = wR g r s9 X)) {σ : RS} (h : M_both fac  σ = some (v9, s9)) : CI g l yX12_both cX12_both 3 (some .int) { frames := F1 + 4, cells := 0, slots := 0, locals := L1 + 92 } [.ref (r 25)] (wR g r σ X) (fun r0 w => r0 = v9 ∧ w = wR g r s9 X) := by
  refine CI.mk (by decide) (Nat.le_of_ble_eq_true rfl) (fun G hG hret => ?_)
  have K : ∀ L pc, decode cX12_both pc = .ok (.ireturn, 1) → G 0 0 (wR g r s9 X) L pc [.int v9] := fun L pc d => hret _ L pc v9 d rfl ⟨rfl, rfl⟩
  unfold M_both at h
  refine g_aload_n hG dX12_both_0 rfl ?_
  obtain ⟨v1, σ2, q3, h⟩ := ob_some h
  refine g_cV hG dX12_both_1 (c_M_compared hfac q3) b_X12_compared v_X12_131 rfl (k := 0) rfl rfl ⟨by dsimp only; omega, by dsimp only; omega⟩ ⟨rfl, rfl⟩ ⟨Nat.zero_le _, Nat.zero_le _⟩ _ rfl (Nat.le_of_ble_eq_true rfl) ?_
  refine g_istore_n hG dX12_both_4 (by decide) ?_
  refine g_loc hG [(0, .ref (r 25)), (1, .int v1)] ⟨rfl, rfl, trivial⟩ ?_
  exact s_M_both_b5 hfac hG K FU _ _ h
def M_whole_b5 (fac : RS → Option (Int32 × RS)) : Nat → Int32 → RS → Option (Int32 × RS)
  | 0, _, _ => none
  | n + 1, x1, σ => (if (σ.1 14) = 0 then (some (x1, σ)) else (ob (M_byteAt (σ.1 8) σ) fun v5 σ6 => (if v5 = (124 : Int32) then (lt (ri σ6 8 ((σ6.1 8) + (1 : Int32))) fun σ9 => (ob (M_both fac  σ9) fun v11 σ12 => (lt (if x1 = 0 then (if v11 = 0 then (0 : Int32) else (1 : Int32)) else (1 : Int32)) fun v17 => ((M_whole_b5 fac  n) v17 σ12)))) else (some (x1, σ6)))))
set_option maxRecDepth 100000 in
set_option maxHeartbeats 4000000 in
theorem s_M_whole_b5 {g : GP} {l : Launch} {r : Nat → Nat} {X : va_W} {G : GT} {v9 : Int32} {s9 : RS} {fac : RS → Option (Int32 × RS)} {F1 L1 : Nat} (hfac : ∀ (σ : RS) (v9 : Int32) (s9 : RS), fac σ = some (v9, s9) → CI g l yX12_factor cX12_factor 3 (some .int) { frames := F1, cells := 0, slots := 0, locals := L1 } [.ref (r 25)] (wR g r σ X) (fun r0 w => r0 = v9 ∧ w = wR g r s9 X)) (hG : IsG g l yX12_whole cX12_whole 3 { frames := F1 + 5, cells := 0, slots := 0, locals := L1 + 114 } G) (K : ∀ L pc, decode cX12_whole pc = .ok (.ireturn, 1) → G 0 0 (wR g r s9 X) L pc [.int v9]) : ∀ (n : Nat) (x1 : Int32) (σ : RS) (h : M_whole_b5 fac  n x1 σ = some (v9, s9)), G 0 0 (wR g r σ X) [(0, .ref (r 25)), (1, .int x1)] 5 [] := by
  intro n
  induction n with
  | zero => intro _ σ h; cases h
  | succ n ih =>
    intro x1 σ h
    unfold M_whole_b5 at h
    refine g_aload_n hG dX12_whole_5 rfl ?_
    refine r_get 14 hG dX12_whole_6 f_X12_84 (by decide) rfl ?_
    rcases if_some h with ⟨c4, h⟩ | ⟨c4, h⟩
    · refine g_if_eq (tgt := 57) hG dX12_whole_9 rfl (fun _ => ?_) (fun q => absurd c4 q)
      refine g_iload_n hG dX12_whole_57 rfl ?_
      cases h
      exact K _ _ dX12_whole_58
    · refine g_if_eq (tgt := 57) hG dX12_whole_9 rfl (fun q => absurd q c4) (fun _ => ?_)
      refine g_aload_n hG dX12_whole_12 rfl ?_
      refine g_aload_n hG dX12_whole_13 rfl ?_
      refine r_get 8 hG dX12_whole_14 f_X12_88 (by decide) rfl ?_
      obtain ⟨v5, σ6, q7, h⟩ := ob_some h
      refine g_cV hG dX12_whole_17 (c_M_byteAt q7) b_X12_byteAt v_X12_91 rfl (k := 0) rfl rfl ⟨by dsimp only; omega, by dsimp only; omega⟩ ⟨rfl, rfl⟩ ⟨Nat.zero_le _, Nat.zero_le _⟩ _ rfl (Nat.le_of_ble_eq_true rfl) ?_
      refine g_bipushv hG dX12_whole_20 kb_124 ?_
      rcases if_some h with ⟨c8, h⟩ | ⟨c8, h⟩
      · refine g_icmp_ne (tgt := 57) hG dX12_whole_22 rfl (fun q => absurd c8 q) (fun _ => ?_)
        refine g_aload_n hG dX12_whole_25 rfl ?_
        refine g_dup hG dX12_whole_26 rfl ?_
        refine r_get 8 hG dX12_whole_27 f_X12_88 (by decide) rfl ?_
        refine g_iconstv hG dX12_whole_30 ki_1 ?_
        refine g_iadd hG dX12_whole_31 ?_
        obtain ⟨σ9, e10, h⟩ := lt_ex h
        refine r_put 8 hG e10 dX12_whole_32 f_X12_88 (by decide) rfl rfl rfl rfl ?_
        refine g_aload_n hG dX12_whole_35 rfl ?_
        obtain ⟨v11, σ12, q13, h⟩ := ob_some h
        refine g_cV hG dX12_whole_36 (c_M_both hfac q13) b_X12_both v_X12_134 rfl (k := 0) rfl rfl ⟨by dsimp only; omega, by dsimp only; omega⟩ ⟨rfl, rfl⟩ ⟨Nat.zero_le _, Nat.zero_le _⟩ _ rfl (Nat.le_of_ble_eq_true rfl) ?_
        refine g_istore_n hG dX12_whole_39 (by decide) ?_
        refine g_iload_n hG dX12_whole_40 rfl ?_
        refine g_dia1 (if x1 = 0 then (if v11 = 0 then (0 : Int32) else (1 : Int32)) else (1 : Int32)) 53 (fun J14 => ?_) ?_
        · by_cases c15 : x1 = 0
          · refine g_if_ne (tgt := 48) hG dX12_whole_41 rfl (fun q => absurd c15 q) (fun _ => ?_)
            refine g_iload_n hG dX12_whole_44 rfl ?_
            by_cases c16 : v11 = 0
            · refine g_if_eq (tgt := 52) hG dX12_whole_45 rfl (fun _ => ?_) (fun q => absurd c16 q)
              refine g_iconstv hG dX12_whole_52 ki_0 ?_
              rw [if_pos c15, if_pos c16] at J14
              exact J14
            · refine g_if_eq (tgt := 52) hG dX12_whole_45 rfl (fun q => absurd q c16) (fun _ => ?_)
              refine g_iconstv hG dX12_whole_48 ki_1 ?_
              refine g_goto (tgt := 53) hG dX12_whole_49 rfl ?_
              rw [if_pos c15, if_neg c16] at J14
              exact J14
          · refine g_if_ne (tgt := 48) hG dX12_whole_41 rfl (fun _ => ?_) (fun q => absurd q c15)
            refine g_iconstv hG dX12_whole_48 ki_1 ?_
            refine g_goto (tgt := 53) hG dX12_whole_49 rfl ?_
            rw [if_neg c15] at J14
            exact J14
        obtain ⟨v17, e18, h⟩ := lt_ex h
        refine g_nam e18 ?_
        refine g_istore_n hG dX12_whole_53 (by decide) ?_
        refine g_goto (tgt := 5) hG dX12_whole_54 rfl ?_
        refine g_loc hG [(0, .ref (r 25)), (1, .int v17)] ⟨rfl, rfl, trivial⟩ ?_
        exact ih _ _ h
      · refine g_icmp_ne (tgt := 57) hG dX12_whole_22 rfl (fun _ => ?_) (fun q => absurd q c8)
        refine g_iload_n hG dX12_whole_57 rfl ?_
        cases h
        exact K _ _ dX12_whole_58
def M_whole (fac : RS → Option (Int32 × RS))  (σ : RS) : Option (Int32 × RS) := (ob (M_both fac  σ) fun v1 σ2 => (M_whole_b5 fac  FU v1 σ2))
set_option maxRecDepth 100000 in
set_option maxHeartbeats 4000000 in
theorem c_M_whole {g : GP} {l : Launch} {r : Nat → Nat} {X : va_W} {v9 : Int32} {s9 : RS} {fac : RS → Option (Int32 × RS)} {F1 L1 : Nat} (hfac : ∀ (σ : RS) (v9 : Int32) (s9 : RS), fac σ = some (v9, s9) → CI g l yX12_factor cX12_factor 3 (some .int) { frames := F1, cells := 0, slots := 0, locals := L1 } [.ref (r 25)] (wR g r σ X) (fun r0 w => r0 = v9 ∧ w = wR g r s9 X)) {σ : RS} (h : M_whole fac  σ = some (v9, s9)) : CI g l yX12_whole cX12_whole 3 (some .int) { frames := F1 + 5, cells := 0, slots := 0, locals := L1 + 114 } [.ref (r 25)] (wR g r σ X) (fun r0 w => r0 = v9 ∧ w = wR g r s9 X) := by
  refine CI.mk (by decide) (Nat.le_of_ble_eq_true rfl) (fun G hG hret => ?_)
  have K : ∀ L pc, decode cX12_whole pc = .ok (.ireturn, 1) → G 0 0 (wR g r s9 X) L pc [.int v9] := fun L pc d => hret _ L pc v9 d rfl ⟨rfl, rfl⟩
  unfold M_whole at h
  refine g_aload_n hG dX12_whole_0 rfl ?_
  obtain ⟨v1, σ2, q3, h⟩ := ob_some h
  refine g_cV hG dX12_whole_1 (c_M_both hfac q3) b_X12_both v_X12_134 rfl (k := 0) rfl rfl ⟨by dsimp only; omega, by dsimp only; omega⟩ ⟨rfl, rfl⟩ ⟨Nat.zero_le _, Nat.zero_le _⟩ _ rfl (Nat.le_of_ble_eq_true rfl) ?_
  refine g_istore_n hG dX12_whole_4 (by decide) ?_
  refine g_loc hG [(0, .ref (r 25)), (1, .int v1)] ⟨rfl, rfl, trivial⟩ ?_
  exact s_M_whole_b5 hfac hG K FU _ _ h
def M_factorB_b89 (fac : RS → Option (Int32 × RS)) (x1 : Int32) (s0 : Int32) (σ : RS) : Option (Int32 × RS) := (lt (ri σ 10 ((σ.1 10) - (1 : Int32))) fun σ21 => (if x1 = (33 : Int32) then (some ((if s0 = 0 then (1 : Int32) else (0 : Int32)), σ21)) else (if (σ21.1 14) = 0 then (ob (M_fails  σ21) fun v27 σ28 => (some (v27, σ28))) else (ob (M_byteAt (σ21.1 8) σ21) fun v30 σ31 => (if v30 = (41 : Int32) then (lt (ri σ31 8 ((σ31.1 8) + (1 : Int32))) fun σ34 => (some (s0, σ34))) else (ob (M_fails  σ31) fun v36 σ37 => (some (v36, σ37))))))))
set_option maxRecDepth 100000 in
set_option maxHeartbeats 4000000 in
theorem s_M_factorB_b89 {g : GP} {l : Launch} {r : Nat → Nat} {X : va_W} {G : GT} {v9 : Int32} {s9 : RS} {fac : RS → Option (Int32 × RS)} {F1 L1 : Nat} (hfac : ∀ (σ : RS) (v9 : Int32) (s9 : RS), fac σ = some (v9, s9) → CI g l yX12_factor cX12_factor 3 (some .int) { frames := F1, cells := 0, slots := 0, locals := L1 } [.ref (r 25)] (wR g r σ X) (fun r0 w => r0 = v9 ∧ w = wR g r s9 X)) (hG : IsG g l yX12_factor cX12_factor 3 { frames := F1 + 6, cells := 0, slots := 0, locals := L1 + 136 } G) (K : ∀ L pc, decode cX12_factor pc = .ok (.ireturn, 1) → G 0 0 (wR g r s9 X) L pc [.int v9]) {x1 : Int32} {s0 : Int32} {σ : RS} (h : M_factorB_b89 fac  x1 s0 σ = some (v9, s9)) : G 0 0 (wR g r σ X) [(0, .ref (r 25)), (1, .int x1)] 89 [.int s0] := by
  unfold M_factorB_b89 at h
  refine g_istore_n hG dX12_factor_89 (by decide) ?_
  refine g_aload_n hG dX12_factor_90 rfl ?_
  refine g_dup hG dX12_factor_91 rfl ?_
  refine r_get 10 hG dX12_factor_92 f_X12_116 (by decide) rfl ?_
  refine g_iconstv hG dX12_factor_95 ki_1 ?_
  refine g_isub hG dX12_factor_96 ?_
  obtain ⟨σ21, e22, h⟩ := lt_ex h
  refine r_put 10 hG e22 dX12_factor_97 f_X12_116 (by decide) rfl rfl rfl rfl ?_
  refine g_iload_n hG dX12_factor_100 rfl ?_
  refine g_bipushv hG dX12_factor_101 kb_33 ?_
  rcases if_some h with ⟨c23, h⟩ | ⟨c23, h⟩
  · refine g_icmp_ne (tgt := 116) hG dX12_factor_103 rfl (fun q => absurd c23 q) (fun _ => ?_)
    refine g_iload_n hG dX12_factor_106 rfl ?_
    refine g_dia1 (if s0 = 0 then (1 : Int32) else (0 : Int32)) 115 (fun J24 => ?_) ?_
    · by_cases c25 : s0 = 0
      · refine g_if_ne (tgt := 114) hG dX12_factor_107 rfl (fun q => absurd c25 q) (fun _ => ?_)
        refine g_iconstv hG dX12_factor_110 ki_1 ?_
        refine g_goto (tgt := 115) hG dX12_factor_111 rfl ?_
        rw [if_pos c25] at J24
        exact J24
      · refine g_if_ne (tgt := 114) hG dX12_factor_107 rfl (fun _ => ?_) (fun q => absurd q c25)
        refine g_iconstv hG dX12_factor_114 ki_0 ?_
        rw [if_neg c25] at J24
        exact J24
    cases h
    exact K _ _ dX12_factor_115
  · refine g_icmp_ne (tgt := 116) hG dX12_factor_103 rfl (fun _ => ?_) (fun q => absurd q c23)
    refine g_aload_n hG dX12_factor_116 rfl ?_
    refine r_get 14 hG dX12_factor_117 f_X12_84 (by decide) rfl ?_
    rcases if_some h with ⟨c26, h⟩ | ⟨c26, h⟩
    · refine g_if_eq (tgt := 148) hG dX12_factor_120 rfl (fun _ => ?_) (fun q => absurd c26 q)
      refine g_aload_n hG dX12_factor_148 rfl ?_
      obtain ⟨v27, σ28, q29, h⟩ := ob_some h
      refine g_cV hG dX12_factor_149 (c_M_fails q29) b_X12_fails v_X12_97 rfl (k := 0) rfl rfl ⟨by dsimp only; omega, by dsimp only; omega⟩ ⟨rfl, rfl⟩ ⟨Nat.zero_le _, Nat.zero_le _⟩ _ rfl (Nat.le_of_ble_eq_true rfl) ?_
      cases h
      exact K _ _ dX12_factor_152
    · refine g_if_eq (tgt := 148) hG dX12_factor_120 rfl (fun q => absurd q c26) (fun _ => ?_)
      refine g_aload_n hG dX12_factor_123 rfl ?_
      refine g_aload_n hG dX12_factor_124 rfl ?_
      refine r_get 8 hG dX12_factor_125 f_X12_88 (by decide) rfl ?_
      obtain ⟨v30, σ31, q32, h⟩ := ob_some h
      refine g_cV hG dX12_factor_128 (c_M_byteAt q32) b_X12_byteAt v_X12_91 rfl (k := 0) rfl rfl ⟨by dsimp only; omega, by dsimp only; omega⟩ ⟨rfl, rfl⟩ ⟨Nat.zero_le _, Nat.zero_le _⟩ _ rfl (Nat.le_of_ble_eq_true rfl) ?_
      refine g_bipushv hG dX12_factor_131 kb_41 ?_
      rcases if_some h with ⟨c33, h⟩ | ⟨c33, h⟩
      · refine g_icmp_ne (tgt := 148) hG dX12_factor_133 rfl (fun q => absurd c33 q) (fun _ => ?_)
        refine g_aload_n hG dX12_factor_136 rfl ?_
        refine g_dup hG dX12_factor_137 rfl ?_
        refine r_get 8 hG dX12_factor_138 f_X12_88 (by decide) rfl ?_
        refine g_iconstv hG dX12_factor_141 ki_1 ?_
        refine g_iadd hG dX12_factor_142 ?_
        obtain ⟨σ34, e35, h⟩ := lt_ex h
        refine r_put 8 hG e35 dX12_factor_143 f_X12_88 (by decide) rfl rfl rfl rfl ?_
        refine g_iload_n hG dX12_factor_146 rfl ?_
        cases h
        exact K _ _ dX12_factor_147
      · refine g_icmp_ne (tgt := 148) hG dX12_factor_133 rfl (fun _ => ?_) (fun q => absurd q c33)
        refine g_aload_n hG dX12_factor_148 rfl ?_
        obtain ⟨v36, σ37, q38, h⟩ := ob_some h
        refine g_cV hG dX12_factor_149 (c_M_fails q38) b_X12_fails v_X12_97 rfl (k := 0) rfl rfl ⟨by dsimp only; omega, by dsimp only; omega⟩ ⟨rfl, rfl⟩ ⟨Nat.zero_le _, Nat.zero_le _⟩ _ rfl (Nat.le_of_ble_eq_true rfl) ?_
        cases h
        exact K _ _ dX12_factor_152
def M_factorB_b39 (fac : RS → Option (Int32 × RS)) (x1 : Int32) (σ : RS) : Option (Int32 × RS) := (if (σ.1 10) = (5 : Int32) then (ob (M_fails  σ) fun v10 σ11 => (some (v10, σ11))) else (lt (ri σ 10 ((σ.1 10) + (1 : Int32))) fun σ13 => (lt (ri σ13 8 ((σ13.1 8) + (1 : Int32))) fun σ15 => (if x1 = (33 : Int32) then (ob (fac  σ15) fun v18 σ19 => (M_factorB_b89 fac  x1 v18 σ19)) else (ob (M_whole fac  σ15) fun v39 σ40 => (M_factorB_b89 fac  x1 v39 σ40))))))
set_option maxRecDepth 100000 in
set_option maxHeartbeats 4000000 in
theorem s_M_factorB_b39 {g : GP} {l : Launch} {r : Nat → Nat} {X : va_W} {G : GT} {v9 : Int32} {s9 : RS} {fac : RS → Option (Int32 × RS)} {F1 L1 : Nat} (hfac : ∀ (σ : RS) (v9 : Int32) (s9 : RS), fac σ = some (v9, s9) → CI g l yX12_factor cX12_factor 3 (some .int) { frames := F1, cells := 0, slots := 0, locals := L1 } [.ref (r 25)] (wR g r σ X) (fun r0 w => r0 = v9 ∧ w = wR g r s9 X)) (hG : IsG g l yX12_factor cX12_factor 3 { frames := F1 + 6, cells := 0, slots := 0, locals := L1 + 136 } G) (K : ∀ L pc, decode cX12_factor pc = .ok (.ireturn, 1) → G 0 0 (wR g r s9 X) L pc [.int v9]) {x1 : Int32} {σ : RS} (h : M_factorB_b39 fac  x1 σ = some (v9, s9)) : G 0 0 (wR g r σ X) [(0, .ref (r 25)), (1, .int x1)] 39 [] := by
  unfold M_factorB_b39 at h
  refine g_aload_n hG dX12_factor_39 rfl ?_
  refine r_get 10 hG dX12_factor_40 f_X12_116 (by decide) rfl ?_
  refine g_iconstv hG dX12_factor_43 ki_5 ?_
  rcases if_some h with ⟨c9, h⟩ | ⟨c9, h⟩
  · refine g_icmp_ne (tgt := 52) hG dX12_factor_44 rfl (fun q => absurd c9 q) (fun _ => ?_)
    refine g_aload_n hG dX12_factor_47 rfl ?_
    obtain ⟨v10, σ11, q12, h⟩ := ob_some h
    refine g_cV hG dX12_factor_48 (c_M_fails q12) b_X12_fails v_X12_97 rfl (k := 0) rfl rfl ⟨by dsimp only; omega, by dsimp only; omega⟩ ⟨rfl, rfl⟩ ⟨Nat.zero_le _, Nat.zero_le _⟩ _ rfl (Nat.le_of_ble_eq_true rfl) ?_
    cases h
    exact K _ _ dX12_factor_51
  · refine g_icmp_ne (tgt := 52) hG dX12_factor_44 rfl (fun _ => ?_) (fun q => absurd q c9)
    refine g_aload_n hG dX12_factor_52 rfl ?_
    refine g_dup hG dX12_factor_53 rfl ?_
    refine r_get 10 hG dX12_factor_54 f_X12_116 (by decide) rfl ?_
    refine g_iconstv hG dX12_factor_57 ki_1 ?_
    refine g_iadd hG dX12_factor_58 ?_
    obtain ⟨σ13, e14, h⟩ := lt_ex h
    refine r_put 10 hG e14 dX12_factor_59 f_X12_116 (by decide) rfl rfl rfl rfl ?_
    refine g_aload_n hG dX12_factor_62 rfl ?_
    refine g_dup hG dX12_factor_63 rfl ?_
    refine r_get 8 hG dX12_factor_64 f_X12_88 (by decide) rfl ?_
    refine g_iconstv hG dX12_factor_67 ki_1 ?_
    refine g_iadd hG dX12_factor_68 ?_
    obtain ⟨σ15, e16, h⟩ := lt_ex h
    refine r_put 8 hG e16 dX12_factor_69 f_X12_88 (by decide) rfl rfl rfl rfl ?_
    refine g_iload_n hG dX12_factor_72 rfl ?_
    refine g_bipushv hG dX12_factor_73 kb_33 ?_
    rcases if_some h with ⟨c17, h⟩ | ⟨c17, h⟩
    · refine g_icmp_ne (tgt := 85) hG dX12_factor_75 rfl (fun q => absurd c17 q) (fun _ => ?_)
      refine g_aload_n hG dX12_factor_78 rfl ?_
      obtain ⟨v18, σ19, q20, h⟩ := ob_some h
      refine g_cV hG dX12_factor_79 (hfac _ _ _ q20) b_X12_factor v_X12_119 rfl (k := 0) rfl rfl ⟨by dsimp only; omega, by dsimp only; omega⟩ ⟨rfl, rfl⟩ ⟨Nat.zero_le _, Nat.zero_le _⟩ _ rfl (Nat.le_of_ble_eq_true rfl) ?_
      refine g_goto (tgt := 89) hG dX12_factor_82 rfl ?_
      refine g_loc hG [(0, .ref (r 25)), (1, .int x1)] ⟨rfl, rfl, trivial⟩ ?_
      exact s_M_factorB_b89 hfac hG K  h
    · refine g_icmp_ne (tgt := 85) hG dX12_factor_75 rfl (fun _ => ?_) (fun q => absurd q c17)
      refine g_aload_n hG dX12_factor_85 rfl ?_
      obtain ⟨v39, σ40, q41, h⟩ := ob_some h
      refine g_cV hG dX12_factor_86 (c_M_whole hfac q41) b_X12_whole v_X12_122 rfl (k := 0) rfl rfl ⟨by dsimp only; omega, by dsimp only; omega⟩ ⟨rfl, rfl⟩ ⟨Nat.zero_le _, Nat.zero_le _⟩ _ rfl (Nat.le_of_ble_eq_true rfl) ?_
      refine g_loc hG [(0, .ref (r 25)), (1, .int x1)] ⟨rfl, rfl, trivial⟩ ?_
      exact s_M_factorB_b89 hfac hG K  h
def M_factorB (fac : RS → Option (Int32 × RS))  (σ : RS) : Option (Int32 × RS) := (ob (M_byteAt (σ.1 8) σ) fun v1 σ2 => (ob (M_isDigit v1 σ2) fun v4 σ5 => (if v4 = 0 then (if v1 = (33 : Int32) then (M_factorB_b39 fac  v1 σ5) else (if v1 = (40 : Int32) then (M_factorB_b39 fac  v1 σ5) else (ob (M_named v1 σ5) fun v43 σ44 => (some (v43, σ44))))) else (ob (M_number  σ5) fun v46 σ47 => (some (v46, σ47))))))
set_option maxRecDepth 100000 in
set_option maxHeartbeats 4000000 in
theorem c_M_factorB {g : GP} {l : Launch} {r : Nat → Nat} {X : va_W} {v9 : Int32} {s9 : RS} {fac : RS → Option (Int32 × RS)} {F1 L1 : Nat} (hfac : ∀ (σ : RS) (v9 : Int32) (s9 : RS), fac σ = some (v9, s9) → CI g l yX12_factor cX12_factor 3 (some .int) { frames := F1, cells := 0, slots := 0, locals := L1 } [.ref (r 25)] (wR g r σ X) (fun r0 w => r0 = v9 ∧ w = wR g r s9 X)) {σ : RS} (h : M_factorB fac  σ = some (v9, s9)) : CI g l yX12_factor cX12_factor 3 (some .int) { frames := F1 + 6, cells := 0, slots := 0, locals := L1 + 136 } [.ref (r 25)] (wR g r σ X) (fun r0 w => r0 = v9 ∧ w = wR g r s9 X) := by
  refine CI.mk (by decide) (Nat.le_of_ble_eq_true rfl) (fun G hG hret => ?_)
  have K : ∀ L pc, decode cX12_factor pc = .ok (.ireturn, 1) → G 0 0 (wR g r s9 X) L pc [.int v9] := fun L pc d => hret _ L pc v9 d rfl ⟨rfl, rfl⟩
  unfold M_factorB at h
  refine g_aload_n hG dX12_factor_0 rfl ?_
  refine g_aload_n hG dX12_factor_1 rfl ?_
  refine r_get 8 hG dX12_factor_2 f_X12_88 (by decide) rfl ?_
  obtain ⟨v1, σ2, q3, h⟩ := ob_some h
  refine g_cV hG dX12_factor_5 (c_M_byteAt q3) b_X12_byteAt v_X12_91 rfl (k := 0) rfl rfl ⟨by dsimp only; omega, by dsimp only; omega⟩ ⟨rfl, rfl⟩ ⟨Nat.zero_le _, Nat.zero_le _⟩ _ rfl (Nat.le_of_ble_eq_true rfl) ?_
  refine g_istore_n hG dX12_factor_8 (by decide) ?_
  refine g_iload_n hG dX12_factor_9 rfl ?_
  obtain ⟨v4, σ5, q6, h⟩ := ob_some h
  refine g_cS hG dX12_factor_10 (c_M_isDigit q6) b_X12_isDigit v_X12_94 rfl ⟨by dsimp only; omega, by dsimp only; omega⟩ ⟨rfl, rfl⟩ ⟨Nat.zero_le _, Nat.zero_le _⟩ _ rfl (Nat.le_of_ble_eq_true rfl) ?_
  rcases if_some h with ⟨c7, h⟩ | ⟨c7, h⟩
  · refine g_if_eq (tgt := 21) hG dX12_factor_13 rfl (fun _ => ?_) (fun q => absurd c7 q)
    refine g_iload_n hG dX12_factor_21 rfl ?_
    refine g_bipushv hG dX12_factor_22 kb_33 ?_
    rcases if_some h with ⟨c8, h⟩ | ⟨c8, h⟩
    · refine g_icmp_eq (tgt := 39) hG dX12_factor_24 rfl (fun _ => ?_) (fun q => absurd c8 q)
      refine g_loc hG [(0, .ref (r 25)), (1, .int v1)] ⟨rfl, rfl, trivial⟩ ?_
      exact s_M_factorB_b39 hfac hG K  h
    · refine g_icmp_eq (tgt := 39) hG dX12_factor_24 rfl (fun q => absurd q c8) (fun _ => ?_)
      refine g_iload_n hG dX12_factor_27 rfl ?_
      refine g_bipushv hG dX12_factor_28 kb_40 ?_
      rcases if_some h with ⟨c42, h⟩ | ⟨c42, h⟩
      · refine g_icmp_eq (tgt := 39) hG dX12_factor_30 rfl (fun _ => ?_) (fun q => absurd c42 q)
        refine g_loc hG [(0, .ref (r 25)), (1, .int v1)] ⟨rfl, rfl, trivial⟩ ?_
        exact s_M_factorB_b39 hfac hG K  h
      · refine g_icmp_eq (tgt := 39) hG dX12_factor_30 rfl (fun q => absurd q c42) (fun _ => ?_)
        refine g_aload_n hG dX12_factor_33 rfl ?_
        refine g_iload_n hG dX12_factor_34 rfl ?_
        obtain ⟨v43, σ44, q45, h⟩ := ob_some h
        refine g_cV hG dX12_factor_35 (c_M_named q45) b_X12_named v_X12_113 rfl (k := 0) rfl rfl ⟨by dsimp only; omega, by dsimp only; omega⟩ ⟨rfl, rfl⟩ ⟨Nat.zero_le _, Nat.zero_le _⟩ _ rfl (Nat.le_of_ble_eq_true rfl) ?_
        cases h
        exact K _ _ dX12_factor_38
  · refine g_if_eq (tgt := 21) hG dX12_factor_13 rfl (fun q => absurd q c7) (fun _ => ?_)
    refine g_aload_n hG dX12_factor_16 rfl ?_
    obtain ⟨v46, σ47, q48, h⟩ := ob_some h
    refine g_cV hG dX12_factor_17 (c_M_number q48) b_X12_number v_X12_110 rfl (k := 0) rfl rfl ⟨by dsimp only; omega, by dsimp only; omega⟩ ⟨rfl, rfl⟩ ⟨Nat.zero_le _, Nat.zero_le _⟩ _ rfl (Nat.le_of_ble_eq_true rfl) ?_
    cases h
    exact K _ _ dX12_factor_20
def M_factor : Nat → RS → Option (Int32 × RS)
  | 0, _ => none
  | d + 1, σ => M_factorB (M_factor d) σ
theorem c_M_factor {g : GP} {l : Launch} {r : Nat → Nat} {X : va_W} : ∀ (d : Nat) (σ : RS) (v9 : Int32) (s9 : RS), M_factor d σ = some (v9, s9) → CI g l yX12_factor cX12_factor 3 (some .int) { frames := 6 * d, cells := 0, slots := 0, locals := 136 * d } [.ref (r 25)] (wR g r σ X) (fun r0 w => r0 = v9 ∧ w = wR g r s9 X)
  | 0, _, _, _, h => by cases h
  | d + 1, σ, v9, s9, h => c_M_factorB (c_M_factor d) h
def M_walks (x1 : Int32) (x2 : Int32) (x3 : Int32) (x4 : Int32) (σ : RS) : Option (Int32 × RS) := (lt (ri σ 7 x1) fun σ1 => (lt (ri σ1 8 (0 : Int32)) fun σ3 => (gd (inb ((5 : Int32) + x1) 240) (lt (ri σ3 9 (σ3.2 0 (ix ((5 : Int32) + x1)))) fun σ6 => (lt (ri σ6 10 (0 : Int32)) fun σ8 => (lt (ri σ8 14 (1 : Int32)) fun σ10 => (lt (ri σ10 11 x2) fun σ12 => (lt (ri σ12 12 x3) fun σ14 => (lt (ri σ14 13 x4) fun σ16 => (ob (M_whole (M_factor 8)  σ16) fun v18 σ19 => (if (σ19.1 14) = 0 then (lt (ri σ19 14 (0 : Int32)) fun σ22 => (some (v18, σ22))) else (lt (ri σ19 14 (if (σ19.1 8) = (σ19.1 9) then (1 : Int32) else (0 : Int32))) fun σ26 => (some (v18, σ26))))))))))))))
set_option maxRecDepth 100000 in
set_option maxHeartbeats 4000000 in
theorem c_M_walks {g : GP} {l : Launch} {r : Nat → Nat} {X : va_W} {v9 : Int32} {s9 : RS} {x1 : Int32} {x2 : Int32} {x3 : Int32} {x4 : Int32} {σ : RS} (h : M_walks x1 x2 x3 x4 σ = some (v9, s9)) : CI g l yX12_walks cX12_walks 6 (some .int) { frames := 54, cells := 0, slots := 0, locals := 1224 } [.ref (r 25), .int x1, .int x2, .int x3, .int x4] (wR g r σ X) (fun r0 w => r0 = v9 ∧ w = wR g r s9 X) := by
  refine CI.mk (by decide) (Nat.le_of_ble_eq_true rfl) (fun G hG hret => ?_)
  have K : ∀ L pc, decode cX12_walks pc = .ok (.ireturn, 1) → G 0 0 (wR g r s9 X) L pc [.int v9] := fun L pc d => hret _ L pc v9 d rfl ⟨rfl, rfl⟩
  unfold M_walks at h
  refine g_aload_n hG dX12_walks_0 rfl ?_
  refine g_iload_n hG dX12_walks_1 rfl ?_
  obtain ⟨σ1, e2, h⟩ := lt_ex h
  refine r_put 7 hG e2 dX12_walks_2 f_X12_81 (by decide) rfl rfl rfl rfl ?_
  refine g_aload_n hG dX12_walks_5 rfl ?_
  refine g_iconstv hG dX12_walks_6 ki_0 ?_
  obtain ⟨σ3, e4, h⟩ := lt_ex h
  refine r_put 8 hG e4 dX12_walks_7 f_X12_88 (by decide) rfl rfl rfl rfl ?_
  refine g_aload_n hG dX12_walks_10 rfl ?_
  refine g_aload_n hG dX12_walks_11 rfl ?_
  refine r_get 0 hG dX12_walks_12 f_X12_7 (by decide) rfl ?_
  refine g_iconstv hG dX12_walks_15 ki_5 ?_
  refine g_iload_n hG dX12_walks_16 rfl ?_
  refine g_iadd hG dX12_walks_17 ?_
  obtain ⟨b5, h⟩ := gd_some h
  refine r_iald 1 0 240 hG dX12_walks_18 rfl b5 rfl ?_
  obtain ⟨σ6, e7, h⟩ := lt_ex h
  refine r_put 9 hG e7 dX12_walks_19 f_X12_77 (by decide) rfl rfl rfl rfl ?_
  refine g_aload_n hG dX12_walks_22 rfl ?_
  refine g_iconstv hG dX12_walks_23 ki_0 ?_
  obtain ⟨σ8, e9, h⟩ := lt_ex h
  refine r_put 10 hG e9 dX12_walks_24 f_X12_116 (by decide) rfl rfl rfl rfl ?_
  refine g_aload_n hG dX12_walks_27 rfl ?_
  refine g_iconstv hG dX12_walks_28 ki_1 ?_
  obtain ⟨σ10, e11, h⟩ := lt_ex h
  refine r_put 14 hG e11 dX12_walks_29 f_X12_84 (by decide) rfl (isb_n (by decide)) (isb_f (by decide)) rfl ?_
  refine g_aload_n hG dX12_walks_32 rfl ?_
  refine g_iload_n hG dX12_walks_33 rfl ?_
  obtain ⟨σ12, e13, h⟩ := lt_ex h
  refine r_put 11 hG e13 dX12_walks_34 f_X12_101 (by decide) rfl rfl rfl rfl ?_
  refine g_aload_n hG dX12_walks_37 rfl ?_
  refine g_iload_n hG dX12_walks_38 rfl ?_
  obtain ⟨σ14, e15, h⟩ := lt_ex h
  refine r_put 12 hG e15 dX12_walks_39 f_X12_104 (by decide) rfl rfl rfl rfl ?_
  refine g_aload_n hG dX12_walks_42 rfl ?_
  refine g_iload hG dX12_walks_43 rfl ?_
  obtain ⟨σ16, e17, h⟩ := lt_ex h
  refine r_put 13 hG e17 dX12_walks_45 f_X12_107 (by decide) rfl rfl rfl rfl ?_
  refine g_aload_n hG dX12_walks_48 rfl ?_
  obtain ⟨v18, σ19, q20, h⟩ := ob_some h
  refine g_cV hG dX12_walks_49 (c_M_whole (c_M_factor 8) q20) b_X12_whole v_X12_122 rfl (k := 0) rfl rfl ⟨Nat.le_of_ble_eq_true rfl, Nat.le_of_ble_eq_true rfl⟩ ⟨rfl, rfl⟩ ⟨Nat.zero_le _, Nat.zero_le _⟩ _ rfl (Nat.le_of_ble_eq_true rfl) ?_
  refine g_istore hG dX12_walks_52 (by decide) ?_
  refine g_aload_n hG dX12_walks_54 rfl ?_
  refine g_aload_n hG dX12_walks_55 rfl ?_
  refine r_get 14 hG dX12_walks_56 f_X12_84 (by decide) rfl ?_
  rcases if_some h with ⟨c21, h⟩ | ⟨c21, h⟩
  · refine g_if_eq (tgt := 77) hG dX12_walks_59 rfl (fun _ => ?_) (fun q => absurd c21 q)
    refine g_iconstv hG dX12_walks_77 ki_0 ?_
    obtain ⟨σ22, e23, h⟩ := lt_ex h
    refine r_put 14 hG e23 dX12_walks_78 f_X12_84 (by decide) rfl (isb_n (by decide)) (isb_f (by decide)) rfl ?_
    refine g_iload hG dX12_walks_81 rfl ?_
    cases h
    exact K _ _ dX12_walks_83
  · refine g_if_eq (tgt := 77) hG dX12_walks_59 rfl (fun q => absurd q c21) (fun _ => ?_)
    refine g_aload_n hG dX12_walks_62 rfl ?_
    refine r_get 8 hG dX12_walks_63 f_X12_88 (by decide) rfl ?_
    refine g_aload_n hG dX12_walks_66 rfl ?_
    refine r_get 9 hG dX12_walks_67 f_X12_77 (by decide) rfl ?_
    refine g_dia2 (if (σ19.1 8) = (σ19.1 9) then (1 : Int32) else (0 : Int32)) 78 (fun J24 => ?_) ?_
    · by_cases c25 : (σ19.1 8) = (σ19.1 9)
      · refine g_icmp_ne (tgt := 77) hG dX12_walks_70 rfl (fun q => absurd c25 q) (fun _ => ?_)
        refine g_iconstv hG dX12_walks_73 ki_1 ?_
        refine g_goto (tgt := 78) hG dX12_walks_74 rfl ?_
        rw [if_pos c25] at J24
        exact J24
      · refine g_icmp_ne (tgt := 77) hG dX12_walks_70 rfl (fun _ => ?_) (fun q => absurd q c25)
        refine g_iconstv hG dX12_walks_77 ki_0 ?_
        rw [if_neg c25] at J24
        exact J24
    obtain ⟨σ26, e27, h⟩ := lt_ex h
    refine r_put 14 hG e27 dX12_walks_78 f_X12_84 (by decide) rfl (isb_n (isb_ite (by decide) (by decide))) (isb_f (isb_ite (by decide) (by decide))) rfl ?_
    refine g_iload hG dX12_walks_81 rfl ?_
    cases h
    exact K _ _ dX12_walks_83
def M_lawOf (x1 : Int32) (x2 : Int32) (x3 : Int32) (x4 : Int32) (σ : RS) : Option (Int32 × RS) := (lt (if x1 = 0 then (99 : Int32) else (1 : Int32)) fun v3 => (gd (inb ((5 : Int32) + x1) 240) (if (σ.2 0 (ix ((5 : Int32) + x1))) < 0 then (some ((if x1 = 0 then (3 : Int32) else (if x2 = 0 then (if x3 = (1 : Int32) then (1 : Int32) else (if x2 = (1 : Int32) then (if x3 = (4 : Int32) then (1 : Int32) else (0 : Int32)) else (0 : Int32))) else (if x2 = (1 : Int32) then (if x3 = (4 : Int32) then (1 : Int32) else (0 : Int32)) else (0 : Int32)))), σ)) else (ob (M_walks x1 x2 x3 x4 σ) fun v15 σ16 => (ob (M_held v15 (0 : Int32) v3 σ16) fun v18 σ19 => (some (v18, σ19)))))))
set_option maxRecDepth 100000 in
set_option maxHeartbeats 4000000 in
theorem c_M_lawOf {g : GP} {l : Launch} {r : Nat → Nat} {X : va_W} {v9 : Int32} {s9 : RS} {x1 : Int32} {x2 : Int32} {x3 : Int32} {x4 : Int32} {σ : RS} (h : M_lawOf x1 x2 x3 x4 σ = some (v9, s9)) : CI g l yX12_lawOf cX12_lawOf 6 (some .int) { frames := 55, cells := 0, slots := 0, locals := 1249 } [.ref (r 25), .int x1, .int x2, .int x3, .int x4] (wR g r σ X) (fun r0 w => r0 = v9 ∧ w = wR g r s9 X) := by
  refine CI.mk (by decide) (Nat.le_of_ble_eq_true rfl) (fun G hG hret => ?_)
  have K : ∀ L pc, decode cX12_lawOf pc = .ok (.ireturn, 1) → G 0 0 (wR g r s9 X) L pc [.int v9] := fun L pc d => hret _ L pc v9 d rfl ⟨rfl, rfl⟩
  unfold M_lawOf at h
  refine g_iload_n hG dX12_lawOf_0 rfl ?_
  refine g_dia1 (if x1 = 0 then (99 : Int32) else (1 : Int32)) 10 (fun J1 => ?_) ?_
  · by_cases c2 : x1 = 0
    · refine g_if_ne (tgt := 9) hG dX12_lawOf_1 rfl (fun q => absurd c2 q) (fun _ => ?_)
      refine g_bipushv hG dX12_lawOf_4 kb_99 ?_
      refine g_goto (tgt := 10) hG dX12_lawOf_6 rfl ?_
      rw [if_pos c2] at J1
      exact J1
    · refine g_if_ne (tgt := 9) hG dX12_lawOf_1 rfl (fun _ => ?_) (fun q => absurd q c2)
      refine g_iconstv hG dX12_lawOf_9 ki_1 ?_
      rw [if_neg c2] at J1
      exact J1
  obtain ⟨v3, e4, h⟩ := lt_ex h
  refine g_nam e4 ?_
  refine g_istore hG dX12_lawOf_10 (by decide) ?_
  refine g_aload_n hG dX12_lawOf_12 rfl ?_
  refine r_get 0 hG dX12_lawOf_13 f_X12_7 (by decide) rfl ?_
  refine g_iconstv hG dX12_lawOf_16 ki_5 ?_
  refine g_iload_n hG dX12_lawOf_17 rfl ?_
  refine g_iadd hG dX12_lawOf_18 ?_
  obtain ⟨b5, h⟩ := gd_some h
  refine r_iald 1 0 240 hG dX12_lawOf_19 rfl b5 rfl ?_
  rcases if_some h with ⟨c6, h⟩ | ⟨c6, h⟩
  · refine g_if_lt (tgt := 39) hG dX12_lawOf_20 rfl (fun _ => ?_) (fun q => absurd c6 q)
    refine g_iload_n hG dX12_lawOf_39 rfl ?_
    refine g_dia1 (if x1 = 0 then (3 : Int32) else (if x2 = 0 then (if x3 = (1 : Int32) then (1 : Int32) else (if x2 = (1 : Int32) then (if x3 = (4 : Int32) then (1 : Int32) else (0 : Int32)) else (0 : Int32))) else (if x2 = (1 : Int32) then (if x3 = (4 : Int32) then (1 : Int32) else (0 : Int32)) else (0 : Int32)))) 71 (fun J7 => ?_) ?_
    · by_cases c8 : x1 = 0
      · refine g_if_ne (tgt := 47) hG dX12_lawOf_40 rfl (fun q => absurd c8 q) (fun _ => ?_)
        refine g_iconstv hG dX12_lawOf_43 ki_3 ?_
        refine g_goto (tgt := 71) hG dX12_lawOf_44 rfl ?_
        rw [if_pos c8] at J7
        exact J7
      · refine g_if_ne (tgt := 47) hG dX12_lawOf_40 rfl (fun _ => ?_) (fun q => absurd q c8)
        refine g_iload_n hG dX12_lawOf_47 rfl ?_
        by_cases c9 : x2 = 0
        · refine g_if_ne (tgt := 56) hG dX12_lawOf_48 rfl (fun q => absurd c9 q) (fun _ => ?_)
          refine g_iload_n hG dX12_lawOf_51 rfl ?_
          refine g_iconstv hG dX12_lawOf_52 ki_1 ?_
          by_cases c10 : x3 = (1 : Int32)
          · refine g_icmp_eq (tgt := 66) hG dX12_lawOf_53 rfl (fun _ => ?_) (fun q => absurd c10 q)
            refine g_iconstv hG dX12_lawOf_66 ki_1 ?_
            refine g_goto (tgt := 71) hG dX12_lawOf_67 rfl ?_
            rw [if_neg c8, if_pos c9, if_pos c10] at J7
            exact J7
          · refine g_icmp_eq (tgt := 66) hG dX12_lawOf_53 rfl (fun q => absurd q c10) (fun _ => ?_)
            refine g_iload_n hG dX12_lawOf_56 rfl ?_
            refine g_iconstv hG dX12_lawOf_57 ki_1 ?_
            by_cases c11 : x2 = (1 : Int32)
            · refine g_icmp_ne (tgt := 70) hG dX12_lawOf_58 rfl (fun q => absurd c11 q) (fun _ => ?_)
              refine g_iload_n hG dX12_lawOf_61 rfl ?_
              refine g_iconstv hG dX12_lawOf_62 ki_4 ?_
              by_cases c12 : x3 = (4 : Int32)
              · refine g_icmp_ne (tgt := 70) hG dX12_lawOf_63 rfl (fun q => absurd c12 q) (fun _ => ?_)
                refine g_iconstv hG dX12_lawOf_66 ki_1 ?_
                refine g_goto (tgt := 71) hG dX12_lawOf_67 rfl ?_
                rw [if_neg c8, if_pos c9, if_neg c10, if_pos c11, if_pos c12] at J7
                exact J7
              · refine g_icmp_ne (tgt := 70) hG dX12_lawOf_63 rfl (fun _ => ?_) (fun q => absurd q c12)
                refine g_iconstv hG dX12_lawOf_70 ki_0 ?_
                rw [if_neg c8, if_pos c9, if_neg c10, if_pos c11, if_neg c12] at J7
                exact J7
            · refine g_icmp_ne (tgt := 70) hG dX12_lawOf_58 rfl (fun _ => ?_) (fun q => absurd q c11)
              refine g_iconstv hG dX12_lawOf_70 ki_0 ?_
              rw [if_neg c8, if_pos c9, if_neg c10, if_neg c11] at J7
              exact J7
        · refine g_if_ne (tgt := 56) hG dX12_lawOf_48 rfl (fun _ => ?_) (fun q => absurd q c9)
          refine g_iload_n hG dX12_lawOf_56 rfl ?_
          refine g_iconstv hG dX12_lawOf_57 ki_1 ?_
          by_cases c13 : x2 = (1 : Int32)
          · refine g_icmp_ne (tgt := 70) hG dX12_lawOf_58 rfl (fun q => absurd c13 q) (fun _ => ?_)
            refine g_iload_n hG dX12_lawOf_61 rfl ?_
            refine g_iconstv hG dX12_lawOf_62 ki_4 ?_
            by_cases c14 : x3 = (4 : Int32)
            · refine g_icmp_ne (tgt := 70) hG dX12_lawOf_63 rfl (fun q => absurd c14 q) (fun _ => ?_)
              refine g_iconstv hG dX12_lawOf_66 ki_1 ?_
              refine g_goto (tgt := 71) hG dX12_lawOf_67 rfl ?_
              rw [if_neg c8, if_neg c9, if_pos c13, if_pos c14] at J7
              exact J7
            · refine g_icmp_ne (tgt := 70) hG dX12_lawOf_63 rfl (fun _ => ?_) (fun q => absurd q c14)
              refine g_iconstv hG dX12_lawOf_70 ki_0 ?_
              rw [if_neg c8, if_neg c9, if_pos c13, if_neg c14] at J7
              exact J7
          · refine g_icmp_ne (tgt := 70) hG dX12_lawOf_58 rfl (fun _ => ?_) (fun q => absurd q c13)
            refine g_iconstv hG dX12_lawOf_70 ki_0 ?_
            rw [if_neg c8, if_neg c9, if_neg c13] at J7
            exact J7
    cases h
    exact K _ _ dX12_lawOf_71
  · refine g_if_lt (tgt := 39) hG dX12_lawOf_20 rfl (fun q => absurd q c6) (fun _ => ?_)
    refine g_aload_n hG dX12_lawOf_23 rfl ?_
    refine g_iload_n hG dX12_lawOf_24 rfl ?_
    refine g_iload_n hG dX12_lawOf_25 rfl ?_
    refine g_iload_n hG dX12_lawOf_26 rfl ?_
    refine g_iload hG dX12_lawOf_27 rfl ?_
    obtain ⟨v15, σ16, q17, h⟩ := ob_some h
    refine g_cV hG dX12_lawOf_29 (c_M_walks q17) b_X12_walks v_X12_137 rfl (k := 0) rfl rfl ⟨Nat.le_of_ble_eq_true rfl, Nat.le_of_ble_eq_true rfl⟩ ⟨rfl, rfl⟩ ⟨Nat.zero_le _, Nat.zero_le _⟩ _ rfl (Nat.le_of_ble_eq_true rfl) ?_
    refine g_iconstv hG dX12_lawOf_32 ki_0 ?_
    refine g_iload hG dX12_lawOf_33 rfl ?_
    obtain ⟨v18, σ19, q20, h⟩ := ob_some h
    refine g_cS hG dX12_lawOf_35 (c_M_held q20) b_X12_held v_X12_141 rfl ⟨Nat.le_of_ble_eq_true rfl, Nat.le_of_ble_eq_true rfl⟩ ⟨rfl, rfl⟩ ⟨Nat.zero_le _, Nat.zero_le _⟩ _ rfl (Nat.le_of_ble_eq_true rfl) ?_
    cases h
    exact K _ _ dX12_lawOf_38
def M_law (x1 : Int32) (x2 : Int32) (x3 : Int32) (x4 : Int32) (σ : RS) : Option (Int32 × RS) := (ob (M_in x1 (0 : Int32) (1 : Int32) σ) fun v1 σ2 => (if v1 = 0 then (ob (M_errs (-1000000001 : Int32) σ2) fun v5 σ6 => (some (v5, σ6))) else (ob (M_lawOf x1 x2 x3 x4 σ2) fun v8 σ9 => (some (v8, σ9)))))
set_option maxRecDepth 100000 in
set_option maxHeartbeats 4000000 in
theorem c_M_law {g : GP} {l : Launch} {r : Nat → Nat} {X : va_W} {v9 : Int32} {s9 : RS} {x1 : Int32} {x2 : Int32} {x3 : Int32} {x4 : Int32} {σ : RS} (h : M_law x1 x2 x3 x4 σ = some (v9, s9)) : CI g l yX12_law cX12_law 5 (some .int) { frames := 56, cells := 0, slots := 0, locals := 1274 } [.ref (r 25), .int x1, .int x2, .int x3, .int x4] (wR g r σ X) (fun r0 w => r0 = v9 ∧ w = wR g r s9 X) := by
  refine CI.mk (by decide) (Nat.le_of_ble_eq_true rfl) (fun G hG hret => ?_)
  have K : ∀ L pc, decode cX12_law pc = .ok (.ireturn, 1) → G 0 0 (wR g r s9 X) L pc [.int v9] := fun L pc d => hret _ L pc v9 d rfl ⟨rfl, rfl⟩
  unfold M_law at h
  refine g_iload_n hG dX12_law_0 rfl ?_
  refine g_iconstv hG dX12_law_1 ki_0 ?_
  refine g_iconstv hG dX12_law_2 ki_1 ?_
  obtain ⟨v1, σ2, q3, h⟩ := ob_some h
  refine g_cS hG dX12_law_3 (c_M_in q3) b_X12_in v_X12_41 rfl ⟨Nat.le_of_ble_eq_true rfl, Nat.le_of_ble_eq_true rfl⟩ ⟨rfl, rfl⟩ ⟨Nat.zero_le _, Nat.zero_le _⟩ _ rfl (Nat.le_of_ble_eq_true rfl) ?_
  rcases if_some h with ⟨c4, h⟩ | ⟨c4, h⟩
  · refine g_if_eq (tgt := 21) hG dX12_law_6 rfl (fun _ => ?_) (fun q => absurd c4 q)
    refine g_aload_n hG dX12_law_21 rfl ?_
    refine g_ldc hG dX12_law_22 k_X12_45 ?_
    obtain ⟨v5, σ6, q7, h⟩ := ob_some h
    refine g_cV hG dX12_law_24 (c_M_errs q7) b_X12_errs v_X12_46 rfl (k := 0) rfl rfl ⟨Nat.le_of_ble_eq_true rfl, Nat.le_of_ble_eq_true rfl⟩ ⟨rfl, rfl⟩ ⟨Nat.zero_le _, Nat.zero_le _⟩ _ rfl (Nat.le_of_ble_eq_true rfl) ?_
    cases h
    exact K _ _ dX12_law_27
  · refine g_if_eq (tgt := 21) hG dX12_law_6 rfl (fun q => absurd q c4) (fun _ => ?_)
    refine g_aload_n hG dX12_law_9 rfl ?_
    refine g_iload_n hG dX12_law_10 rfl ?_
    refine g_iload_n hG dX12_law_11 rfl ?_
    refine g_iload_n hG dX12_law_12 rfl ?_
    refine g_iload hG dX12_law_13 rfl ?_
    obtain ⟨v8, σ9, q10, h⟩ := ob_some h
    refine g_cV hG dX12_law_15 (c_M_lawOf q10) b_X12_lawOf v_X12_145 rfl (k := 0) rfl rfl ⟨Nat.le_of_ble_eq_true rfl, Nat.le_of_ble_eq_true rfl⟩ ⟨rfl, rfl⟩ ⟨Nat.zero_le _, Nat.zero_le _⟩ _ rfl (Nat.le_of_ble_eq_true rfl) ?_
    refine g_goto (tgt := 27) hG dX12_law_18 rfl ?_
    cases h
    exact K _ _ dX12_law_27
def M_feed_b40 : Nat → Int64 → Int32 → Int32 → RS → Option (Int32 × RS)
  | 0, _, _, _, _ => none
  | n + 1, x1, x3, x4, σ => (if x3 ≤ x4 then (some ((σ.2 0 3), σ)) else (gd (inb ((70 : Int32) + (σ.2 0 3)) 240) (lt (ra σ 0 (upd (σ.2 0) (ix ((70 : Int32) + (σ.2 0 3))) ((x1 >>> (((8 : Int32) * x4).toInt64 &&& 63)) &&& (255 : Int64)).toInt32)) fun σ11 => (lt (ra σ11 0 (upd (σ11.2 0) 3 ((σ11.2 0 3) + (1 : Int32)))) fun σ13 => ((M_feed_b40  n) x1 x3 (x4 + (1 : Int32)) σ13)))))
set_option maxRecDepth 100000 in
set_option maxHeartbeats 4000000 in
theorem s_M_feed_b40 {g : GP} {l : Launch} {r : Nat → Nat} {X : va_W} {G : GT} {v9 : Int32} {s9 : RS} (hG : IsG g l yX12_feed cX12_feed 5 { frames := 1, cells := 0, slots := 0, locals := 22 } G) (K : ∀ L pc, decode cX12_feed pc = .ok (.ireturn, 1) → G 0 0 (wR g r s9 X) L pc [.int v9]) : ∀ (n : Nat) (x1 : Int64) (x3 : Int32) (x4 : Int32) (σ : RS) (h : M_feed_b40  n x1 x3 x4 σ = some (v9, s9)), G 0 0 (wR g r σ X) [(0, .ref (r 25)), (1, .long x1), (3, .int x3), (4, .int x4)] 40 [] := by
  intro n
  induction n with
  | zero => intro _ _ _ σ h; cases h
  | succ n ih =>
    intro x1 x3 x4 σ h
    unfold M_feed_b40 at h
    refine g_iload hG dX12_feed_40 rfl ?_
    refine g_iload_n hG dX12_feed_42 rfl ?_
    rcases if_some h with ⟨c9, h⟩ | ⟨c9, h⟩
    · refine g_icmp_ge (tgt := 88) hG dX12_feed_43 rfl (fun _ => ?_) (fun q => absurd c9 q)
      refine g_aload_n hG dX12_feed_88 rfl ?_
      refine r_get 0 hG dX12_feed_89 f_X12_7 (by decide) rfl ?_
      refine g_iconstv hG dX12_feed_92 ki_3 ?_
      refine r_iald 1 0 240 hG dX12_feed_93 rfl (by decide) (by decide : Int32.toNatClampNeg (3 : Int32) = 3) ?_
      cases h
      exact K _ _ dX12_feed_94
    · refine g_icmp_ge (tgt := 88) hG dX12_feed_43 rfl (fun q => absurd q c9) (fun _ => ?_)
      refine g_aload_n hG dX12_feed_46 rfl ?_
      refine r_get 0 hG dX12_feed_47 f_X12_7 (by decide) rfl ?_
      refine g_bipushv hG dX12_feed_50 kb_70 ?_
      refine g_aload_n hG dX12_feed_52 rfl ?_
      refine r_get 0 hG dX12_feed_53 f_X12_7 (by decide) rfl ?_
      refine g_iconstv hG dX12_feed_56 ki_3 ?_
      refine r_iald 1 0 240 hG dX12_feed_57 rfl (by decide) (by decide : Int32.toNatClampNeg (3 : Int32) = 3) ?_
      refine g_iadd hG dX12_feed_58 ?_
      refine g_lload_n hG dX12_feed_59 rfl ?_
      refine g_bipushv hG dX12_feed_60 kb_8 ?_
      refine g_iload hG dX12_feed_62 rfl ?_
      refine g_imul hG dX12_feed_64 ?_
      refine g_lshr hG dX12_feed_65 ?_
      refine g_ldc2 hG dX12_feed_66 k_X12_148 ?_
      refine g_land hG dX12_feed_69 ?_
      refine g_l2i hG dX12_feed_70 ?_
      obtain ⟨b10, h⟩ := gd_some h
      obtain ⟨σ11, e12, h⟩ := lt_ex h
      refine r_iast 1 0 240 hG e12 dX12_feed_71 rfl b10 rfl rfl ?_
      refine g_aload_n hG dX12_feed_72 rfl ?_
      refine r_get 0 hG dX12_feed_73 f_X12_7 (by decide) rfl ?_
      refine g_iconstv hG dX12_feed_76 ki_3 ?_
      refine g_dup2 hG dX12_feed_77 rfl rfl ?_
      refine r_iald 1 0 240 hG dX12_feed_78 rfl (by decide) (by decide : Int32.toNatClampNeg (3 : Int32) = 3) ?_
      refine g_iconstv hG dX12_feed_79 ki_1 ?_
      refine g_iadd hG dX12_feed_80 ?_
      obtain ⟨σ13, e14, h⟩ := lt_ex h
      refine r_iast 1 0 240 hG e14 dX12_feed_81 rfl (by decide) (by decide : Int32.toNatClampNeg (3 : Int32) = 3) rfl ?_
      refine g_iincv (c := (1 : Int32)) hG dX12_feed_82 rfl (by decide) (by decide) ?_
      refine g_goto (tgt := 40) hG dX12_feed_85 rfl ?_
      refine g_loc hG [(0, .ref (r 25)), (1, .long x1), (3, .int x3), (4, .int (x4 + (1 : Int32)))] ⟨rfl, rfl, rfl, rfl, trivial⟩ ?_
      exact ih _ _ _ _ h
def M_feed (x1 : Int64) (x3 : Int32) (σ : RS) : Option (Int32 × RS) := (ob (M_in x3 (1 : Int32) (8 : Int32) σ) fun v1 σ2 => (if v1 = 0 then (ob (M_errs (-1000000001 : Int32) σ2) fun v5 σ6 => (some (v5, σ6))) else (if ((σ2.2 0 3) + x3) ≤ (50 : Int32) then (M_feed_b40  FU x1 x3 (0 : Int32) σ2) else (ob (M_errs (-1000000004 : Int32) σ2) fun v15 σ16 => (some (v15, σ16))))))
set_option maxRecDepth 100000 in
set_option maxHeartbeats 4000000 in
theorem c_M_feed {g : GP} {l : Launch} {r : Nat → Nat} {X : va_W} {v9 : Int32} {s9 : RS} {x1 : Int64} {x3 : Int32} {σ : RS} (h : M_feed x1 x3 σ = some (v9, s9)) : CI g l yX12_feed cX12_feed 5 (some .int) { frames := 1, cells := 0, slots := 0, locals := 22 } [.ref (r 25), .long x1, .int x3] (wR g r σ X) (fun r0 w => r0 = v9 ∧ w = wR g r s9 X) := by
  refine CI.mk (by decide) (Nat.le_of_ble_eq_true rfl) (fun G hG hret => ?_)
  have K : ∀ L pc, decode cX12_feed pc = .ok (.ireturn, 1) → G 0 0 (wR g r s9 X) L pc [.int v9] := fun L pc d => hret _ L pc v9 d rfl ⟨rfl, rfl⟩
  unfold M_feed at h
  refine g_iload_n hG dX12_feed_0 rfl ?_
  refine g_iconstv hG dX12_feed_1 ki_1 ?_
  refine g_bipushv hG dX12_feed_2 kb_8 ?_
  obtain ⟨v1, σ2, q3, h⟩ := ob_some h
  refine g_cS hG dX12_feed_4 (c_M_in q3) b_X12_in v_X12_41 rfl ⟨Nat.le_of_ble_eq_true rfl, Nat.le_of_ble_eq_true rfl⟩ ⟨rfl, rfl⟩ ⟨Nat.zero_le _, Nat.zero_le _⟩ _ rfl (Nat.le_of_ble_eq_true rfl) ?_
  rcases if_some h with ⟨c4, h⟩ | ⟨c4, h⟩
  · refine g_if_ne (tgt := 17) hG dX12_feed_7 rfl (fun q => absurd c4 q) (fun _ => ?_)
    refine g_aload_n hG dX12_feed_10 rfl ?_
    refine g_ldc hG dX12_feed_11 k_X12_45 ?_
    obtain ⟨v5, σ6, q7, h⟩ := ob_some h
    refine g_cV hG dX12_feed_13 (c_M_errs q7) b_X12_errs v_X12_46 rfl (k := 0) rfl rfl ⟨Nat.le_of_ble_eq_true rfl, Nat.le_of_ble_eq_true rfl⟩ ⟨rfl, rfl⟩ ⟨Nat.zero_le _, Nat.zero_le _⟩ _ rfl (Nat.le_of_ble_eq_true rfl) ?_
    cases h
    exact K _ _ dX12_feed_16
  · refine g_if_ne (tgt := 17) hG dX12_feed_7 rfl (fun _ => ?_) (fun q => absurd q c4)
    refine g_aload_n hG dX12_feed_17 rfl ?_
    refine r_get 0 hG dX12_feed_18 f_X12_7 (by decide) rfl ?_
    refine g_iconstv hG dX12_feed_21 ki_3 ?_
    refine r_iald 1 0 240 hG dX12_feed_22 rfl (by decide) (by decide : Int32.toNatClampNeg (3 : Int32) = 3) ?_
    refine g_iload_n hG dX12_feed_23 rfl ?_
    refine g_iadd hG dX12_feed_24 ?_
    refine g_bipushv hG dX12_feed_25 kb_50 ?_
    rcases if_some h with ⟨c8, h⟩ | ⟨c8, h⟩
    · refine g_icmp_le (tgt := 37) hG dX12_feed_27 rfl (fun _ => ?_) (fun q => absurd c8 q)
      refine g_iconstv hG dX12_feed_37 ki_0 ?_
      refine g_istore hG dX12_feed_38 (by decide) ?_
      refine g_loc hG [(0, .ref (r 25)), (1, .long x1), (3, .int x3), (4, .int (0 : Int32))] ⟨rfl, rfl, rfl, rfl, trivial⟩ ?_
      exact s_M_feed_b40  hG K FU _ _ _ _ h
    · refine g_icmp_le (tgt := 37) hG dX12_feed_27 rfl (fun q => absurd q c8) (fun _ => ?_)
      refine g_aload_n hG dX12_feed_30 rfl ?_
      refine g_ldc hG dX12_feed_31 k_X12_50 ?_
      obtain ⟨v15, σ16, q17, h⟩ := ob_some h
      refine g_cV hG dX12_feed_33 (c_M_errs q17) b_X12_errs v_X12_46 rfl (k := 0) rfl rfl ⟨Nat.le_of_ble_eq_true rfl, Nat.le_of_ble_eq_true rfl⟩ ⟨rfl, rfl⟩ ⟨Nat.zero_le _, Nat.zero_le _⟩ _ rfl (Nat.le_of_ble_eq_true rfl) ?_
      cases h
      exact K _ _ dX12_feed_36
def M_text_b129 (x3 : Int32) (x4 : Int32) (σ : RS) : Option (Int32 × RS) := (lt (ra σ 0 (upd (σ.2 0) 3 (0 : Int32))) fun σ29 => (some ((if x3 = 0 then ((-10 : Int32) - x4) else (1 : Int32)), σ29)))
set_option maxRecDepth 100000 in
set_option maxHeartbeats 4000000 in
theorem s_M_text_b129 {g : GP} {l : Launch} {r : Nat → Nat} {X : va_W} {G : GT} {v9 : Int32} {s9 : RS} (hG : IsG g l yX12_text cX12_text 5 { frames := 55, cells := 0, slots := 0, locals := 1249 } G) (K : ∀ L pc, decode cX12_text pc = .ok (.ireturn, 1) → G 0 0 (wR g r s9 X) L pc [.int v9]) {x3 : Int32} {x4 : Int32} {σ : RS} (h : M_text_b129  x3 x4 σ = some (v9, s9)) : G 0 0 (wR g r σ X) [(0, .ref (r 25)), (3, .int x3), (4, .int x4)] 129 [] := by
  unfold M_text_b129 at h
  refine g_aload_n hG dX12_text_129 rfl ?_
  refine r_get 0 hG dX12_text_130 f_X12_7 (by decide) rfl ?_
  refine g_iconstv hG dX12_text_133 ki_3 ?_
  refine g_iconstv hG dX12_text_134 ki_0 ?_
  obtain ⟨σ29, e30, h⟩ := lt_ex h
  refine r_iast 1 0 240 hG e30 dX12_text_135 rfl (by decide) (by decide : Int32.toNatClampNeg (3 : Int32) = 3) rfl ?_
  refine g_iload_n hG dX12_text_136 rfl ?_
  refine g_dia1 (if x3 = 0 then ((-10 : Int32) - x4) else (1 : Int32)) 149 (fun J31 => ?_) ?_
  · by_cases c32 : x3 = 0
    · refine g_if_eq (tgt := 144) hG dX12_text_137 rfl (fun _ => ?_) (fun q => absurd c32 q)
      refine g_bipushv hG dX12_text_144 kb_m10 ?_
      refine g_iload hG dX12_text_146 rfl ?_
      refine g_isub hG dX12_text_148 ?_
      rw [if_pos c32] at J31
      exact J31
    · refine g_if_eq (tgt := 144) hG dX12_text_137 rfl (fun q => absurd q c32) (fun _ => ?_)
      refine g_iconstv hG dX12_text_140 ki_1 ?_
      refine g_goto (tgt := 149) hG dX12_text_141 rfl ?_
      rw [if_neg c32] at J31
      exact J31
  cases h
  exact K _ _ dX12_text_149
def M_text_b30 : Nat → Int32 → Int32 → RS → Option (Int32 × RS)
  | 0, _, _, _ => none
  | n + 1, x1, x2, σ => (if (50 : Int32) ≤ x2 then (gd (inb ((5 : Int32) + x1) 240) (lt (ra σ 0 (upd (σ.2 0) (ix ((5 : Int32) + x1)) (σ.2 0 3))) fun σ13 => (ob (M_walks x1 (1 : Int32) (1 : Int32) (1 : Int32) σ13) fun v15 σ16 => (lt (if (σ16.1 14) = 0 then (0 : Int32) else (if v15 = v15 then (1 : Int32) else (0 : Int32))) fun v21 => (lt (σ16.1 8) fun v23 => (if v21 = 0 then (ob (M_moveAll 3 0 σ16) fun v26 σ27 => (M_text_b129  v21 v23 σ27)) else (M_text_b129  v21 v23 σ16))))))) else (gd (inb ((70 : Int32) + x2) 240) (gd (inb (((140 : Int32) + ((50 : Int32) * x1)) + x2) 240) (lt (ra σ 0 (upd (σ.2 0) (ix (((140 : Int32) + ((50 : Int32) * x1)) + x2)) (σ.2 0 (ix ((70 : Int32) + x2))))) fun σ35 => ((M_text_b30  n) x1 (x2 + (1 : Int32)) σ35)))))
set_option maxRecDepth 100000 in
set_option maxHeartbeats 4000000 in
theorem s_M_text_b30 {g : GP} {l : Launch} {r : Nat → Nat} {X : va_W} {G : GT} {v9 : Int32} {s9 : RS} (hG : IsG g l yX12_text cX12_text 5 { frames := 55, cells := 0, slots := 0, locals := 1249 } G) (K : ∀ L pc, decode cX12_text pc = .ok (.ireturn, 1) → G 0 0 (wR g r s9 X) L pc [.int v9]) : ∀ (n : Nat) (x1 : Int32) (x2 : Int32) (σ : RS) (h : M_text_b30  n x1 x2 σ = some (v9, s9)), G 0 0 (wR g r σ X) [(0, .ref (r 25)), (1, .int x1), (2, .int x2)] 30 [] := by
  intro n
  induction n with
  | zero => intro _ _ σ h; cases h
  | succ n ih =>
    intro x1 x2 σ h
    unfold M_text_b30 at h
    refine g_iload_n hG dX12_text_30 rfl ?_
    refine g_bipushv hG dX12_text_31 kb_50 ?_
    rcases if_some h with ⟨c11, h⟩ | ⟨c11, h⟩
    · refine g_icmp_ge (tgt := 66) hG dX12_text_33 rfl (fun _ => ?_) (fun q => absurd c11 q)
      refine g_aload_n hG dX12_text_66 rfl ?_
      refine r_get 0 hG dX12_text_67 f_X12_7 (by decide) rfl ?_
      refine g_iconstv hG dX12_text_70 ki_5 ?_
      refine g_iload_n hG dX12_text_71 rfl ?_
      refine g_iadd hG dX12_text_72 ?_
      refine g_aload_n hG dX12_text_73 rfl ?_
      refine r_get 0 hG dX12_text_74 f_X12_7 (by decide) rfl ?_
      refine g_iconstv hG dX12_text_77 ki_3 ?_
      refine r_iald 1 0 240 hG dX12_text_78 rfl (by decide) (by decide : Int32.toNatClampNeg (3 : Int32) = 3) ?_
      obtain ⟨b12, h⟩ := gd_some h
      obtain ⟨σ13, e14, h⟩ := lt_ex h
      refine r_iast 1 0 240 hG e14 dX12_text_79 rfl b12 rfl rfl ?_
      refine g_aload_n hG dX12_text_80 rfl ?_
      refine g_iload_n hG dX12_text_81 rfl ?_
      refine g_iconstv hG dX12_text_82 ki_1 ?_
      refine g_iconstv hG dX12_text_83 ki_1 ?_
      refine g_iconstv hG dX12_text_84 ki_1 ?_
      obtain ⟨v15, σ16, q17, h⟩ := ob_some h
      refine g_cV hG dX12_text_85 (c_M_walks q17) b_X12_walks v_X12_137 rfl (k := 0) rfl rfl ⟨Nat.le_of_ble_eq_true rfl, Nat.le_of_ble_eq_true rfl⟩ ⟨rfl, rfl⟩ ⟨Nat.zero_le _, Nat.zero_le _⟩ _ rfl (Nat.le_of_ble_eq_true rfl) ?_
      refine g_istore_n hG dX12_text_88 (by decide) ?_
      refine g_aload_n hG dX12_text_89 rfl ?_
      refine r_get 14 hG dX12_text_90 f_X12_84 (by decide) rfl ?_
      refine g_dia1 (if (σ16.1 14) = 0 then (0 : Int32) else (if v15 = v15 then (1 : Int32) else (0 : Int32))) 106 (fun J18 => ?_) ?_
      · by_cases c19 : (σ16.1 14) = 0
        · refine g_if_eq (tgt := 105) hG dX12_text_93 rfl (fun _ => ?_) (fun q => absurd c19 q)
          refine g_iconstv hG dX12_text_105 ki_0 ?_
          rw [if_pos c19] at J18
          exact J18
        · refine g_if_eq (tgt := 105) hG dX12_text_93 rfl (fun q => absurd q c19) (fun _ => ?_)
          refine g_iload_n hG dX12_text_96 rfl ?_
          refine g_iload_n hG dX12_text_97 rfl ?_
          by_cases c20 : v15 = v15
          · refine g_icmp_ne (tgt := 105) hG dX12_text_98 rfl (fun q => absurd c20 q) (fun _ => ?_)
            refine g_iconstv hG dX12_text_101 ki_1 ?_
            refine g_goto (tgt := 106) hG dX12_text_102 rfl ?_
            rw [if_neg c19, if_pos c20] at J18
            exact J18
          · refine g_icmp_ne (tgt := 105) hG dX12_text_98 rfl (fun _ => ?_) (fun q => absurd q c20)
            refine g_iconstv hG dX12_text_105 ki_0 ?_
            rw [if_neg c19, if_neg c20] at J18
            exact J18
      obtain ⟨v21, e22, h⟩ := lt_ex h
      refine g_nam e22 ?_
      refine g_istore_n hG dX12_text_106 (by decide) ?_
      refine g_aload_n hG dX12_text_107 rfl ?_
      refine r_get 8 hG dX12_text_108 f_X12_88 (by decide) rfl ?_
      obtain ⟨v23, e24, h⟩ := lt_ex h
      refine g_nam e24 ?_
      refine g_istore hG dX12_text_111 (by decide) ?_
      refine g_iload_n hG dX12_text_113 rfl ?_
      rcases if_some h with ⟨c25, h⟩ | ⟨c25, h⟩
      · refine g_if_ne (tgt := 129) hG dX12_text_114 rfl (fun q => absurd c25 q) (fun _ => ?_)
        refine g_aload_n hG dX12_text_117 rfl ?_
        refine g_aload_n hG dX12_text_118 rfl ?_
        refine r_get 3 hG dX12_text_119 f_X12_19 (by decide) rfl ?_
        refine g_aload_n hG dX12_text_122 rfl ?_
        refine r_get 0 hG dX12_text_123 f_X12_7 (by decide) rfl ?_
        obtain ⟨v26, σ27, q28, h⟩ := ob_some h
        refine g_cVv hG dX12_text_126 (c_M_moveAll (by decide) (by decide) (by decide) q28) b_X12_moveAll v_X12_150 rfl (k := 0) rfl rfl ⟨Nat.le_of_ble_eq_true rfl, Nat.le_of_ble_eq_true rfl⟩ ⟨rfl, rfl⟩ ⟨Nat.zero_le _, Nat.zero_le _⟩ _ rfl (Nat.le_of_ble_eq_true rfl) ?_
        refine g_loc hG [(0, .ref (r 25)), (3, .int v21), (4, .int v23)] ⟨rfl, rfl, rfl, trivial⟩ ?_
        exact s_M_text_b129  hG K  h
      · refine g_if_ne (tgt := 129) hG dX12_text_114 rfl (fun _ => ?_) (fun q => absurd q c25)
        refine g_loc hG [(0, .ref (r 25)), (3, .int v21), (4, .int v23)] ⟨rfl, rfl, rfl, trivial⟩ ?_
        exact s_M_text_b129  hG K  h
    · refine g_icmp_ge (tgt := 66) hG dX12_text_33 rfl (fun q => absurd q c11) (fun _ => ?_)
      refine g_aload_n hG dX12_text_36 rfl ?_
      refine r_get 0 hG dX12_text_37 f_X12_7 (by decide) rfl ?_
      refine g_sipushv hG dX12_text_40 ks_140 ?_
      refine g_bipushv hG dX12_text_43 kb_50 ?_
      refine g_iload_n hG dX12_text_45 rfl ?_
      refine g_imul hG dX12_text_46 ?_
      refine g_iadd hG dX12_text_47 ?_
      refine g_iload_n hG dX12_text_48 rfl ?_
      refine g_iadd hG dX12_text_49 ?_
      refine g_aload_n hG dX12_text_50 rfl ?_
      refine r_get 0 hG dX12_text_51 f_X12_7 (by decide) rfl ?_
      refine g_bipushv hG dX12_text_54 kb_70 ?_
      refine g_iload_n hG dX12_text_56 rfl ?_
      refine g_iadd hG dX12_text_57 ?_
      obtain ⟨b33, h⟩ := gd_some h
      refine r_iald 1 0 240 hG dX12_text_58 rfl b33 rfl ?_
      obtain ⟨b34, h⟩ := gd_some h
      obtain ⟨σ35, e36, h⟩ := lt_ex h
      refine r_iast 1 0 240 hG e36 dX12_text_59 rfl b34 rfl rfl ?_
      refine g_iincv (c := (1 : Int32)) hG dX12_text_60 rfl (by decide) (by decide) ?_
      refine g_goto (tgt := 30) hG dX12_text_63 rfl ?_
      refine g_loc hG [(0, .ref (r 25)), (1, .int x1), (2, .int (x2 + (1 : Int32)))] ⟨rfl, rfl, rfl, trivial⟩ ?_
      exact ih _ _ _ h
def M_text (x1 : Int32) (σ : RS) : Option (Int32 × RS) := (ob (M_in x1 (0 : Int32) (1 : Int32) σ) fun v1 σ2 => (if v1 = 0 then (ob (M_errs (-1000000001 : Int32) σ2) fun v5 σ6 => (some (v5, σ6))) else (ob (M_moveAll 0 3 σ2) fun v8 σ9 => (M_text_b30  FU x1 (0 : Int32) σ9))))
set_option maxRecDepth 100000 in
set_option maxHeartbeats 4000000 in
theorem c_M_text {g : GP} {l : Launch} {r : Nat → Nat} {X : va_W} {v9 : Int32} {s9 : RS} {x1 : Int32} {σ : RS} (h : M_text x1 σ = some (v9, s9)) : CI g l yX12_text cX12_text 5 (some .int) { frames := 55, cells := 0, slots := 0, locals := 1249 } [.ref (r 25), .int x1] (wR g r σ X) (fun r0 w => r0 = v9 ∧ w = wR g r s9 X) := by
  refine CI.mk (by decide) (Nat.le_of_ble_eq_true rfl) (fun G hG hret => ?_)
  have K : ∀ L pc, decode cX12_text pc = .ok (.ireturn, 1) → G 0 0 (wR g r s9 X) L pc [.int v9] := fun L pc d => hret _ L pc v9 d rfl ⟨rfl, rfl⟩
  unfold M_text at h
  refine g_iload_n hG dX12_text_0 rfl ?_
  refine g_iconstv hG dX12_text_1 ki_0 ?_
  refine g_iconstv hG dX12_text_2 ki_1 ?_
  obtain ⟨v1, σ2, q3, h⟩ := ob_some h
  refine g_cS hG dX12_text_3 (c_M_in q3) b_X12_in v_X12_41 rfl ⟨Nat.le_of_ble_eq_true rfl, Nat.le_of_ble_eq_true rfl⟩ ⟨rfl, rfl⟩ ⟨Nat.zero_le _, Nat.zero_le _⟩ _ rfl (Nat.le_of_ble_eq_true rfl) ?_
  rcases if_some h with ⟨c4, h⟩ | ⟨c4, h⟩
  · refine g_if_ne (tgt := 16) hG dX12_text_6 rfl (fun q => absurd c4 q) (fun _ => ?_)
    refine g_aload_n hG dX12_text_9 rfl ?_
    refine g_ldc hG dX12_text_10 k_X12_45 ?_
    obtain ⟨v5, σ6, q7, h⟩ := ob_some h
    refine g_cV hG dX12_text_12 (c_M_errs q7) b_X12_errs v_X12_46 rfl (k := 0) rfl rfl ⟨Nat.le_of_ble_eq_true rfl, Nat.le_of_ble_eq_true rfl⟩ ⟨rfl, rfl⟩ ⟨Nat.zero_le _, Nat.zero_le _⟩ _ rfl (Nat.le_of_ble_eq_true rfl) ?_
    cases h
    exact K _ _ dX12_text_15
  · refine g_if_ne (tgt := 16) hG dX12_text_6 rfl (fun _ => ?_) (fun q => absurd q c4)
    refine g_aload_n hG dX12_text_16 rfl ?_
    refine g_aload_n hG dX12_text_17 rfl ?_
    refine r_get 0 hG dX12_text_18 f_X12_7 (by decide) rfl ?_
    refine g_aload_n hG dX12_text_21 rfl ?_
    refine r_get 3 hG dX12_text_22 f_X12_19 (by decide) rfl ?_
    obtain ⟨v8, σ9, q10, h⟩ := ob_some h
    refine g_cVv hG dX12_text_25 (c_M_moveAll (by decide) (by decide) (by decide) q10) b_X12_moveAll v_X12_150 rfl (k := 0) rfl rfl ⟨Nat.le_of_ble_eq_true rfl, Nat.le_of_ble_eq_true rfl⟩ ⟨rfl, rfl⟩ ⟨Nat.zero_le _, Nat.zero_le _⟩ _ rfl (Nat.le_of_ble_eq_true rfl) ?_
    refine g_iconstv hG dX12_text_28 ki_0 ?_
    refine g_istore_n hG dX12_text_29 (by decide) ?_
    refine g_loc hG [(0, .ref (r 25)), (1, .int x1), (2, .int (0 : Int32))] ⟨rfl, rfl, rfl, trivial⟩ ?_
    exact s_M_text_b30  hG K FU _ _ _ h
