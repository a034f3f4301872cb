def M_ran (x1 : Int32) (σ : RS) : Option (Int32 × RS) := (if (40 : Int32) ≤ (σ.1 21) then (some ((0 : Int32), σ)) else (gd (inb (σ.1 21) 40) (lt (ra σ 20 (upd (σ.2 20) (ix (σ.1 21)) x1)) fun σ3 => (lt (ri σ3 21 ((σ3.1 21) + (1 : Int32))) fun σ5 => (some ((0 : Int32), σ5))))))
set_option maxRecDepth 100000 in
set_option maxHeartbeats 4000000 in
theorem c_M_ran {g : GP} {l : Launch} {r : Nat → Nat} {X : va_W} {v9 : Int32} {s9 : RS} {x1 : Int32} {σ : RS} (h : M_ran x1 σ = some (v9, s9)) : CV g l yX12_ran cX12_ran 2 { frames := 0, cells := 0, slots := 0, locals := 0 } [.ref (r 25), .int x1] (wR g r σ X) (fun w => w = wR g r s9 X) := by
  refine CV.mk (by decide) (Nat.le_of_ble_eq_true rfl) (fun G hG hret => ?_)
  have K : ∀ L pc, decode cX12_ran pc = .ok (.return_, 1) → G 0 0 (wR g r s9 X) L pc [] := fun L pc d => hret _ L pc d rfl
  unfold M_ran at h
  refine g_aload_n hG dX12_ran_0 rfl ?_
  refine r_get 21 hG dX12_ran_1 f_X12_212 (by decide) rfl ?_
  refine g_bipushv hG dX12_ran_4 kb_40 ?_
  rcases if_some h with ⟨c1, h⟩ | ⟨c1, h⟩
  · refine g_icmp_ge (tgt := 29) hG dX12_ran_6 rfl (fun _ => ?_) (fun q => absurd c1 q)
    cases h
    exact K _ _ dX12_ran_29
  · refine g_icmp_ge (tgt := 29) hG dX12_ran_6 rfl (fun q => absurd q c1) (fun _ => ?_)
    refine g_aload_n hG dX12_ran_9 rfl ?_
    refine r_get 20 hG dX12_ran_10 f_X12_37 (by decide) rfl ?_
    refine g_aload_n hG dX12_ran_13 rfl ?_
    refine r_get 21 hG dX12_ran_14 f_X12_212 (by decide) rfl ?_
    refine g_iload_n hG dX12_ran_17 rfl ?_
    obtain ⟨b2, h⟩ := gd_some h
    obtain ⟨σ3, e4, h⟩ := lt_ex h
    refine r_iast 10 20 40 hG e4 dX12_ran_18 rfl b2 rfl rfl ?_
    refine g_aload_n hG dX12_ran_19 rfl ?_
    refine g_dup hG dX12_ran_20 rfl ?_
    refine r_get 21 hG dX12_ran_21 f_X12_212 (by decide) rfl ?_
    refine g_iconstv hG dX12_ran_24 ki_1 ?_
    refine g_iadd hG dX12_ran_25 ?_
    obtain ⟨σ5, e6, h⟩ := lt_ex h
    refine r_put 21 hG e6 dX12_ran_26 f_X12_212 (by decide) rfl rfl rfl rfl ?_
    cases h
    exact K _ _ dX12_ran_29
def M_fallsInB (slf : Int32 → Int32 → RS → Option (Int32 × RS)) (x1 : Int32) (x2 : Int32) (σ : RS) : Option (Int32 × RS) := (if x1 = 0 then (ob (M_ran (10 : Int32) σ) fun v2 σ3 => (some ((x2 + (σ3.1 23)), σ3))) else (if x1 = (1 : Int32) then (ob (M_ran (20 : Int32) σ) fun v6 σ7 => (ob (slf (0 : Int32) x2 σ7) fun v9 σ10 => (some ((v9 * (3 : Int32)), σ10)))) else (ob (M_above x1 σ) fun v12 σ13 => (ob (slf v12 x2 σ13) fun v15 σ16 => (some (v15, σ16))))))
set_option maxRecDepth 100000 in
set_option maxHeartbeats 4000000 in
theorem c_M_fallsInB {g : GP} {l : Launch} {r : Nat → Nat} {X : va_W} {v9 : Int32} {s9 : RS} {slf : Int32 → Int32 → RS → Option (Int32 × RS)} {F1 L1 : Nat} (hslf : ∀ (a b : Int32) (σ : RS) (v9 : Int32) (s9 : RS), slf a b σ = some (v9, s9) → CI g l yX12_fallsIn cX12_fallsIn 3 (some .int) { frames := F1, cells := 0, slots := 0, locals := L1 } [.ref (r 25), .int a, .int b] (wR g r σ X) (fun r0 w => r0 = v9 ∧ w = wR g r s9 X)) {x1 : Int32} {x2 : Int32} {σ : RS} (h : M_fallsInB slf x1 x2 σ = some (v9, s9)) : CI g l yX12_fallsIn cX12_fallsIn 3 (some .int) { frames := F1 + 1, cells := 0, slots := 0, locals := L1 + 22 } [.ref (r 25), .int x1, .int x2] (wR g r σ X) (fun r0 w => r0 = v9 ∧ w = wR g r s9 X) := by
  refine CI.mk (by decide) (Nat.le_of_ble_eq_true rfl) (fun G hG hret => ?_)
  have K : ∀ L pc, decode cX12_fallsIn pc = .ok (.ireturn, 1) → G 0 0 (wR g r s9 X) L pc [.int v9] := fun L pc d => hret _ L pc v9 d rfl ⟨rfl, rfl⟩
  unfold M_fallsInB at h
  refine g_iload_n hG dX12_fallsIn_0 rfl ?_
  rcases if_some h with ⟨c1, h⟩ | ⟨c1, h⟩
  · refine g_if_ne (tgt := 17) hG dX12_fallsIn_1 rfl (fun q => absurd c1 q) (fun _ => ?_)
    refine g_aload_n hG dX12_fallsIn_4 rfl ?_
    refine g_bipushv hG dX12_fallsIn_5 kb_10 ?_
    obtain ⟨v2, σ3, q4, h⟩ := ob_some h
    refine g_cVv hG dX12_fallsIn_7 (c_M_ran q4) b_X12_ran v_X12_215 rfl (k := 0) rfl rfl ⟨by dsimp only; omega, by dsimp only; omega⟩ ⟨rfl, rfl⟩ ⟨Nat.zero_le _, Nat.zero_le _⟩ _ rfl (Nat.le_of_ble_eq_true rfl) ?_
    refine g_iload_n hG dX12_fallsIn_10 rfl ?_
    refine g_aload_n hG dX12_fallsIn_11 rfl ?_
    refine r_get 23 hG dX12_fallsIn_12 f_X12_218 (by decide) rfl ?_
    refine g_iadd hG dX12_fallsIn_15 ?_
    cases h
    exact K _ _ dX12_fallsIn_16
  · refine g_if_ne (tgt := 17) hG dX12_fallsIn_1 rfl (fun _ => ?_) (fun q => absurd q c1)
    refine g_iload_n hG dX12_fallsIn_17 rfl ?_
    refine g_iconstv hG dX12_fallsIn_18 ki_1 ?_
    rcases if_some h with ⟨c5, h⟩ | ⟨c5, h⟩
    · refine g_icmp_ne (tgt := 37) hG dX12_fallsIn_19 rfl (fun q => absurd c5 q) (fun _ => ?_)
      refine g_aload_n hG dX12_fallsIn_22 rfl ?_
      refine g_bipushv hG dX12_fallsIn_23 kb_20 ?_
      obtain ⟨v6, σ7, q8, h⟩ := ob_some h
      refine g_cVv hG dX12_fallsIn_25 (c_M_ran q8) b_X12_ran v_X12_215 rfl (k := 0) rfl rfl ⟨by dsimp only; omega, by dsimp only; omega⟩ ⟨rfl, rfl⟩ ⟨Nat.zero_le _, Nat.zero_le _⟩ _ rfl (Nat.le_of_ble_eq_true rfl) ?_
      refine g_aload_n hG dX12_fallsIn_28 rfl ?_
      refine g_iconstv hG dX12_fallsIn_29 ki_0 ?_
      refine g_iload_n hG dX12_fallsIn_30 rfl ?_
      obtain ⟨v9, σ10, q11, h⟩ := ob_some h
      refine g_cV hG dX12_fallsIn_31 (hslf _ _ _ _ _ q11) b_X12_fallsIn v_X12_221 rfl (k := 0) rfl rfl ⟨by dsimp only; omega, by dsimp only; omega⟩ ⟨rfl, rfl⟩ ⟨Nat.zero_le _, Nat.zero_le _⟩ _ rfl (Nat.le_of_ble_eq_true rfl) ?_
      refine g_iconstv hG dX12_fallsIn_34 ki_3 ?_
      refine g_imul hG dX12_fallsIn_35 ?_
      cases h
      exact K _ _ dX12_fallsIn_36
    · refine g_icmp_ne (tgt := 37) hG dX12_fallsIn_19 rfl (fun _ => ?_) (fun q => absurd q c5)
      refine g_aload_n hG dX12_fallsIn_37 rfl ?_
      refine g_iload_n hG dX12_fallsIn_38 rfl ?_
      obtain ⟨v12, σ13, q14, h⟩ := ob_some h
      refine g_cS hG dX12_fallsIn_39 (c_M_above q14) b_X12_above v_X12_73 rfl ⟨by dsimp only; omega, by dsimp only; omega⟩ ⟨rfl, rfl⟩ ⟨Nat.zero_le _, Nat.zero_le _⟩ _ rfl (Nat.le_of_ble_eq_true rfl) ?_
      refine g_iload_n hG dX12_fallsIn_42 rfl ?_
      obtain ⟨v15, σ16, q17, h⟩ := ob_some h
      refine g_cV hG dX12_fallsIn_43 (hslf _ _ _ _ _ q17) b_X12_fallsIn v_X12_221 rfl (k := 0) rfl rfl ⟨by dsimp only; omega, by dsimp only; omega⟩ ⟨rfl, rfl⟩ ⟨Nat.zero_le _, Nat.zero_le _⟩ _ rfl (Nat.le_of_ble_eq_true rfl) ?_
      cases h
      exact K _ _ dX12_fallsIn_46
def M_fallsIn : Nat → Int32 → Int32 → RS → Option (Int32 × RS)
  | 0, _, _, _ => none
  | d + 1, a, b, σ => M_fallsInB (M_fallsIn d) a b σ
theorem c_M_fallsIn {g : GP} {l : Launch} {r : Nat → Nat} {X : va_W} : ∀ (d : Nat) (a b : Int32) (σ : RS) (v9 : Int32) (s9 : RS), M_fallsIn d a b σ = some (v9, s9) → CI g l yX12_fallsIn cX12_fallsIn 3 (some .int) { frames := 1 * d, cells := 0, slots := 0, locals := 22 * d } [.ref (r 25), .int a, .int b] (wR g r σ X) (fun r0 w => r0 = v9 ∧ w = wR g r s9 X)
  | 0, _, _, _, _, _, h => by cases h
  | d + 1, a, b, σ, v9, s9, h => c_M_fallsInB (c_M_fallsIn d) h
def M_sweepsInB (slf : Int32 → Int32 → RS → Option (Int32 × RS)) (x1 : Int32) (x2 : Int32) (σ : RS) : Option (Int32 × RS) := (if x1 = 0 then (ob (M_ran (12 : Int32) σ) fun v2 σ3 => (some ((x2 - (σ3.1 24)), σ3))) else (if x1 = (3 : Int32) then (ob (M_ran (40 : Int32) σ) fun v6 σ7 => (ob (slf (0 : Int32) x2 σ7) fun v9 σ10 => (some ((-v9), σ10)))) else (if x1 = (6 : Int32) then (ob (M_ran (70 : Int32) σ) fun v13 σ14 => (ob (slf (3 : Int32) x2 σ14) fun v16 σ17 => (some ((v16 ^^^ (σ17.1 23)), σ17)))) else (ob (M_above x1 σ) fun v19 σ20 => (ob (slf v19 x2 σ20) fun v22 σ23 => (some (v22, σ23)))))))
set_option maxRecDepth 100000 in
set_option maxHeartbeats 4000000 in
theorem c_M_sweepsInB {g : GP} {l : Launch} {r : Nat → Nat} {X : va_W} {v9 : Int32} {s9 : RS} {slf : Int32 → Int32 → RS → Option (Int32 × RS)} {F1 L1 : Nat} (hslf : ∀ (a b : Int32) (σ : RS) (v9 : Int32) (s9 : RS), slf a b σ = some (v9, s9) → CI g l yX12_sweepsIn cX12_sweepsIn 3 (some .int) { frames := F1, cells := 0, slots := 0, locals := L1 } [.ref (r 25), .int a, .int b] (wR g r σ X) (fun r0 w => r0 = v9 ∧ w = wR g r s9 X)) {x1 : Int32} {x2 : Int32} {σ : RS} (h : M_sweepsInB slf x1 x2 σ = some (v9, s9)) : CI g l yX12_sweepsIn cX12_sweepsIn 3 (some .int) { frames := F1 + 1, cells := 0, slots := 0, locals := L1 + 22 } [.ref (r 25), .int x1, .int x2] (wR g r σ X) (fun r0 w => r0 = v9 ∧ w = wR g r s9 X) := by
  refine CI.mk (by decide) (Nat.le_of_ble_eq_true rfl) (fun G hG hret => ?_)
  have K : ∀ L pc, decode cX12_sweepsIn pc = .ok (.ireturn, 1) → G 0 0 (wR g r s9 X) L pc [.int v9] := fun L pc d => hret _ L pc v9 d rfl ⟨rfl, rfl⟩
  unfold M_sweepsInB at h
  refine g_iload_n hG dX12_sweepsIn_0 rfl ?_
  rcases if_some h with ⟨c1, h⟩ | ⟨c1, h⟩
  · refine g_if_ne (tgt := 17) hG dX12_sweepsIn_1 rfl (fun q => absurd c1 q) (fun _ => ?_)
    refine g_aload_n hG dX12_sweepsIn_4 rfl ?_
    refine g_bipushv hG dX12_sweepsIn_5 kb_12 ?_
    obtain ⟨v2, σ3, q4, h⟩ := ob_some h
    refine g_cVv hG dX12_sweepsIn_7 (c_M_ran q4) b_X12_ran v_X12_215 rfl (k := 0) rfl rfl ⟨by dsimp only; omega, by dsimp only; omega⟩ ⟨rfl, rfl⟩ ⟨Nat.zero_le _, Nat.zero_le _⟩ _ rfl (Nat.le_of_ble_eq_true rfl) ?_
    refine g_iload_n hG dX12_sweepsIn_10 rfl ?_
    refine g_aload_n hG dX12_sweepsIn_11 rfl ?_
    refine r_get 24 hG dX12_sweepsIn_12 f_X12_224 (by decide) rfl ?_
    refine g_isub hG dX12_sweepsIn_15 ?_
    cases h
    exact K _ _ dX12_sweepsIn_16
  · refine g_if_ne (tgt := 17) hG dX12_sweepsIn_1 rfl (fun _ => ?_) (fun q => absurd q c1)
    refine g_iload_n hG dX12_sweepsIn_17 rfl ?_
    refine g_iconstv hG dX12_sweepsIn_18 ki_3 ?_
    rcases if_some h with ⟨c5, h⟩ | ⟨c5, h⟩
    · refine g_icmp_ne (tgt := 36) hG dX12_sweepsIn_19 rfl (fun q => absurd c5 q) (fun _ => ?_)
      refine g_aload_n hG dX12_sweepsIn_22 rfl ?_
      refine g_bipushv hG dX12_sweepsIn_23 kb_40 ?_
      obtain ⟨v6, σ7, q8, h⟩ := ob_some h
      refine g_cVv hG dX12_sweepsIn_25 (c_M_ran q8) b_X12_ran v_X12_215 rfl (k := 0) rfl rfl ⟨by dsimp only; omega, by dsimp only; omega⟩ ⟨rfl, rfl⟩ ⟨Nat.zero_le _, Nat.zero_le _⟩ _ rfl (Nat.le_of_ble_eq_true rfl) ?_
      refine g_aload_n hG dX12_sweepsIn_28 rfl ?_
      refine g_iconstv hG dX12_sweepsIn_29 ki_0 ?_
      refine g_iload_n hG dX12_sweepsIn_30 rfl ?_
      obtain ⟨v9, σ10, q11, h⟩ := ob_some h
      refine g_cV hG dX12_sweepsIn_31 (hslf _ _ _ _ _ q11) b_X12_sweepsIn v_X12_227 rfl (k := 0) rfl rfl ⟨by dsimp only; omega, by dsimp only; omega⟩ ⟨rfl, rfl⟩ ⟨Nat.zero_le _, Nat.zero_le _⟩ _ rfl (Nat.le_of_ble_eq_true rfl) ?_
      refine g_ineg hG dX12_sweepsIn_34 ?_
      cases h
      exact K _ _ dX12_sweepsIn_35
    · refine g_icmp_ne (tgt := 36) hG dX12_sweepsIn_19 rfl (fun _ => ?_) (fun q => absurd q c5)
      refine g_iload_n hG dX12_sweepsIn_36 rfl ?_
      refine g_bipushv hG dX12_sweepsIn_37 kb_6 ?_
      rcases if_some h with ⟨c12, h⟩ | ⟨c12, h⟩
      · refine g_icmp_ne (tgt := 60) hG dX12_sweepsIn_39 rfl (fun q => absurd c12 q) (fun _ => ?_)
        refine g_aload_n hG dX12_sweepsIn_42 rfl ?_
        refine g_bipushv hG dX12_sweepsIn_43 kb_70 ?_
        obtain ⟨v13, σ14, q15, h⟩ := ob_some h
        refine g_cVv hG dX12_sweepsIn_45 (c_M_ran q15) b_X12_ran v_X12_215 rfl (k := 0) rfl rfl ⟨by dsimp only; omega, by dsimp only; omega⟩ ⟨rfl, rfl⟩ ⟨Nat.zero_le _, Nat.zero_le _⟩ _ rfl (Nat.le_of_ble_eq_true rfl) ?_
        refine g_aload_n hG dX12_sweepsIn_48 rfl ?_
        refine g_iconstv hG dX12_sweepsIn_49 ki_3 ?_
        refine g_iload_n hG dX12_sweepsIn_50 rfl ?_
        obtain ⟨v16, σ17, q18, h⟩ := ob_some h
        refine g_cV hG dX12_sweepsIn_51 (hslf _ _ _ _ _ q18) b_X12_sweepsIn v_X12_227 rfl (k := 0) rfl rfl ⟨by dsimp only; omega, by dsimp only; omega⟩ ⟨rfl, rfl⟩ ⟨Nat.zero_le _, Nat.zero_le _⟩ _ rfl (Nat.le_of_ble_eq_true rfl) ?_
        refine g_aload_n hG dX12_sweepsIn_54 rfl ?_
        refine r_get 23 hG dX12_sweepsIn_55 f_X12_218 (by decide) rfl ?_
        refine g_ixor hG dX12_sweepsIn_58 ?_
        cases h
        exact K _ _ dX12_sweepsIn_59
      · refine g_icmp_ne (tgt := 60) hG dX12_sweepsIn_39 rfl (fun _ => ?_) (fun q => absurd q c12)
        refine g_aload_n hG dX12_sweepsIn_60 rfl ?_
        refine g_iload_n hG dX12_sweepsIn_61 rfl ?_
        obtain ⟨v19, σ20, q21, h⟩ := ob_some h
        refine g_cS hG dX12_sweepsIn_62 (c_M_above q21) b_X12_above v_X12_73 rfl ⟨by dsimp only; omega, by dsimp only; omega⟩ ⟨rfl, rfl⟩ ⟨Nat.zero_le _, Nat.zero_le _⟩ _ rfl (Nat.le_of_ble_eq_true rfl) ?_
        refine g_iload_n hG dX12_sweepsIn_65 rfl ?_
        obtain ⟨v22, σ23, q24, h⟩ := ob_some h
        refine g_cV hG dX12_sweepsIn_66 (hslf _ _ _ _ _ q24) b_X12_sweepsIn v_X12_227 rfl (k := 0) rfl rfl ⟨by dsimp only; omega, by dsimp only; omega⟩ ⟨rfl, rfl⟩ ⟨Nat.zero_le _, Nat.zero_le _⟩ _ rfl (Nat.le_of_ble_eq_true rfl) ?_
        cases h
        exact K _ _ dX12_sweepsIn_69
def M_sweepsIn : Nat → Int32 → Int32 → RS → Option (Int32 × RS)
  | 0, _, _, _ => none
  | d + 1, a, b, σ => M_sweepsInB (M_sweepsIn d) a b σ
theorem c_M_sweepsIn {g : GP} {l : Launch} {r : Nat → Nat} {X : va_W} : ∀ (d : Nat) (a b : Int32) (σ : RS) (v9 : Int32) (s9 : RS), M_sweepsIn d a b σ = some (v9, s9) → CI g l yX12_sweepsIn cX12_sweepsIn 3 (some .int) { frames := 1 * d, cells := 0, slots := 0, locals := 22 * d } [.ref (r 25), .int a, .int b] (wR g r σ X) (fun r0 w => r0 = v9 ∧ w = wR g r s9 X)
  | 0, _, _, _, _, _, h => by cases h
  | d + 1, a, b, σ, v9, s9, h => c_M_sweepsInB (c_M_sweepsIn d) h
def M_movesInB (slf : Int32 → Int32 → RS → Option (Int32 × RS)) (x1 : Int32) (x2 : Int32) (σ : RS) : Option (Int32 × RS) := (if x1 = 0 then (ob (M_ran (11 : Int32) σ) fun v2 σ3 => (ob (M_fallsIn 4 (σ3.1 22) x2 σ3) fun v5 σ6 => (some ((v5 * (2 : Int32)), σ6)))) else (if x1 = (2 : Int32) then (ob (M_ran (30 : Int32) σ) fun v9 σ10 => (ob (slf (0 : Int32) x2 σ10) fun v12 σ13 => (ob (M_sweepsIn 4 (σ13.1 22) (1 : Int32) σ13) fun v15 σ16 => (some ((v12 - v15), σ16))))) else (if x1 = (5 : Int32) then (ob (M_ran (60 : Int32) σ) fun v19 σ20 => (ob (slf (2 : Int32) (x2 + (1 : Int32)) σ20) fun v22 σ23 => (some (v22, σ23)))) else (ob (M_above x1 σ) fun v25 σ26 => (ob (slf v25 x2 σ26) fun v28 σ29 => (some (v28, σ29)))))))
set_option maxRecDepth 100000 in
set_option maxHeartbeats 4000000 in
theorem c_M_movesInB {g : GP} {l : Launch} {r : Nat → Nat} {X : va_W} {v9 : Int32} {s9 : RS} {slf : Int32 → Int32 → RS → Option (Int32 × RS)} {F1 L1 : Nat} (hslf : ∀ (a b : Int32) (σ : RS) (v9 : Int32) (s9 : RS), slf a b σ = some (v9, s9) → CI g l yX12_movesIn cX12_movesIn 4 (some .int) { frames := F1, cells := 0, slots := 0, locals := L1 } [.ref (r 25), .int a, .int b] (wR g r σ X) (fun r0 w => r0 = v9 ∧ w = wR g r s9 X)) {x1 : Int32} {x2 : Int32} {σ : RS} (h : M_movesInB slf x1 x2 σ = some (v9, s9)) : CI g l yX12_movesIn cX12_movesIn 4 (some .int) { frames := F1 + 5, cells := 0, slots := 0, locals := L1 + 110 } [.ref (r 25), .int x1, .int x2] (wR g r σ X) (fun r0 w => r0 = v9 ∧ w = wR g r s9 X) := by
  refine CI.mk (by decide) (Nat.le_of_ble_eq_true rfl) (fun G hG hret => ?_)
  have K : ∀ L pc, decode cX12_movesIn pc = .ok (.ireturn, 1) → G 0 0 (wR g r s9 X) L pc [.int v9] := fun L pc d => hret _ L pc v9 d rfl ⟨rfl, rfl⟩
  unfold M_movesInB at h
  refine g_iload_n hG dX12_movesIn_0 rfl ?_
  rcases if_some h with ⟨c1, h⟩ | ⟨c1, h⟩
  · refine g_if_ne (tgt := 22) hG dX12_movesIn_1 rfl (fun q => absurd c1 q) (fun _ => ?_)
    refine g_aload_n hG dX12_movesIn_4 rfl ?_
    refine g_bipushv hG dX12_movesIn_5 kb_11 ?_
    obtain ⟨v2, σ3, q4, h⟩ := ob_some h
    refine g_cVv hG dX12_movesIn_7 (c_M_ran q4) b_X12_ran v_X12_215 rfl (k := 0) rfl rfl ⟨by dsimp only; omega, by dsimp only; omega⟩ ⟨rfl, rfl⟩ ⟨Nat.zero_le _, Nat.zero_le _⟩ _ rfl (Nat.le_of_ble_eq_true rfl) ?_
    refine g_aload_n hG dX12_movesIn_10 rfl ?_
    refine g_aload_n hG dX12_movesIn_11 rfl ?_
    refine r_get 22 hG dX12_movesIn_12 f_X12_230 (by decide) rfl ?_
    refine g_iload_n hG dX12_movesIn_15 rfl ?_
    obtain ⟨v5, σ6, q7, h⟩ := ob_some h
    refine g_cV hG dX12_movesIn_16 (c_M_fallsIn 4 _ _ _ _ _ q7) b_X12_fallsIn v_X12_221 rfl (k := 0) rfl rfl ⟨by dsimp only; omega, by dsimp only; omega⟩ ⟨rfl, rfl⟩ ⟨Nat.zero_le _, Nat.zero_le _⟩ _ rfl (Nat.le_of_ble_eq_true rfl) ?_
    refine g_iconstv hG dX12_movesIn_19 ki_2 ?_
    refine g_imul hG dX12_movesIn_20 ?_
    cases h
    exact K _ _ dX12_movesIn_21
  · refine g_if_ne (tgt := 22) hG dX12_movesIn_1 rfl (fun _ => ?_) (fun q => absurd q c1)
    refine g_iload_n hG dX12_movesIn_22 rfl ?_
    refine g_iconstv hG dX12_movesIn_23 ki_2 ?_
    rcases if_some h with ⟨c8, h⟩ | ⟨c8, h⟩
    · refine g_icmp_ne (tgt := 52) hG dX12_movesIn_24 rfl (fun q => absurd c8 q) (fun _ => ?_)
      refine g_aload_n hG dX12_movesIn_27 rfl ?_
      refine g_bipushv hG dX12_movesIn_28 kb_30 ?_
      obtain ⟨v9, σ10, q11, h⟩ := ob_some h
      refine g_cVv hG dX12_movesIn_30 (c_M_ran q11) b_X12_ran v_X12_215 rfl (k := 0) rfl rfl ⟨by dsimp only; omega, by dsimp only; omega⟩ ⟨rfl, rfl⟩ ⟨Nat.zero_le _, Nat.zero_le _⟩ _ rfl (Nat.le_of_ble_eq_true rfl) ?_
      refine g_aload_n hG dX12_movesIn_33 rfl ?_
      refine g_iconstv hG dX12_movesIn_34 ki_0 ?_
      refine g_iload_n hG dX12_movesIn_35 rfl ?_
      obtain ⟨v12, σ13, q14, h⟩ := ob_some h
      refine g_cV hG dX12_movesIn_36 (hslf _ _ _ _ _ q14) b_X12_movesIn v_X12_233 rfl (k := 0) rfl rfl ⟨by dsimp only; omega, by dsimp only; omega⟩ ⟨rfl, rfl⟩ ⟨Nat.zero_le _, Nat.zero_le _⟩ _ rfl (Nat.le_of_ble_eq_true rfl) ?_
      refine g_istore_n hG dX12_movesIn_39 (by decide) ?_
      refine g_iload_n hG dX12_movesIn_40 rfl ?_
      refine g_aload_n hG dX12_movesIn_41 rfl ?_
      refine g_aload_n hG dX12_movesIn_42 rfl ?_
      refine r_get 22 hG dX12_movesIn_43 f_X12_230 (by decide) rfl ?_
      refine g_iconstv hG dX12_movesIn_46 ki_1 ?_
      obtain ⟨v15, σ16, q17, h⟩ := ob_some h
      refine g_cV hG dX12_movesIn_47 (c_M_sweepsIn 4 _ _ _ _ _ q17) b_X12_sweepsIn v_X12_227 rfl (k := 0) rfl rfl ⟨by dsimp only; omega, by dsimp only; omega⟩ ⟨rfl, rfl⟩ ⟨Nat.zero_le _, Nat.zero_le _⟩ _ rfl (Nat.le_of_ble_eq_true rfl) ?_
      refine g_isub hG dX12_movesIn_50 ?_
      cases h
      exact K _ _ dX12_movesIn_51
    · refine g_icmp_ne (tgt := 52) hG dX12_movesIn_24 rfl (fun _ => ?_) (fun q => absurd q c8)
      refine g_iload_n hG dX12_movesIn_52 rfl ?_
      refine g_iconstv hG dX12_movesIn_53 ki_5 ?_
      rcases if_some h with ⟨c18, h⟩ | ⟨c18, h⟩
      · refine g_icmp_ne (tgt := 72) hG dX12_movesIn_54 rfl (fun q => absurd c18 q) (fun _ => ?_)
        refine g_aload_n hG dX12_movesIn_57 rfl ?_
        refine g_bipushv hG dX12_movesIn_58 kb_60 ?_
        obtain ⟨v19, σ20, q21, h⟩ := ob_some h
        refine g_cVv hG dX12_movesIn_60 (c_M_ran q21) b_X12_ran v_X12_215 rfl (k := 0) rfl rfl ⟨by dsimp only; omega, by dsimp only; omega⟩ ⟨rfl, rfl⟩ ⟨Nat.zero_le _, Nat.zero_le _⟩ _ rfl (Nat.le_of_ble_eq_true rfl) ?_
        refine g_aload_n hG dX12_movesIn_63 rfl ?_
        refine g_iconstv hG dX12_movesIn_64 ki_2 ?_
        refine g_iload_n hG dX12_movesIn_65 rfl ?_
        refine g_iconstv hG dX12_movesIn_66 ki_1 ?_
        refine g_iadd hG dX12_movesIn_67 ?_
        obtain ⟨v22, σ23, q24, h⟩ := ob_some h
        refine g_cV hG dX12_movesIn_68 (hslf _ _ _ _ _ q24) b_X12_movesIn v_X12_233 rfl (k := 0) rfl rfl ⟨by dsimp only; omega, by dsimp only; omega⟩ ⟨rfl, rfl⟩ ⟨Nat.zero_le _, Nat.zero_le _⟩ _ rfl (Nat.le_of_ble_eq_true rfl) ?_
        cases h
        exact K _ _ dX12_movesIn_71
      · refine g_icmp_ne (tgt := 72) hG dX12_movesIn_54 rfl (fun _ => ?_) (fun q => absurd q c18)
        refine g_aload_n hG dX12_movesIn_72 rfl ?_
        refine g_iload_n hG dX12_movesIn_73 rfl ?_
        obtain ⟨v25, σ26, q27, h⟩ := ob_some h
        refine g_cS hG dX12_movesIn_74 (c_M_above q27) b_X12_above v_X12_73 rfl ⟨by dsimp only; omega, by dsimp only; omega⟩ ⟨rfl, rfl⟩ ⟨Nat.zero_le _, Nat.zero_le _⟩ _ rfl (Nat.le_of_ble_eq_true rfl) ?_
        refine g_iload_n hG dX12_movesIn_77 rfl ?_
        obtain ⟨v28, σ29, q30, h⟩ := ob_some h
        refine g_cV hG dX12_movesIn_78 (hslf _ _ _ _ _ q30) b_X12_movesIn v_X12_233 rfl (k := 0) rfl rfl ⟨by dsimp only; omega, by dsimp only; omega⟩ ⟨rfl, rfl⟩ ⟨Nat.zero_le _, Nat.zero_le _⟩ _ rfl (Nat.le_of_ble_eq_true rfl) ?_
        cases h
        exact K _ _ dX12_movesIn_81
def M_movesIn : Nat → Int32 → Int32 → RS → Option (Int32 × RS)
  | 0, _, _, _ => none
  | d + 1, a, b, σ => M_movesInB (M_movesIn d) a b σ
theorem c_M_movesIn {g : GP} {l : Launch} {r : Nat → Nat} {X : va_W} : ∀ (d : Nat) (a b : Int32) (σ : RS) (v9 : Int32) (s9 : RS), M_movesIn d a b σ = some (v9, s9) → CI g l yX12_movesIn cX12_movesIn 4 (some .int) { frames := 5 * d, cells := 0, slots := 0, locals := 110 * d } [.ref (r 25), .int a, .int b] (wR g r σ X) (fun r0 w => r0 = v9 ∧ w = wR g r s9 X)
  | 0, _, _, _, _, _, h => by cases h
  | d + 1, a, b, σ, v9, s9, h => c_M_movesInB (c_M_movesIn d) h
def M_blocksInB (slf : Int32 → Int32 → RS → Option (Int32 × RS)) (x1 : Int32) (x2 : Int32) (σ : RS) : Option (Int32 × RS) := (if x1 = 0 then (ob (M_ran (13 : Int32) σ) fun v2 σ3 => (ob (M_movesIn 4 (σ3.1 22) x2 σ3) fun v5 σ6 => (ob (M_sweepsIn 4 (σ6.1 22) x2 σ6) fun v8 σ9 => (some ((v5 ^^^ v8), σ9))))) else (if x1 = (4 : Int32) then (ob (M_ran (50 : Int32) σ) fun v12 σ13 => (ob (slf (1 : Int32) x2 σ13) fun v15 σ16 => (ob (M_fallsIn 4 (σ16.1 22) (2 : Int32) σ16) fun v18 σ19 => (some ((v15 - v18), σ19))))) else (if x1 = (6 : Int32) then (ob (M_ran (71 : Int32) σ) fun v22 σ23 => (ob (M_movesIn 4 (σ23.1 22) x2 σ23) fun v25 σ26 => (ob (slf (3 : Int32) x2 σ26) fun v28 σ29 => (some ((v25 - v28), σ29))))) else (ob (M_above x1 σ) fun v31 σ32 => (ob (slf v31 x2 σ32) fun v34 σ35 => (some (v34, σ35)))))))
set_option maxRecDepth 100000 in
set_option maxHeartbeats 4000000 in
theorem c_M_blocksInB {g : GP} {l : Launch} {r : Nat → Nat} {X : va_W} {v9 : Int32} {s9 : RS} {slf : Int32 → Int32 → RS → Option (Int32 × RS)} {F1 L1 : Nat} (hslf : ∀ (a b : Int32) (σ : RS) (v9 : Int32) (s9 : RS), slf a b σ = some (v9, s9) → CI g l yX12_blocksIn cX12_blocksIn 4 (some .int) { frames := F1, cells := 0, slots := 0, locals := L1 } [.ref (r 25), .int a, .int b] (wR g r σ X) (fun r0 w => r0 = v9 ∧ w = wR g r s9 X)) {x1 : Int32} {x2 : Int32} {σ : RS} (h : M_blocksInB slf x1 x2 σ = some (v9, s9)) : CI g l yX12_blocksIn cX12_blocksIn 4 (some .int) { frames := F1 + 21, cells := 0, slots := 0, locals := L1 + 463 } [.ref (r 25), .int x1, .int x2] (wR g r σ X) (fun r0 w => r0 = v9 ∧ w = wR g r s9 X) := by
  refine CI.mk (by decide) (Nat.le_of_ble_eq_true rfl) (fun G hG hret => ?_)
  have K : ∀ L pc, decode cX12_blocksIn pc = .ok (.ireturn, 1) → G 0 0 (wR g r s9 X) L pc [.int v9] := fun L pc d => hret _ L pc v9 d rfl ⟨rfl, rfl⟩
  unfold M_blocksInB at h
  refine g_iload_n hG dX12_blocksIn_0 rfl ?_
  rcases if_some h with ⟨c1, h⟩ | ⟨c1, h⟩
  · refine g_if_ne (tgt := 32) hG dX12_blocksIn_1 rfl (fun q => absurd c1 q) (fun _ => ?_)
    refine g_aload_n hG dX12_blocksIn_4 rfl ?_
    refine g_bipushv hG dX12_blocksIn_5 kb_13 ?_
    obtain ⟨v2, σ3, q4, h⟩ := ob_some h
    refine g_cVv hG dX12_blocksIn_7 (c_M_ran q4) b_X12_ran v_X12_215 rfl (k := 0) rfl rfl ⟨by dsimp only; omega, by dsimp only; omega⟩ ⟨rfl, rfl⟩ ⟨Nat.zero_le _, Nat.zero_le _⟩ _ rfl (Nat.le_of_ble_eq_true rfl) ?_
    refine g_aload_n hG dX12_blocksIn_10 rfl ?_
    refine g_aload_n hG dX12_blocksIn_11 rfl ?_
    refine r_get 22 hG dX12_blocksIn_12 f_X12_230 (by decide) rfl ?_
    refine g_iload_n hG dX12_blocksIn_15 rfl ?_
    obtain ⟨v5, σ6, q7, h⟩ := ob_some h
    refine g_cV hG dX12_blocksIn_16 (c_M_movesIn 4 _ _ _ _ _ q7) b_X12_movesIn v_X12_233 rfl (k := 0) rfl rfl ⟨by dsimp only; omega, by dsimp only; omega⟩ ⟨rfl, rfl⟩ ⟨Nat.zero_le _, Nat.zero_le _⟩ _ rfl (Nat.le_of_ble_eq_true rfl) ?_
    refine g_istore_n hG dX12_blocksIn_19 (by decide) ?_
    refine g_iload_n hG dX12_blocksIn_20 rfl ?_
    refine g_aload_n hG dX12_blocksIn_21 rfl ?_
    refine g_aload_n hG dX12_blocksIn_22 rfl ?_
    refine r_get 22 hG dX12_blocksIn_23 f_X12_230 (by decide) rfl ?_
    refine g_iload_n hG dX12_blocksIn_26 rfl ?_
    obtain ⟨v8, σ9, q10, h⟩ := ob_some h
    refine g_cV hG dX12_blocksIn_27 (c_M_sweepsIn 4 _ _ _ _ _ q10) b_X12_sweepsIn v_X12_227 rfl (k := 0) rfl rfl ⟨by dsimp only; omega, by dsimp only; omega⟩ ⟨rfl, rfl⟩ ⟨Nat.zero_le _, Nat.zero_le _⟩ _ rfl (Nat.le_of_ble_eq_true rfl) ?_
    refine g_ixor hG dX12_blocksIn_30 ?_
    cases h
    exact K _ _ dX12_blocksIn_31
  · refine g_if_ne (tgt := 32) hG dX12_blocksIn_1 rfl (fun _ => ?_) (fun q => absurd q c1)
    refine g_iload_n hG dX12_blocksIn_32 rfl ?_
    refine g_iconstv hG dX12_blocksIn_33 ki_4 ?_
    rcases if_some h with ⟨c11, h⟩ | ⟨c11, h⟩
    · refine g_icmp_ne (tgt := 62) hG dX12_blocksIn_34 rfl (fun q => absurd c11 q) (fun _ => ?_)
      refine g_aload_n hG dX12_blocksIn_37 rfl ?_
      refine g_bipushv hG dX12_blocksIn_38 kb_50 ?_
      obtain ⟨v12, σ13, q14, h⟩ := ob_some h
      refine g_cVv hG dX12_blocksIn_40 (c_M_ran q14) b_X12_ran v_X12_215 rfl (k := 0) rfl rfl ⟨by dsimp only; omega, by dsimp only; omega⟩ ⟨rfl, rfl⟩ ⟨Nat.zero_le _, Nat.zero_le _⟩ _ rfl (Nat.le_of_ble_eq_true rfl) ?_
      refine g_aload_n hG dX12_blocksIn_43 rfl ?_
      refine g_iconstv hG dX12_blocksIn_44 ki_1 ?_
      refine g_iload_n hG dX12_blocksIn_45 rfl ?_
      obtain ⟨v15, σ16, q17, h⟩ := ob_some h
      refine g_cV hG dX12_blocksIn_46 (hslf _ _ _ _ _ q17) b_X12_blocksIn v_X12_236 rfl (k := 0) rfl rfl ⟨by dsimp only; omega, by dsimp only; omega⟩ ⟨rfl, rfl⟩ ⟨Nat.zero_le _, Nat.zero_le _⟩ _ rfl (Nat.le_of_ble_eq_true rfl) ?_
      refine g_istore_n hG dX12_blocksIn_49 (by decide) ?_
      refine g_iload_n hG dX12_blocksIn_50 rfl ?_
      refine g_aload_n hG dX12_blocksIn_51 rfl ?_
      refine g_aload_n hG dX12_blocksIn_52 rfl ?_
      refine r_get 22 hG dX12_blocksIn_53 f_X12_230 (by decide) rfl ?_
      refine g_iconstv hG dX12_blocksIn_56 ki_2 ?_
      obtain ⟨v18, σ19, q20, h⟩ := ob_some h
      refine g_cV hG dX12_blocksIn_57 (c_M_fallsIn 4 _ _ _ _ _ q20) b_X12_fallsIn v_X12_221 rfl (k := 0) rfl rfl ⟨by dsimp only; omega, by dsimp only; omega⟩ ⟨rfl, rfl⟩ ⟨Nat.zero_le _, Nat.zero_le _⟩ _ rfl (Nat.le_of_ble_eq_true rfl) ?_
      refine g_isub hG dX12_blocksIn_60 ?_
      cases h
      exact K _ _ dX12_blocksIn_61
    · refine g_icmp_ne (tgt := 62) hG dX12_blocksIn_34 rfl (fun _ => ?_) (fun q => absurd q c11)
      refine g_iload_n hG dX12_blocksIn_62 rfl ?_
      refine g_bipushv hG dX12_blocksIn_63 kb_6 ?_
      rcases if_some h with ⟨c21, h⟩ | ⟨c21, h⟩
      · refine g_icmp_ne (tgt := 93) hG dX12_blocksIn_65 rfl (fun q => absurd c21 q) (fun _ => ?_)
        refine g_aload_n hG dX12_blocksIn_68 rfl ?_
        refine g_bipushv hG dX12_blocksIn_69 kb_71 ?_
        obtain ⟨v22, σ23, q24, h⟩ := ob_some h
        refine g_cVv hG dX12_blocksIn_71 (c_M_ran q24) b_X12_ran v_X12_215 rfl (k := 0) rfl rfl ⟨by dsimp only; omega, by dsimp only; omega⟩ ⟨rfl, rfl⟩ ⟨Nat.zero_le _, Nat.zero_le _⟩ _ rfl (Nat.le_of_ble_eq_true rfl) ?_
        refine g_aload_n hG dX12_blocksIn_74 rfl ?_
        refine g_aload_n hG dX12_blocksIn_75 rfl ?_
        refine r_get 22 hG dX12_blocksIn_76 f_X12_230 (by decide) rfl ?_
        refine g_iload_n hG dX12_blocksIn_79 rfl ?_
        obtain ⟨v25, σ26, q27, h⟩ := ob_some h
        refine g_cV hG dX12_blocksIn_80 (c_M_movesIn 4 _ _ _ _ _ q27) b_X12_movesIn v_X12_233 rfl (k := 0) rfl rfl ⟨by dsimp only; omega, by dsimp only; omega⟩ ⟨rfl, rfl⟩ ⟨Nat.zero_le _, Nat.zero_le _⟩ _ rfl (Nat.le_of_ble_eq_true rfl) ?_
        refine g_istore_n hG dX12_blocksIn_83 (by decide) ?_
        refine g_iload_n hG dX12_blocksIn_84 rfl ?_
        refine g_aload_n hG dX12_blocksIn_85 rfl ?_
        refine g_iconstv hG dX12_blocksIn_86 ki_3 ?_
        refine g_iload_n hG dX12_blocksIn_87 rfl ?_
        obtain ⟨v28, σ29, q30, h⟩ := ob_some h
        refine g_cV hG dX12_blocksIn_88 (hslf _ _ _ _ _ q30) b_X12_blocksIn v_X12_236 rfl (k := 0) rfl rfl ⟨by dsimp only; omega, by dsimp only; omega⟩ ⟨rfl, rfl⟩ ⟨Nat.zero_le _, Nat.zero_le _⟩ _ rfl (Nat.le_of_ble_eq_true rfl) ?_
        refine g_isub hG dX12_blocksIn_91 ?_
        cases h
        exact K _ _ dX12_blocksIn_92
      · refine g_icmp_ne (tgt := 93) hG dX12_blocksIn_65 rfl (fun _ => ?_) (fun q => absurd q c21)
        refine g_aload_n hG dX12_blocksIn_93 rfl ?_
        refine g_iload_n hG dX12_blocksIn_94 rfl ?_
        obtain ⟨v31, σ32, q33, h⟩ := ob_some h
        refine g_cS hG dX12_blocksIn_95 (c_M_above q33) b_X12_above v_X12_73 rfl ⟨by dsimp only; omega, by dsimp only; omega⟩ ⟨rfl, rfl⟩ ⟨Nat.zero_le _, Nat.zero_le _⟩ _ rfl (Nat.le_of_ble_eq_true rfl) ?_
        refine g_iload_n hG dX12_blocksIn_98 rfl ?_
        obtain ⟨v34, σ35, q36, h⟩ := ob_some h
        refine g_cV hG dX12_blocksIn_99 (hslf _ _ _ _ _ q36) b_X12_blocksIn v_X12_236 rfl (k := 0) rfl rfl ⟨by dsimp only; omega, by dsimp only; omega⟩ ⟨rfl, rfl⟩ ⟨Nat.zero_le _, Nat.zero_le _⟩ _ rfl (Nat.le_of_ble_eq_true rfl) ?_
        cases h
        exact K _ _ dX12_blocksIn_102
def M_blocksIn : Nat → Int32 → Int32 → RS → Option (Int32 × RS)
  | 0, _, _, _ => none
  | d + 1, a, b, σ => M_blocksInB (M_blocksIn d) a b σ
theorem c_M_blocksIn {g : GP} {l : Launch} {r : Nat → Nat} {X : va_W} : ∀ (d : Nat) (a b : Int32) (σ : RS) (v9 : Int32) (s9 : RS), M_blocksIn d a b σ = some (v9, s9) → CI g l yX12_blocksIn cX12_blocksIn 4 (some .int) { frames := 21 * d, cells := 0, slots := 0, locals := 463 * d } [.ref (r 25), .int a, .int b] (wR g r σ X) (fun r0 w => r0 = v9 ∧ w = wR g r s9 X)
  | 0, _, _, _, _, _, h => by cases h
  | d + 1, a, b, σ, v9, s9, h => c_M_blocksInB (c_M_blocksIn d) h
def M_voice (x1 : Int32) (x2 : Int32) (x3 : Int32) (σ : RS) : Option (Int32 × RS) := (ob (M_isYard x1 σ) fun v1 σ2 => (if v1 = 0 then (ob (M_errs (-1000000001 : Int32) σ2) fun v5 σ6 => (some (v5, σ6))) else (ob (M_in x2 (0 : Int32) (3 : Int32) σ2) fun v8 σ9 => (if v8 = 0 then (ob (M_errs (-1000000001 : Int32) σ9) fun v12 σ13 => (some (v12, σ13))) else (lt (ri σ9 21 (0 : Int32)) fun σ15 => (ob (M_its x1 (0 : Int32) σ15) fun v17 σ18 => (lt (ri σ18 22 v17) fun σ20 => (lt (ri σ20 23 x1) fun σ22 => (ob (M_its x1 (1 : Int32) σ22) fun v24 σ25 => (lt (ri σ25 24 v24) fun σ27 => (if x2 = (0 : Int32) then (ob (M_fallsIn 4 (σ27.1 22) x3 σ27) fun v30 σ31 => (some (v30, σ31))) else (if x2 = (1 : Int32) then (ob (M_movesIn 4 (σ27.1 22) x3 σ27) fun v34 σ35 => (some (v34, σ35))) else (if x2 = (2 : Int32) then (ob (M_sweepsIn 4 (σ27.1 22) x3 σ27) fun v38 σ39 => (some (v38, σ39))) else (ob (M_blocksIn 4 (σ27.1 22) x3 σ27) fun v41 σ42 => (some (v41, σ42))))))))))))))))
set_option maxRecDepth 100000 in
set_option maxHeartbeats 4000000 in
theorem c_M_voice {g : GP} {l : Launch} {r : Nat → Nat} {X : va_W} {v9 : Int32} {s9 : RS} {x1 : Int32} {x2 : Int32} {x3 : Int32} {σ : RS} (h : M_voice x1 x2 x3 σ = some (v9, s9)) : CI g l yX12_voice cX12_voice 4 (some .int) { frames := 85, cells := 0, slots := 0, locals := 1875 } [.ref (r 25), .int x1, .int x2, .int x3] (wR g r σ X) (fun r0 w => r0 = v9 ∧ w = wR g r s9 X) := by
  refine CI.mk (by decide) (Nat.le_of_ble_eq_true rfl) (fun G hG hret => ?_)
  have K : ∀ L pc, decode cX12_voice pc = .ok (.ireturn, 1) → G 0 0 (wR g r s9 X) L pc [.int v9] := fun L pc d => hret _ L pc v9 d rfl ⟨rfl, rfl⟩
  unfold M_voice at h
  refine g_aload_n hG dX12_voice_0 rfl ?_
  refine g_iload_n hG dX12_voice_1 rfl ?_
  obtain ⟨v1, σ2, q3, h⟩ := ob_some h
  refine g_cV hG dX12_voice_2 (c_M_isYard q3) b_X12_isYard v_X12_55 rfl (k := 0) rfl rfl ⟨Nat.le_of_ble_eq_true rfl, Nat.le_of_ble_eq_true rfl⟩ ⟨rfl, rfl⟩ ⟨Nat.zero_le _, Nat.zero_le _⟩ _ rfl (Nat.le_of_ble_eq_true rfl) ?_
  rcases if_some h with ⟨c4, h⟩ | ⟨c4, h⟩
  · refine g_if_eq (tgt := 17) hG dX12_voice_5 rfl (fun _ => ?_) (fun q => absurd c4 q)
    refine g_aload_n hG dX12_voice_17 rfl ?_
    refine g_ldc hG dX12_voice_18 k_X12_45 ?_
    obtain ⟨v5, σ6, q7, h⟩ := ob_some h
    refine g_cV hG dX12_voice_20 (c_M_errs q7) b_X12_errs v_X12_46 rfl (k := 0) rfl rfl ⟨Nat.le_of_ble_eq_true rfl, Nat.le_of_ble_eq_true rfl⟩ ⟨rfl, rfl⟩ ⟨Nat.zero_le _, Nat.zero_le _⟩ _ rfl (Nat.le_of_ble_eq_true rfl) ?_
    cases h
    exact K _ _ dX12_voice_23
  · refine g_if_eq (tgt := 17) hG dX12_voice_5 rfl (fun q => absurd q c4) (fun _ => ?_)
    refine g_iload_n hG dX12_voice_8 rfl ?_
    refine g_iconstv hG dX12_voice_9 ki_0 ?_
    refine g_iconstv hG dX12_voice_10 ki_3 ?_
    obtain ⟨v8, σ9, q10, h⟩ := ob_some h
    refine g_cS hG dX12_voice_11 (c_M_in q10) b_X12_in v_X12_41 rfl ⟨Nat.le_of_ble_eq_true rfl, Nat.le_of_ble_eq_true rfl⟩ ⟨rfl, rfl⟩ ⟨Nat.zero_le _, Nat.zero_le _⟩ _ rfl (Nat.le_of_ble_eq_true rfl) ?_
    rcases if_some h with ⟨c11, h⟩ | ⟨c11, h⟩
    · refine g_if_ne (tgt := 24) hG dX12_voice_14 rfl (fun q => absurd c11 q) (fun _ => ?_)
      refine g_aload_n hG dX12_voice_17 rfl ?_
      refine g_ldc hG dX12_voice_18 k_X12_45 ?_
      obtain ⟨v12, σ13, q14, h⟩ := ob_some h
      refine g_cV hG dX12_voice_20 (c_M_errs q14) b_X12_errs v_X12_46 rfl (k := 0) rfl rfl ⟨Nat.le_of_ble_eq_true rfl, Nat.le_of_ble_eq_true rfl⟩ ⟨rfl, rfl⟩ ⟨Nat.zero_le _, Nat.zero_le _⟩ _ rfl (Nat.le_of_ble_eq_true rfl) ?_
      cases h
      exact K _ _ dX12_voice_23
    · refine g_if_ne (tgt := 24) hG dX12_voice_14 rfl (fun _ => ?_) (fun q => absurd q c11)
      refine g_aload_n hG dX12_voice_24 rfl ?_
      refine g_iconstv hG dX12_voice_25 ki_0 ?_
      obtain ⟨σ15, e16, h⟩ := lt_ex h
      refine r_put 21 hG e16 dX12_voice_26 f_X12_212 (by decide) rfl rfl rfl rfl ?_
      refine g_aload_n hG dX12_voice_29 rfl ?_
      refine g_aload_n hG dX12_voice_30 rfl ?_
      refine g_iload_n hG dX12_voice_31 rfl ?_
      refine g_iconstv hG dX12_voice_32 ki_0 ?_
      obtain ⟨v17, σ18, q19, h⟩ := ob_some h
      refine g_cV hG dX12_voice_33 (c_M_its q19) b_X12_its v_X12_59 rfl (k := 0) rfl rfl ⟨Nat.le_of_ble_eq_true rfl, Nat.le_of_ble_eq_true rfl⟩ ⟨rfl, rfl⟩ ⟨Nat.zero_le _, Nat.zero_le _⟩ _ rfl (Nat.le_of_ble_eq_true rfl) ?_
      obtain ⟨σ20, e21, h⟩ := lt_ex h
      refine r_put 22 hG e21 dX12_voice_36 f_X12_230 (by decide) rfl rfl rfl rfl ?_
      refine g_aload_n hG dX12_voice_39 rfl ?_
      refine g_iload_n hG dX12_voice_40 rfl ?_
      obtain ⟨σ22, e23, h⟩ := lt_ex h
      refine r_put 23 hG e23 dX12_voice_41 f_X12_218 (by decide) rfl rfl rfl rfl ?_
      refine g_aload_n hG dX12_voice_44 rfl ?_
      refine g_aload_n hG dX12_voice_45 rfl ?_
      refine g_iload_n hG dX12_voice_46 rfl ?_
      refine g_iconstv hG dX12_voice_47 ki_1 ?_
      obtain ⟨v24, σ25, q26, h⟩ := ob_some h
      refine g_cV hG dX12_voice_48 (c_M_its q26) b_X12_its v_X12_59 rfl (k := 0) rfl rfl ⟨Nat.le_of_ble_eq_true rfl, Nat.le_of_ble_eq_true rfl⟩ ⟨rfl, rfl⟩ ⟨Nat.zero_le _, Nat.zero_le _⟩ _ rfl (Nat.le_of_ble_eq_true rfl) ?_
      obtain ⟨σ27, e28, h⟩ := lt_ex h
      refine r_put 24 hG e28 dX12_voice_51 f_X12_224 (by decide) rfl rfl rfl rfl ?_
      refine g_iload_n hG dX12_voice_54 rfl ?_
      rcases if_some h with ⟨c29, h⟩ | ⟨c29, h⟩
      · refine g_tabC (tgt := 80) (c := (0 : Int32)) hG c29 dX12_voice_55 (by decide) (by decide) rfl rfl ?_
        refine g_aload_n hG dX12_voice_80 rfl ?_
        refine g_aload_n hG dX12_voice_81 rfl ?_
        refine r_get 22 hG dX12_voice_82 f_X12_230 (by decide) rfl ?_
        refine g_iload_n hG dX12_voice_85 rfl ?_
        obtain ⟨v30, σ31, q32, h⟩ := ob_some h
        refine g_cV hG dX12_voice_86 (c_M_fallsIn 4 _ _ _ _ _ q32) b_X12_fallsIn v_X12_221 rfl (k := 0) rfl rfl ⟨Nat.le_of_ble_eq_true rfl, Nat.le_of_ble_eq_true rfl⟩ ⟨rfl, rfl⟩ ⟨Nat.zero_le _, Nat.zero_le _⟩ _ rfl (Nat.le_of_ble_eq_true rfl) ?_
        cases h
        exact K _ _ dX12_voice_89
      ·
        rcases if_some h with ⟨c33, h⟩ | ⟨c33, h⟩
        · refine g_tabC (tgt := 90) (c := (1 : Int32)) hG c33 dX12_voice_55 (by decide) (by decide) rfl rfl ?_
          refine g_aload_n hG dX12_voice_90 rfl ?_
          refine g_aload_n hG dX12_voice_91 rfl ?_
          refine r_get 22 hG dX12_voice_92 f_X12_230 (by decide) rfl ?_
          refine g_iload_n hG dX12_voice_95 rfl ?_
          obtain ⟨v34, σ35, q36, h⟩ := ob_some h
          refine g_cV hG dX12_voice_96 (c_M_movesIn 4 _ _ _ _ _ q36) b_X12_movesIn v_X12_233 rfl (k := 0) rfl rfl ⟨Nat.le_of_ble_eq_true rfl, Nat.le_of_ble_eq_true rfl⟩ ⟨rfl, rfl⟩ ⟨Nat.zero_le _, Nat.zero_le _⟩ _ rfl (Nat.le_of_ble_eq_true rfl) ?_
          cases h
          exact K _ _ dX12_voice_99
        ·
          rcases if_some h with ⟨c37, h⟩ | ⟨c37, h⟩
          · refine g_tabC (tgt := 100) (c := (2 : Int32)) hG c37 dX12_voice_55 (by decide) (by decide) rfl rfl ?_
            refine g_aload_n hG dX12_voice_100 rfl ?_
            refine g_aload_n hG dX12_voice_101 rfl ?_
            refine r_get 22 hG dX12_voice_102 f_X12_230 (by decide) rfl ?_
            refine g_iload_n hG dX12_voice_105 rfl ?_
            obtain ⟨v38, σ39, q40, h⟩ := ob_some h
            refine g_cV hG dX12_voice_106 (c_M_sweepsIn 4 _ _ _ _ _ q40) b_X12_sweepsIn v_X12_227 rfl (k := 0) rfl rfl ⟨Nat.le_of_ble_eq_true rfl, Nat.le_of_ble_eq_true rfl⟩ ⟨rfl, rfl⟩ ⟨Nat.zero_le _, Nat.zero_le _⟩ _ rfl (Nat.le_of_ble_eq_true rfl) ?_
            cases h
            exact K _ _ dX12_voice_109
          ·
            refine g_tableOut (tgt := 110) hG dX12_voice_55 (by have n0 := i32ne c29 (n := 0) (by decide); have n1 := i32ne c33 (n := 1) (by decide); have n2 := i32ne c37 (n := 2) (by decide); omega) rfl ?_
            refine g_aload_n hG dX12_voice_110 rfl ?_
            refine g_aload_n hG dX12_voice_111 rfl ?_
            refine r_get 22 hG dX12_voice_112 f_X12_230 (by decide) rfl ?_
            refine g_iload_n hG dX12_voice_115 rfl ?_
            obtain ⟨v41, σ42, q43, h⟩ := ob_some h
            refine g_cV hG dX12_voice_116 (c_M_blocksIn 4 _ _ _ _ _ q43) b_X12_blocksIn v_X12_236 rfl (k := 0) rfl rfl ⟨Nat.le_of_ble_eq_true rfl, Nat.le_of_ble_eq_true rfl⟩ ⟨rfl, rfl⟩ ⟨Nat.zero_le _, Nat.zero_le _⟩ _ rfl (Nat.le_of_ble_eq_true rfl) ?_
            cases h
            exact K _ _ dX12_voice_119
def M_trace (x1 : Int32) (σ : RS) : Option (Int32 × RS) := (ob (M_in x1 (0 : Int32) ((σ.1 21) - (1 : Int32)) σ) fun v1 σ2 => (if v1 = 0 then (ob (M_errs (-1000000002 : Int32) σ2) fun v5 σ6 => (some (v5, σ6))) else (gd (inb x1 40) (some ((σ2.2 20 (ix x1)), σ2)))))
set_option maxRecDepth 100000 in
set_option maxHeartbeats 4000000 in
theorem c_M_trace {g : GP} {l : Launch} {r : Nat → Nat} {X : va_W} {v9 : Int32} {s9 : RS} {x1 : Int32} {σ : RS} (h : M_trace x1 σ = some (v9, s9)) : CI g l yX12_trace cX12_trace 2 (some .int) { frames := 1, cells := 0, slots := 0, locals := 22 } [.ref (r 25), .int x1] (wR g r σ X) (fun r0 w => r0 = v9 ∧ w = wR g r s9 X) := by
  refine CI.mk (by decide) (Nat.le_of_ble_eq_true rfl) (fun G hG hret => ?_)
  have K : ∀ L pc, decode cX12_trace pc = .ok (.ireturn, 1) → G 0 0 (wR g r s9 X) L pc [.int v9] := fun L pc d => hret _ L pc v9 d rfl ⟨rfl, rfl⟩
  unfold M_trace at h
  refine g_iload_n hG dX12_trace_0 rfl ?_
  refine g_iconstv hG dX12_trace_1 ki_0 ?_
  refine g_aload_n hG dX12_trace_2 rfl ?_
  refine r_get 21 hG dX12_trace_3 f_X12_212 (by decide) rfl ?_
  refine g_iconstv hG dX12_trace_6 ki_1 ?_
  refine g_isub hG dX12_trace_7 ?_
  obtain ⟨v1, σ2, q3, h⟩ := ob_some h
  refine g_cS hG dX12_trace_8 (c_M_in q3) b_X12_in v_X12_41 rfl ⟨Nat.le_of_ble_eq_true rfl, Nat.le_of_ble_eq_true rfl⟩ ⟨rfl, rfl⟩ ⟨Nat.zero_le _, Nat.zero_le _⟩ _ rfl (Nat.le_of_ble_eq_true rfl) ?_
  rcases if_some h with ⟨c4, h⟩ | ⟨c4, h⟩
  · refine g_if_eq (tgt := 23) hG dX12_trace_11 rfl (fun _ => ?_) (fun q => absurd c4 q)
    refine g_aload_n hG dX12_trace_23 rfl ?_
    refine g_ldc hG dX12_trace_24 k_X12_189 ?_
    obtain ⟨v5, σ6, q7, h⟩ := ob_some h
    refine g_cV hG dX12_trace_26 (c_M_errs q7) b_X12_errs v_X12_46 rfl (k := 0) rfl rfl ⟨Nat.le_of_ble_eq_true rfl, Nat.le_of_ble_eq_true rfl⟩ ⟨rfl, rfl⟩ ⟨Nat.zero_le _, Nat.zero_le _⟩ _ rfl (Nat.le_of_ble_eq_true rfl) ?_
    cases h
    exact K _ _ dX12_trace_29
  · refine g_if_eq (tgt := 23) hG dX12_trace_11 rfl (fun q => absurd q c4) (fun _ => ?_)
    refine g_aload_n hG dX12_trace_14 rfl ?_
    refine r_get 20 hG dX12_trace_15 f_X12_37 (by decide) rfl ?_
    refine g_iload_n hG dX12_trace_18 rfl ?_
    obtain ⟨b8, h⟩ := gd_some h
    refine r_iald 10 20 40 hG dX12_trace_19 rfl b8 rfl ?_
    refine g_goto (tgt := 29) hG dX12_trace_20 rfl ?_
    cases h
    exact K _ _ dX12_trace_29
def M_narrow (x0 : Int32) (x1 : Int32) (σ : RS) : Option (Int32 × RS) := (if x0 = (8 : Int32) then (some (x1.toInt8.toInt32, σ)) else (if x0 = (16 : Int32) then (some (x1.toInt16.toInt32, σ)) else (some (x1, σ))))
set_option maxRecDepth 100000 in
set_option maxHeartbeats 4000000 in
theorem c_M_narrow {g : GP} {l : Launch} {r : Nat → Nat} {X : va_W} {v9 : Int32} {s9 : RS} {x0 : Int32} {x1 : Int32} {σ : RS} (h : M_narrow x0 x1 σ = some (v9, s9)) : CI g l yX12_narrow cX12_narrow 2 (some .int) { frames := 0, cells := 0, slots := 0, locals := 0 } [.int x0, .int x1] (wR g r σ X) (fun r0 w => r0 = v9 ∧ w = wR g r s9 X) := by
  refine CI.mk (by decide) (Nat.le_of_ble_eq_true rfl) (fun G hG hret => ?_)
  have K : ∀ L pc, decode cX12_narrow pc = .ok (.ireturn, 1) → G 0 0 (wR g r s9 X) L pc [.int v9] := fun L pc d => hret _ L pc v9 d rfl ⟨rfl, rfl⟩
  unfold M_narrow at h
  refine g_iload_n hG dX12_narrow_0 rfl ?_
  refine g_bipushv hG dX12_narrow_1 kb_8 ?_
  rcases if_some h with ⟨c1, h⟩ | ⟨c1, h⟩
  · refine g_icmp_ne (tgt := 11) hG dX12_narrow_3 rfl (fun q => absurd c1 q) (fun _ => ?_)
    refine g_iload_n hG dX12_narrow_6 rfl ?_
    refine g_i2b hG dX12_narrow_7 ?_
    refine g_goto (tgt := 23) hG dX12_narrow_8 rfl ?_
    cases h
    exact K _ _ dX12_narrow_23
  · refine g_icmp_ne (tgt := 11) hG dX12_narrow_3 rfl (fun _ => ?_) (fun q => absurd q c1)
    refine g_iload_n hG dX12_narrow_11 rfl ?_
    refine g_bipushv hG dX12_narrow_12 kb_16 ?_
    rcases if_some h with ⟨c2, h⟩ | ⟨c2, h⟩
    · refine g_icmp_ne (tgt := 22) hG dX12_narrow_14 rfl (fun q => absurd c2 q) (fun _ => ?_)
      refine g_iload_n hG dX12_narrow_17 rfl ?_
      refine g_i2s hG dX12_narrow_18 ?_
      refine g_goto (tgt := 23) hG dX12_narrow_19 rfl ?_
      cases h
      exact K _ _ dX12_narrow_23
    · refine g_icmp_ne (tgt := 22) hG dX12_narrow_14 rfl (fun _ => ?_) (fun q => absurd q c2)
      refine g_iload_n hG dX12_narrow_22 rfl ?_
      cases h
      exact K _ _ dX12_narrow_23
def M_sheet_b93 : Nat → Int32 → Int32 → RS → Option (Int32 × RS)
  | 0, _, _, _ => none
  | n + 1, x1, x4, σ => (if (40 : Int32) ≤ x4 then (some ((1 : Int32), σ)) else (gd (inb (((40 : Int32) * x1) + x4) 160) (lt (ra σ 18 (upd (σ.2 18) (ix (((40 : Int32) * x1) + x4)) (0 : Int32))) fun σ21 => ((M_sheet_b93  n) x1 (x4 + (1 : Int32)) σ21))))
set_option maxRecDepth 100000 in
set_option maxHeartbeats 4000000 in
theorem s_M_sheet_b93 {g : GP} {l : Launch} {r : Nat → Nat} {X : va_W} {G : GT} {v9 : Int32} {s9 : RS} (hG : IsG g l yX12_sheet cX12_sheet 5 { frames := 2, cells := 0, slots := 0, locals := 42 } G) (K : ∀ L pc, decode cX12_sheet pc = .ok (.ireturn, 1) → G 0 0 (wR g r s9 X) L pc [.int v9]) : ∀ (n : Nat) (x1 : Int32) (x4 : Int32) (σ : RS) (h : M_sheet_b93  n x1 x4 σ = some (v9, s9)), G 0 0 (wR g r σ X) [(0, .ref (r 25)), (1, .int x1), (4, .int x4)] 93 [] := by
  intro n
  induction n with
  | zero => intro _ _ σ h; cases h
  | succ n ih =>
    intro x1 x4 σ h
    unfold M_sheet_b93 at h
    refine g_iload hG dX12_sheet_93 rfl ?_
    refine g_bipushv hG dX12_sheet_95 kb_40 ?_
    rcases if_some h with ⟨c19, h⟩ | ⟨c19, h⟩
    · refine g_icmp_ge (tgt := 119) hG dX12_sheet_97 rfl (fun _ => ?_) (fun q => absurd c19 q)
      refine g_iconstv hG dX12_sheet_119 ki_1 ?_
      cases h
      exact K _ _ dX12_sheet_120
    · refine g_icmp_ge (tgt := 119) hG dX12_sheet_97 rfl (fun q => absurd q c19) (fun _ => ?_)
      refine g_aload_n hG dX12_sheet_100 rfl ?_
      refine r_get 18 hG dX12_sheet_101 f_X12_31 (by decide) rfl ?_
      refine g_bipushv hG dX12_sheet_104 kb_40 ?_
      refine g_iload_n hG dX12_sheet_106 rfl ?_
      refine g_imul hG dX12_sheet_107 ?_
      refine g_iload hG dX12_sheet_108 rfl ?_
      refine g_iadd hG dX12_sheet_110 ?_
      refine g_iconstv hG dX12_sheet_111 ki_0 ?_
      obtain ⟨b20, h⟩ := gd_some h
      obtain ⟨σ21, e22, h⟩ := lt_ex h
      refine r_iast 8 18 160 hG e22 dX12_sheet_112 rfl b20 rfl rfl ?_
      refine g_iincv (c := (1 : Int32)) hG dX12_sheet_113 rfl (by decide) (by decide) ?_
      refine g_goto (tgt := 93) hG dX12_sheet_116 rfl ?_
      refine g_loc hG [(0, .ref (r 25)), (1, .int x1), (4, .int (x4 + (1 : Int32)))] ⟨rfl, rfl, rfl, trivial⟩ ?_
      exact ih _ _ _ h
def M_sheet_b68 (x1 : Int32) (x2 : Int32) (x3 : Int32) (σ : RS) : Option (Int32 × RS) := (gd (inb x1 4) (lt (ra σ 16 (upd (σ.2 16) (ix x1) x2)) fun σ12 => (gd (inb x1 4) (lt (ra σ12 17 (upd (σ12.2 17) (ix x1) (if x2 = 0 then (0 : Int32) else x3))) fun σ17 => (M_sheet_b93  FU x1 (0 : Int32) σ17)))))
set_option maxRecDepth 100000 in
set_option maxHeartbeats 4000000 in
theorem s_M_sheet_b68 {g : GP} {l : Launch} {r : Nat → Nat} {X : va_W} {G : GT} {v9 : Int32} {s9 : RS} (hG : IsG g l yX12_sheet cX12_sheet 5 { frames := 2, cells := 0, slots := 0, locals := 42 } G) (K : ∀ L pc, decode cX12_sheet pc = .ok (.ireturn, 1) → G 0 0 (wR g r s9 X) L pc [.int v9]) {x1 : Int32} {x2 : Int32} {x3 : Int32} {σ : RS} (h : M_sheet_b68  x1 x2 x3 σ = some (v9, s9)) : G 0 0 (wR g r σ X) [(0, .ref (r 25)), (1, .int x1), (2, .int x2), (3, .int x3)] 68 [] := by
  unfold M_sheet_b68 at h
  refine g_aload_n hG dX12_sheet_68 rfl ?_
  refine r_get 16 hG dX12_sheet_69 f_X12_25 (by decide) rfl ?_
  refine g_iload_n hG dX12_sheet_72 rfl ?_
  refine g_iload_n hG dX12_sheet_73 rfl ?_
  obtain ⟨b11, h⟩ := gd_some h
  obtain ⟨σ12, e13, h⟩ := lt_ex h
  refine r_iast 6 16 4 hG e13 dX12_sheet_74 rfl b11 rfl rfl ?_
  refine g_aload_n hG dX12_sheet_75 rfl ?_
  refine r_get 17 hG dX12_sheet_76 f_X12_28 (by decide) rfl ?_
  refine g_iload_n hG dX12_sheet_79 rfl ?_
  refine g_iload_n hG dX12_sheet_80 rfl ?_
  refine g_dia1 (if x2 = 0 then (0 : Int32) else x3) 89 (fun J14 => ?_) ?_
  · by_cases c15 : x2 = 0
    · refine g_if_ne (tgt := 88) hG dX12_sheet_81 rfl (fun q => absurd c15 q) (fun _ => ?_)
      refine g_iconstv hG dX12_sheet_84 ki_0 ?_
      refine g_goto (tgt := 89) hG dX12_sheet_85 rfl ?_
      rw [if_pos c15] at J14
      exact J14
    · refine g_if_ne (tgt := 88) hG dX12_sheet_81 rfl (fun _ => ?_) (fun q => absurd q c15)
      refine g_iload_n hG dX12_sheet_88 rfl ?_
      rw [if_neg c15] at J14
      exact J14
  obtain ⟨b16, h⟩ := gd_some h
  obtain ⟨σ17, e18, h⟩ := lt_ex h
  refine r_iast 7 17 4 hG e18 dX12_sheet_89 rfl b16 rfl rfl ?_
  refine g_iconstv hG dX12_sheet_90 ki_0 ?_
  refine g_istore hG dX12_sheet_91 (by decide) ?_
  refine g_loc hG [(0, .ref (r 25)), (1, .int x1), (4, .int (0 : Int32))] ⟨rfl, rfl, rfl, trivial⟩ ?_
  exact s_M_sheet_b93  hG K FU _ _ _ h
def M_sheet_b51 (x1 : Int32) (x2 : Int32) (x3 : Int32) (σ : RS) : Option (Int32 × RS) := (if x2 = 0 then (M_sheet_b68  x1 x2 x3 σ) else (if x3 ≤ (40 : Int32) then (M_sheet_b68  x1 x2 x3 σ) else (ob (M_errs (-1000000001 : Int32) σ) fun v24 σ25 => (some (v24, σ25)))))
set_option maxRecDepth 100000 in
set_option maxHeartbeats 4000000 in
theorem s_M_sheet_b51 {g : GP} {l : Launch} {r : Nat → Nat} {X : va_W} {G : GT} {v9 : Int32} {s9 : RS} (hG : IsG g l yX12_sheet cX12_sheet 5 { frames := 2, cells := 0, slots := 0, locals := 42 } G) (K : ∀ L pc, decode cX12_sheet pc = .ok (.ireturn, 1) → G 0 0 (wR g r s9 X) L pc [.int v9]) {x1 : Int32} {x2 : Int32} {x3 : Int32} {σ : RS} (h : M_sheet_b51  x1 x2 x3 σ = some (v9, s9)) : G 0 0 (wR g r σ X) [(0, .ref (r 25)), (1, .int x1), (2, .int x2), (3, .int x3)] 51 [] := by
  unfold M_sheet_b51 at h
  refine g_iload_n hG dX12_sheet_51 rfl ?_
  rcases if_some h with ⟨c10, h⟩ | ⟨c10, h⟩
  · refine g_if_eq (tgt := 68) hG dX12_sheet_52 rfl (fun _ => ?_) (fun q => absurd c10 q)
    refine g_loc hG [(0, .ref (r 25)), (1, .int x1), (2, .int x2), (3, .int x3)] ⟨rfl, rfl, rfl, rfl, trivial⟩ ?_
    exact s_M_sheet_b68  hG K  h
  · refine g_if_eq (tgt := 68) hG dX12_sheet_52 rfl (fun q => absurd q c10) (fun _ => ?_)
    refine g_iload_n hG dX12_sheet_55 rfl ?_
    refine g_bipushv hG dX12_sheet_56 kb_40 ?_
    rcases if_some h with ⟨c23, h⟩ | ⟨c23, h⟩
    · refine g_icmp_le (tgt := 68) hG dX12_sheet_58 rfl (fun _ => ?_) (fun q => absurd c23 q)
      refine g_loc hG [(0, .ref (r 25)), (1, .int x1), (2, .int x2), (3, .int x3)] ⟨rfl, rfl, rfl, rfl, trivial⟩ ?_
      exact s_M_sheet_b68  hG K  h
    · refine g_icmp_le (tgt := 68) hG dX12_sheet_58 rfl (fun q => absurd q c23) (fun _ => ?_)
      refine g_aload_n hG dX12_sheet_61 rfl ?_
      refine g_ldc hG dX12_sheet_62 k_X12_45 ?_
      obtain ⟨v24, σ25, q26, h⟩ := ob_some h
      refine g_cV hG dX12_sheet_64 (c_M_errs q26) b_X12_errs v_X12_46 rfl (k := 0) rfl rfl ⟨Nat.le_of_ble_eq_true rfl, Nat.le_of_ble_eq_true rfl⟩ ⟨rfl, rfl⟩ ⟨Nat.zero_le _, Nat.zero_le _⟩ _ rfl (Nat.le_of_ble_eq_true rfl) ?_
      cases h
      exact K _ _ dX12_sheet_67
def M_sheet_b36 (x1 : Int32) (x2 : Int32) (x3 : Int32) (σ : RS) : Option (Int32 × RS) := (if x2 = 0 then (M_sheet_b51  x1 x2 x3 σ) else (if 0 ≤ x3 then (M_sheet_b51  x1 x2 x3 σ) else (ob (M_errs (-1000000003 : Int32) σ) fun v28 σ29 => (some (v28, σ29)))))
set_option maxRecDepth 100000 in
set_option maxHeartbeats 4000000 in
theorem s_M_sheet_b36 {g : GP} {l : Launch} {r : Nat → Nat} {X : va_W} {G : GT} {v9 : Int32} {s9 : RS} (hG : IsG g l yX12_sheet cX12_sheet 5 { frames := 2, cells := 0, slots := 0, locals := 42 } G) (K : ∀ L pc, decode cX12_sheet pc = .ok (.ireturn, 1) → G 0 0 (wR g r s9 X) L pc [.int v9]) {x1 : Int32} {x2 : Int32} {x3 : Int32} {σ : RS} (h : M_sheet_b36  x1 x2 x3 σ = some (v9, s9)) : G 0 0 (wR g r σ X) [(0, .ref (r 25)), (1, .int x1), (2, .int x2), (3, .int x3)] 36 [] := by
  unfold M_sheet_b36 at h
  refine g_iload_n hG dX12_sheet_36 rfl ?_
  rcases if_some h with ⟨c9, h⟩ | ⟨c9, h⟩
  · refine g_if_eq (tgt := 51) hG dX12_sheet_37 rfl (fun _ => ?_) (fun q => absurd c9 q)
    refine g_loc hG [(0, .ref (r 25)), (1, .int x1), (2, .int x2), (3, .int x3)] ⟨rfl, rfl, rfl, rfl, trivial⟩ ?_
    exact s_M_sheet_b51  hG K  h
  · refine g_if_eq (tgt := 51) hG dX12_sheet_37 rfl (fun q => absurd q c9) (fun _ => ?_)
    refine g_iload_n hG dX12_sheet_40 rfl ?_
    rcases if_some h with ⟨c27, h⟩ | ⟨c27, h⟩
    · refine g_if_ge (tgt := 51) hG dX12_sheet_41 rfl (fun _ => ?_) (fun q => absurd c27 q)
      refine g_loc hG [(0, .ref (r 25)), (1, .int x1), (2, .int x2), (3, .int x3)] ⟨rfl, rfl, rfl, rfl, trivial⟩ ?_
      exact s_M_sheet_b51  hG K  h
    · refine g_if_ge (tgt := 51) hG dX12_sheet_41 rfl (fun q => absurd q c27) (fun _ => ?_)
      refine g_aload_n hG dX12_sheet_44 rfl ?_
      refine g_ldc hG dX12_sheet_45 k_X12_174 ?_
      obtain ⟨v28, σ29, q30, h⟩ := ob_some h
      refine g_cV hG dX12_sheet_47 (c_M_errs q30) b_X12_errs v_X12_46 rfl (k := 0) rfl rfl ⟨Nat.le_of_ble_eq_true rfl, Nat.le_of_ble_eq_true rfl⟩ ⟨rfl, rfl⟩ ⟨Nat.zero_le _, Nat.zero_le _⟩ _ rfl (Nat.le_of_ble_eq_true rfl) ?_
      cases h
      exact K _ _ dX12_sheet_50
def M_sheet (x1 : Int32) (x2 : Int32) (x3 : Int32) (σ : RS) : Option (Int32 × RS) := (ob (M_isSheet x1 σ) fun v1 σ2 => (if v1 = 0 then (ob (M_errs (-1000000001 : Int32) σ2) fun v5 σ6 => (some (v5, σ6))) else (if x2 = 0 then (M_sheet_b36  x1 x2 x3 σ2) else (if x2 = (8 : Int32) then (M_sheet_b36  x1 x2 x3 σ2) else (if x2 = (16 : Int32) then (M_sheet_b36  x1 x2 x3 σ2) else (if x2 = (32 : Int32) then (M_sheet_b36  x1 x2 x3 σ2) else (ob (M_errs (-1000000001 : Int32) σ2) fun v34 σ35 => (some (v34, σ35)))))))))
set_option maxRecDepth 100000 in
set_option maxHeartbeats 4000000 in
theorem c_M_sheet {g : GP} {l : Launch} {r : Nat → Nat} {X : va_W} {v9 : Int32} {s9 : RS} {x1 : Int32} {x2 : Int32} {x3 : Int32} {σ : RS} (h : M_sheet x1 x2 x3 σ = some (v9, s9)) : CI g l yX12_sheet cX12_sheet 5 (some .int) { frames := 2, cells := 0, slots := 0, locals := 42 } [.ref (r 25), .int x1, .int x2, .int x3] (wR g r σ X) (fun r0 w => r0 = v9 ∧ w = wR g r s9 X) := by
  refine CI.mk (by decide) (Nat.le_of_ble_eq_true rfl) (fun G hG hret => ?_)
  have K : ∀ L pc, decode cX12_sheet pc = .ok (.ireturn, 1) → G 0 0 (wR g r s9 X) L pc [.int v9] := fun L pc d => hret _ L pc v9 d rfl ⟨rfl, rfl⟩
  unfold M_sheet at h
  refine g_iload_n hG dX12_sheet_0 rfl ?_
  obtain ⟨v1, σ2, q3, h⟩ := ob_some h
  refine g_cS hG dX12_sheet_1 (c_M_isSheet q3) b_X12_isSheet v_X12_203 rfl ⟨Nat.le_of_ble_eq_true rfl, Nat.le_of_ble_eq_true rfl⟩ ⟨rfl, rfl⟩ ⟨Nat.zero_le _, Nat.zero_le _⟩ _ rfl (Nat.le_of_ble_eq_true rfl) ?_
  rcases if_some h with ⟨c4, h⟩ | ⟨c4, h⟩
  · refine g_if_eq (tgt := 29) hG dX12_sheet_4 rfl (fun _ => ?_) (fun q => absurd c4 q)
    refine g_aload_n hG dX12_sheet_29 rfl ?_
    refine g_ldc hG dX12_sheet_30 k_X12_45 ?_
    obtain ⟨v5, σ6, q7, h⟩ := ob_some h
    refine g_cV hG dX12_sheet_32 (c_M_errs q7) b_X12_errs v_X12_46 rfl (k := 0) rfl rfl ⟨Nat.le_of_ble_eq_true rfl, Nat.le_of_ble_eq_true rfl⟩ ⟨rfl, rfl⟩ ⟨Nat.zero_le _, Nat.zero_le _⟩ _ rfl (Nat.le_of_ble_eq_true rfl) ?_
    cases h
    exact K _ _ dX12_sheet_35
  · refine g_if_eq (tgt := 29) hG dX12_sheet_4 rfl (fun q => absurd q c4) (fun _ => ?_)
    refine g_iload_n hG dX12_sheet_7 rfl ?_
    rcases if_some h with ⟨c8, h⟩ | ⟨c8, h⟩
    · refine g_if_eq (tgt := 36) hG dX12_sheet_8 rfl (fun _ => ?_) (fun q => absurd c8 q)
      refine g_loc hG [(0, .ref (r 25)), (1, .int x1), (2, .int x2), (3, .int x3)] ⟨rfl, rfl, rfl, rfl, trivial⟩ ?_
      exact s_M_sheet_b36  hG K  h
    · refine g_if_eq (tgt := 36) hG dX12_sheet_8 rfl (fun q => absurd q c8) (fun _ => ?_)
      refine g_iload_n hG dX12_sheet_11 rfl ?_
      refine g_bipushv hG dX12_sheet_12 kb_8 ?_
      rcases if_some h with ⟨c31, h⟩ | ⟨c31, h⟩
      · refine g_icmp_eq (tgt := 36) hG dX12_sheet_14 rfl (fun _ => ?_) (fun q => absurd c31 q)
        refine g_loc hG [(0, .ref (r 25)), (1, .int x1), (2, .int x2), (3, .int x3)] ⟨rfl, rfl, rfl, rfl, trivial⟩ ?_
        exact s_M_sheet_b36  hG K  h
      · refine g_icmp_eq (tgt := 36) hG dX12_sheet_14 rfl (fun q => absurd q c31) (fun _ => ?_)
        refine g_iload_n hG dX12_sheet_17 rfl ?_
        refine g_bipushv hG dX12_sheet_18 kb_16 ?_
        rcases if_some h with ⟨c32, h⟩ | ⟨c32, h⟩
        · refine g_icmp_eq (tgt := 36) hG dX12_sheet_20 rfl (fun _ => ?_) (fun q => absurd c32 q)
          refine g_loc hG [(0, .ref (r 25)), (1, .int x1), (2, .int x2), (3, .int x3)] ⟨rfl, rfl, rfl, rfl, trivial⟩ ?_
          exact s_M_sheet_b36  hG K  h
        · refine g_icmp_eq (tgt := 36) hG dX12_sheet_20 rfl (fun q => absurd q c32) (fun _ => ?_)
          refine g_iload_n hG dX12_sheet_23 rfl ?_
          refine g_bipushv hG dX12_sheet_24 kb_32 ?_
          rcases if_some h with ⟨c33, h⟩ | ⟨c33, h⟩
          · refine g_icmp_eq (tgt := 36) hG dX12_sheet_26 rfl (fun _ => ?_) (fun q => absurd c33 q)
            refine g_loc hG [(0, .ref (r 25)), (1, .int x1), (2, .int x2), (3, .int x3)] ⟨rfl, rfl, rfl, rfl, trivial⟩ ?_
            exact s_M_sheet_b36  hG K  h
          · refine g_icmp_eq (tgt := 36) hG dX12_sheet_26 rfl (fun q => absurd q c33) (fun _ => ?_)
            refine g_aload_n hG dX12_sheet_29 rfl ?_
            refine g_ldc hG dX12_sheet_30 k_X12_45 ?_
            obtain ⟨v34, σ35, q36, h⟩ := ob_some h
            refine g_cV hG dX12_sheet_32 (c_M_errs q36) b_X12_errs v_X12_46 rfl (k := 0) rfl rfl ⟨Nat.le_of_ble_eq_true rfl, Nat.le_of_ble_eq_true rfl⟩ ⟨rfl, rfl⟩ ⟨Nat.zero_le _, Nat.zero_le _⟩ _ rfl (Nat.le_of_ble_eq_true rfl) ?_
            cases h
            exact K _ _ dX12_sheet_35
def M_put (x1 : Int32) (x2 : Int32) (x3 : Int32) (σ : RS) : Option (Int32 × RS) := (ob (M_isSheet x1 σ) fun v1 σ2 => (if v1 = 0 then (ob (M_errs (-1000000001 : Int32) σ2) fun v5 σ6 => (some (v5, σ6))) else (gd (inb x1 4) (if (σ2.2 16 (ix x1)) = 0 then (ob (M_errs (-1000000002 : Int32) σ2) fun v10 σ11 => (some (v10, σ11))) else (gd (inb x1 4) (ob (M_in x2 (0 : Int32) ((σ2.2 17 (ix x1)) - (1 : Int32)) σ2) fun v14 σ15 => (if v14 = 0 then (ob (M_errs (-1000000001 : Int32) σ15) fun v18 σ19 => (some (v18, σ19))) else (gd (inb x1 4) (ob (M_narrow (σ15.2 16 (ix x1)) x3 σ15) fun v22 σ23 => (gd (inb (((40 : Int32) * x1) + x2) 160) (lt (ra σ23 18 (upd (σ23.2 18) (ix (((40 : Int32) * x1) + x2)) v22)) fun σ26 => (some ((1 : Int32), σ26)))))))))))))
set_option maxRecDepth 100000 in
set_option maxHeartbeats 4000000 in
theorem c_M_put {g : GP} {l : Launch} {r : Nat → Nat} {X : va_W} {v9 : Int32} {s9 : RS} {x1 : Int32} {x2 : Int32} {x3 : Int32} {σ : RS} (h : M_put x1 x2 x3 σ = some (v9, s9)) : CI g l yX12_put cX12_put 4 (some .int) { frames := 2, cells := 0, slots := 0, locals := 42 } [.ref (r 25), .int x1, .int x2, .int x3] (wR g r σ X) (fun r0 w => r0 = v9 ∧ w = wR g r s9 X) := by
  refine CI.mk (by decide) (Nat.le_of_ble_eq_true rfl) (fun G hG hret => ?_)
  have K : ∀ L pc, decode cX12_put pc = .ok (.ireturn, 1) → G 0 0 (wR g r s9 X) L pc [.int v9] := fun L pc d => hret _ L pc v9 d rfl ⟨rfl, rfl⟩
  unfold M_put at h
  refine g_iload_n hG dX12_put_0 rfl ?_
  obtain ⟨v1, σ2, q3, h⟩ := ob_some h
  refine g_cS hG dX12_put_1 (c_M_isSheet q3) b_X12_isSheet v_X12_203 rfl ⟨Nat.le_of_ble_eq_true rfl, Nat.le_of_ble_eq_true rfl⟩ ⟨rfl, rfl⟩ ⟨Nat.zero_le _, Nat.zero_le _⟩ _ rfl (Nat.le_of_ble_eq_true rfl) ?_
  rcases if_some h with ⟨c4, h⟩ | ⟨c4, h⟩
  · refine g_if_ne (tgt := 14) hG dX12_put_4 rfl (fun q => absurd c4 q) (fun _ => ?_)
    refine g_aload_n hG dX12_put_7 rfl ?_
    refine g_ldc hG dX12_put_8 k_X12_45 ?_
    obtain ⟨v5, σ6, q7, h⟩ := ob_some h
    refine g_cV hG dX12_put_10 (c_M_errs q7) b_X12_errs v_X12_46 rfl (k := 0) rfl rfl ⟨Nat.le_of_ble_eq_true rfl, Nat.le_of_ble_eq_true rfl⟩ ⟨rfl, rfl⟩ ⟨Nat.zero_le _, Nat.zero_le _⟩ _ rfl (Nat.le_of_ble_eq_true rfl) ?_
    cases h
    exact K _ _ dX12_put_13
  · refine g_if_ne (tgt := 14) hG dX12_put_4 rfl (fun _ => ?_) (fun q => absurd q c4)
    refine g_aload_n hG dX12_put_14 rfl ?_
    refine r_get 16 hG dX12_put_15 f_X12_25 (by decide) rfl ?_
    refine g_iload_n hG dX12_put_18 rfl ?_
    obtain ⟨b8, h⟩ := gd_some h
    refine r_iald 6 16 4 hG dX12_put_19 rfl b8 rfl ?_
    rcases if_some h with ⟨c9, h⟩ | ⟨c9, h⟩
    · refine g_if_ne (tgt := 30) hG dX12_put_20 rfl (fun q => absurd c9 q) (fun _ => ?_)
      refine g_aload_n hG dX12_put_23 rfl ?_
      refine g_ldc hG dX12_put_24 k_X12_189 ?_
      obtain ⟨v10, σ11, q12, h⟩ := ob_some h
      refine g_cV hG dX12_put_26 (c_M_errs q12) b_X12_errs v_X12_46 rfl (k := 0) rfl rfl ⟨Nat.le_of_ble_eq_true rfl, Nat.le_of_ble_eq_true rfl⟩ ⟨rfl, rfl⟩ ⟨Nat.zero_le _, Nat.zero_le _⟩ _ rfl (Nat.le_of_ble_eq_true rfl) ?_
      cases h
      exact K _ _ dX12_put_29
    · refine g_if_ne (tgt := 30) hG dX12_put_20 rfl (fun _ => ?_) (fun q => absurd q c9)
      refine g_iload_n hG dX12_put_30 rfl ?_
      refine g_iconstv hG dX12_put_31 ki_0 ?_
      refine g_aload_n hG dX12_put_32 rfl ?_
      refine r_get 17 hG dX12_put_33 f_X12_28 (by decide) rfl ?_
      refine g_iload_n hG dX12_put_36 rfl ?_
      obtain ⟨b13, h⟩ := gd_some h
      refine r_iald 7 17 4 hG dX12_put_37 rfl b13 rfl ?_
      refine g_iconstv hG dX12_put_38 ki_1 ?_
      refine g_isub hG dX12_put_39 ?_
      obtain ⟨v14, σ15, q16, h⟩ := ob_some h
      refine g_cS hG dX12_put_40 (c_M_in q16) b_X12_in v_X12_41 rfl ⟨Nat.le_of_ble_eq_true rfl, Nat.le_of_ble_eq_true rfl⟩ ⟨rfl, rfl⟩ ⟨Nat.zero_le _, Nat.zero_le _⟩ _ rfl (Nat.le_of_ble_eq_true rfl) ?_
      rcases if_some h with ⟨c17, h⟩ | ⟨c17, h⟩
      · refine g_if_ne (tgt := 53) hG dX12_put_43 rfl (fun q => absurd c17 q) (fun _ => ?_)
        refine g_aload_n hG dX12_put_46 rfl ?_
        refine g_ldc hG dX12_put_47 k_X12_45 ?_
        obtain ⟨v18, σ19, q20, h⟩ := ob_some h
        refine g_cV hG dX12_put_49 (c_M_errs q20) b_X12_errs v_X12_46 rfl (k := 0) rfl rfl ⟨Nat.le_of_ble_eq_true rfl, Nat.le_of_ble_eq_true rfl⟩ ⟨rfl, rfl⟩ ⟨Nat.zero_le _, Nat.zero_le _⟩ _ rfl (Nat.le_of_ble_eq_true rfl) ?_
        cases h
        exact K _ _ dX12_put_52
      · refine g_if_ne (tgt := 53) hG dX12_put_43 rfl (fun _ => ?_) (fun q => absurd q c17)
        refine g_aload_n hG dX12_put_53 rfl ?_
        refine r_get 18 hG dX12_put_54 f_X12_31 (by decide) rfl ?_
        refine g_bipushv hG dX12_put_57 kb_40 ?_
        refine g_iload_n hG dX12_put_59 rfl ?_
        refine g_imul hG dX12_put_60 ?_
        refine g_iload_n hG dX12_put_61 rfl ?_
        refine g_iadd hG dX12_put_62 ?_
        refine g_aload_n hG dX12_put_63 rfl ?_
        refine r_get 16 hG dX12_put_64 f_X12_25 (by decide) rfl ?_
        refine g_iload_n hG dX12_put_67 rfl ?_
        obtain ⟨b21, h⟩ := gd_some h
        refine r_iald 6 16 4 hG dX12_put_68 rfl b21 rfl ?_
        refine g_iload_n hG dX12_put_69 rfl ?_
        obtain ⟨v22, σ23, q24, h⟩ := ob_some h
        refine g_cS hG dX12_put_70 (c_M_narrow q24) b_X12_narrow v_X12_239 rfl ⟨Nat.le_of_ble_eq_true rfl, Nat.le_of_ble_eq_true rfl⟩ ⟨rfl, rfl⟩ ⟨Nat.zero_le _, Nat.zero_le _⟩ _ rfl (Nat.le_of_ble_eq_true rfl) ?_
        obtain ⟨b25, h⟩ := gd_some h
        obtain ⟨σ26, e27, h⟩ := lt_ex h
        refine r_iast 8 18 160 hG e27 dX12_put_73 rfl b25 rfl rfl ?_
        refine g_iconstv hG dX12_put_74 ki_1 ?_
        cases h
        exact K _ _ dX12_put_75
def M_move_b156 : Nat → Int32 → Int32 → Int32 → Int32 → RS → Option (Int32 × RS)
  | 0, _, _, _, _, _ => none
  | n + 1, x3, x4, x5, x6, σ => (if x5 ≤ x6 then (some (x5, σ)) else (gd (inb x6 40) (gd (inb ((((40 : Int32) * x3) + x4) + x6) 160) (lt (ra σ 18 (upd (σ.2 18) (ix ((((40 : Int32) * x3) + x4) + x6)) (σ.2 19 (ix x6)))) fun σ51 => ((M_move_b156  n) x3 x4 x5 (x6 + (1 : Int32)) σ51)))))
set_option maxRecDepth 100000 in
set_option maxHeartbeats 4000000 in
theorem s_M_move_b156 {g : GP} {l : Launch} {r : Nat → Nat} {X : va_W} {G : GT} {v9 : Int32} {s9 : RS} (hG : IsG g l yX12_move cX12_move 7 { frames := 2, cells := 0, slots := 0, locals := 42 } G) (K : ∀ L pc, decode cX12_move pc = .ok (.ireturn, 1) → G 0 0 (wR g r s9 X) L pc [.int v9]) : ∀ (n : Nat) (x3 : Int32) (x4 : Int32) (x5 : Int32) (x6 : Int32) (σ : RS) (h : M_move_b156  n x3 x4 x5 x6 σ = some (v9, s9)), G 0 0 (wR g r σ X) [(0, .ref (r 25)), (3, .int x3), (4, .int x4), (5, .int x5), (6, .int x6)] 156 [] := by
  intro n
  induction n with
  | zero => intro _ _ _ _ σ h; cases h
  | succ n ih =>
    intro x3 x4 x5 x6 σ h
    unfold M_move_b156 at h
    refine g_iload hG dX12_move_156 rfl ?_
    refine g_iload hG dX12_move_158 rfl ?_
    rcases if_some h with ⟨c48, h⟩ | ⟨c48, h⟩
    · refine g_icmp_ge (tgt := 191) hG dX12_move_160 rfl (fun _ => ?_) (fun q => absurd c48 q)
      refine g_iload hG dX12_move_191 rfl ?_
      cases h
      exact K _ _ dX12_move_193
    · refine g_icmp_ge (tgt := 191) hG dX12_move_160 rfl (fun q => absurd q c48) (fun _ => ?_)
      refine g_aload_n hG dX12_move_163 rfl ?_
      refine r_get 18 hG dX12_move_164 f_X12_31 (by decide) rfl ?_
      refine g_bipushv hG dX12_move_167 kb_40 ?_
      refine g_iload_n hG dX12_move_169 rfl ?_
      refine g_imul hG dX12_move_170 ?_
      refine g_iload hG dX12_move_171 rfl ?_
      refine g_iadd hG dX12_move_173 ?_
      refine g_iload hG dX12_move_174 rfl ?_
      refine g_iadd hG dX12_move_176 ?_
      refine g_aload_n hG dX12_move_177 rfl ?_
      refine r_get 19 hG dX12_move_178 f_X12_34 (by decide) rfl ?_
      refine g_iload hG dX12_move_181 rfl ?_
      obtain ⟨b49, h⟩ := gd_some h
      refine r_iald 9 19 40 hG dX12_move_183 rfl b49 rfl ?_
      obtain ⟨b50, h⟩ := gd_some h
      obtain ⟨σ51, e52, h⟩ := lt_ex h
      refine r_iast 8 18 160 hG e52 dX12_move_184 rfl b50 rfl rfl ?_
      refine g_iincv (c := (1 : Int32)) hG dX12_move_185 rfl (by decide) (by decide) ?_
      refine g_goto (tgt := 156) hG dX12_move_188 rfl ?_
      refine g_loc hG [(0, .ref (r 25)), (3, .int x3), (4, .int x4), (5, .int x5), (6, .int (x6 + (1 : Int32)))] ⟨rfl, rfl, rfl, rfl, rfl, trivial⟩ ?_
      exact ih _ _ _ _ _ h
def M_move_b119 : Nat → Int32 → Int32 → Int32 → Int32 → Int32 → Int32 → RS → Option (Int32 × RS)
  | 0, _, _, _, _, _, _, _ => none
  | n + 1, x1, x2, x3, x4, x5, x6, σ => (if x5 ≤ x6 then (M_move_b156  FU x3 x4 x5 (0 : Int32) σ) else (gd (inb ((((40 : Int32) * x1) + x2) + x6) 160) (gd (inb x6 40) (lt (ra σ 19 (upd (σ.2 19) (ix x6) (σ.2 18 (ix ((((40 : Int32) * x1) + x2) + x6))))) fun σ55 => ((M_move_b119  n) x1 x2 x3 x4 x5 (x6 + (1 : Int32)) σ55)))))
set_option maxRecDepth 100000 in
set_option maxHeartbeats 4000000 in
theorem s_M_move_b119 {g : GP} {l : Launch} {r : Nat → Nat} {X : va_W} {G : GT} {v9 : Int32} {s9 : RS} (hG : IsG g l yX12_move cX12_move 7 { frames := 2, cells := 0, slots := 0, locals := 42 } G) (K : ∀ L pc, decode cX12_move pc = .ok (.ireturn, 1) → G 0 0 (wR g r s9 X) L pc [.int v9]) : ∀ (n : Nat) (x1 : Int32) (x2 : Int32) (x3 : Int32) (x4 : Int32) (x5 : Int32) (x6 : Int32) (σ : RS) (h : M_move_b119  n x1 x2 x3 x4 x5 x6 σ = some (v9, s9)), G 0 0 (wR g r σ X) [(0, .ref (r 25)), (1, .int x1), (2, .int x2), (3, .int x3), (4, .int x4), (5, .int x5), (6, .int x6)] 119 [] := by
  intro n
  induction n with
  | zero => intro _ _ _ _ _ _ σ h; cases h
  | succ n ih =>
    intro x1 x2 x3 x4 x5 x6 σ h
    unfold M_move_b119 at h
    refine g_iload hG dX12_move_119 rfl ?_
    refine g_iload hG dX12_move_121 rfl ?_
    rcases if_some h with ⟨c47, h⟩ | ⟨c47, h⟩
    · refine g_icmp_ge (tgt := 153) hG dX12_move_123 rfl (fun _ => ?_) (fun q => absurd c47 q)
      refine g_iconstv hG dX12_move_153 ki_0 ?_
      refine g_istore hG dX12_move_154 (by decide) ?_
      refine g_loc hG [(0, .ref (r 25)), (3, .int x3), (4, .int x4), (5, .int x5), (6, .int (0 : Int32))] ⟨rfl, rfl, rfl, rfl, rfl, trivial⟩ ?_
      exact s_M_move_b156  hG K FU _ _ _ _ _ h
    · refine g_icmp_ge (tgt := 153) hG dX12_move_123 rfl (fun q => absurd q c47) (fun _ => ?_)
      refine g_aload_n hG dX12_move_126 rfl ?_
      refine r_get 19 hG dX12_move_127 f_X12_34 (by decide) rfl ?_
      refine g_iload hG dX12_move_130 rfl ?_
      refine g_aload_n hG dX12_move_132 rfl ?_
      refine r_get 18 hG dX12_move_133 f_X12_31 (by decide) rfl ?_
      refine g_bipushv hG dX12_move_136 kb_40 ?_
      refine g_iload_n hG dX12_move_138 rfl ?_
      refine g_imul hG dX12_move_139 ?_
      refine g_iload_n hG dX12_move_140 rfl ?_
      refine g_iadd hG dX12_move_141 ?_
      refine g_iload hG dX12_move_142 rfl ?_
      refine g_iadd hG dX12_move_144 ?_
      obtain ⟨b53, h⟩ := gd_some h
      refine r_iald 8 18 160 hG dX12_move_145 rfl b53 rfl ?_
      obtain ⟨b54, h⟩ := gd_some h
      obtain ⟨σ55, e56, h⟩ := lt_ex h
      refine r_iast 9 19 40 hG e56 dX12_move_146 rfl b54 rfl rfl ?_
      refine g_iincv (c := (1 : Int32)) hG dX12_move_147 rfl (by decide) (by decide) ?_
      refine g_goto (tgt := 119) hG dX12_move_150 rfl ?_
      refine g_loc hG [(0, .ref (r 25)), (1, .int x1), (2, .int x2), (3, .int x3), (4, .int x4), (5, .int x5), (6, .int (x6 + (1 : Int32)))] ⟨rfl, rfl, rfl, rfl, rfl, rfl, rfl, trivial⟩ ?_
      exact ih _ _ _ _ _ _ _ h
def M_move (x1 : Int32) (x2 : Int32) (x3 : Int32) (x4 : Int32) (x5 : Int32) (σ : RS) : Option (Int32 × RS) := (ob (M_isSheet x1 σ) fun v1 σ2 => (if v1 = 0 then (ob (M_errs (-1000000001 : Int32) σ2) fun v5 σ6 => (some (v5, σ6))) else (ob (M_isSheet x3 σ2) fun v8 σ9 => (if v8 = 0 then (ob (M_errs (-1000000001 : Int32) σ9) fun v12 σ13 => (some (v12, σ13))) else (gd (inb x1 4) (if (σ9.2 16 (ix x1)) = 0 then (ob (M_errs (-1000000002 : Int32) σ9) fun v17 σ18 => (some (v17, σ18))) else (gd (inb x3 4) (if (σ9.2 16 (ix x3)) = 0 then (ob (M_errs (-1000000002 : Int32) σ9) fun v22 σ23 => (some (v22, σ23))) else (gd (inb x1 4) (gd (inb x3 4) (if (σ9.2 16 (ix x1)) = (σ9.2 16 (ix x3)) then (if x5 < 0 then (ob (M_errs (-1000000001 : Int32) σ9) fun v29 σ30 => (some (v29, σ30))) else (if x2 < 0 then (ob (M_errs (-1000000001 : Int32) σ9) fun v33 σ34 => (some (v33, σ34))) else (if x4 < 0 then (ob (M_errs (-1000000001 : Int32) σ9) fun v37 σ38 => (some (v37, σ38))) else (gd (inb x1 4) (if ((σ9.2 17 (ix x1)) - x5) < x2 then (ob (M_errs (-1000000001 : Int32) σ9) fun v42 σ43 => (some (v42, σ43))) else (gd (inb x3 4) (if x4 ≤ ((σ9.2 17 (ix x3)) - x5) then (M_move_b119  FU x1 x2 x3 x4 x5 (0 : Int32) σ9) else (ob (M_errs (-1000000001 : Int32) σ9) fun v57 σ58 => (some (v57, σ58)))))))))) else (ob (M_errs (-1000000005 : Int32) σ9) fun v60 σ61 => (some (v60, σ61))))))))))))))
set_option maxRecDepth 100000 in
set_option maxHeartbeats 4000000 in
theorem c_M_move {g : GP} {l : Launch} {r : Nat → Nat} {X : va_W} {v9 : Int32} {s9 : RS} {x1 : Int32} {x2 : Int32} {x3 : Int32} {x4 : Int32} {x5 : Int32} {σ : RS} (h : M_move x1 x2 x3 x4 x5 σ = some (v9, s9)) : CI g l yX12_move cX12_move 7 (some .int) { frames := 2, cells := 0, slots := 0, locals := 42 } [.ref (r 25), .int x1, .int x2, .int x3, .int x4, .int x5] (wR g r σ X) (fun r0 w => r0 = v9 ∧ w = wR g r s9 X) := by
  refine CI.mk (by decide) (Nat.le_of_ble_eq_true rfl) (fun G hG hret => ?_)
  have K : ∀ L pc, decode cX12_move pc = .ok (.ireturn, 1) → G 0 0 (wR g r s9 X) L pc [.int v9] := fun L pc d => hret _ L pc v9 d rfl ⟨rfl, rfl⟩
  unfold M_move at h
  refine g_iload_n hG dX12_move_0 rfl ?_
  obtain ⟨v1, σ2, q3, h⟩ := ob_some h
  refine g_cS hG dX12_move_1 (c_M_isSheet q3) b_X12_isSheet v_X12_203 rfl ⟨Nat.le_of_ble_eq_true rfl, Nat.le_of_ble_eq_true rfl⟩ ⟨rfl, rfl⟩ ⟨Nat.zero_le _, Nat.zero_le _⟩ _ rfl (Nat.le_of_ble_eq_true rfl) ?_
  rcases if_some h with ⟨c4, h⟩ | ⟨c4, h⟩
  · refine g_if_eq (tgt := 14) hG dX12_move_4 rfl (fun _ => ?_) (fun q => absurd c4 q)
    refine g_aload_n hG dX12_move_14 rfl ?_
    refine g_ldc hG dX12_move_15 k_X12_45 ?_
    obtain ⟨v5, σ6, q7, h⟩ := ob_some h
    refine g_cV hG dX12_move_17 (c_M_errs q7) b_X12_errs v_X12_46 rfl (k := 0) rfl rfl ⟨Nat.le_of_ble_eq_true rfl, Nat.le_of_ble_eq_true rfl⟩ ⟨rfl, rfl⟩ ⟨Nat.zero_le _, Nat.zero_le _⟩ _ rfl (Nat.le_of_ble_eq_true rfl) ?_
    cases h
    exact K _ _ dX12_move_20
  · refine g_if_eq (tgt := 14) hG dX12_move_4 rfl (fun q => absurd q c4) (fun _ => ?_)
    refine g_iload_n hG dX12_move_7 rfl ?_
    obtain ⟨v8, σ9, q10, h⟩ := ob_some h
    refine g_cS hG dX12_move_8 (c_M_isSheet q10) b_X12_isSheet v_X12_203 rfl ⟨Nat.le_of_ble_eq_true rfl, Nat.le_of_ble_eq_true rfl⟩ ⟨rfl, rfl⟩ ⟨Nat.zero_le _, Nat.zero_le _⟩ _ rfl (Nat.le_of_ble_eq_true rfl) ?_
    rcases if_some h with ⟨c11, h⟩ | ⟨c11, h⟩
    · refine g_if_ne (tgt := 21) hG dX12_move_11 rfl (fun q => absurd c11 q) (fun _ => ?_)
      refine g_aload_n hG dX12_move_14 rfl ?_
      refine g_ldc hG dX12_move_15 k_X12_45 ?_
      obtain ⟨v12, σ13, q14, h⟩ := ob_some h
      refine g_cV hG dX12_move_17 (c_M_errs q14) b_X12_errs v_X12_46 rfl (k := 0) rfl rfl ⟨Nat.le_of_ble_eq_true rfl, Nat.le_of_ble_eq_true rfl⟩ ⟨rfl, rfl⟩ ⟨Nat.zero_le _, Nat.zero_le _⟩ _ rfl (Nat.le_of_ble_eq_true rfl) ?_
      cases h
      exact K _ _ dX12_move_20
    · refine g_if_ne (tgt := 21) hG dX12_move_11 rfl (fun _ => ?_) (fun q => absurd q c11)
      refine g_aload_n hG dX12_move_21 rfl ?_
      refine r_get 16 hG dX12_move_22 f_X12_25 (by decide) rfl ?_
      refine g_iload_n hG dX12_move_25 rfl ?_
      obtain ⟨b15, h⟩ := gd_some h
      refine r_iald 6 16 4 hG dX12_move_26 rfl b15 rfl ?_
      rcases if_some h with ⟨c16, h⟩ | ⟨c16, h⟩
      · refine g_if_eq (tgt := 39) hG dX12_move_27 rfl (fun _ => ?_) (fun q => absurd c16 q)
        refine g_aload_n hG dX12_move_39 rfl ?_
        refine g_ldc hG dX12_move_40 k_X12_189 ?_
        obtain ⟨v17, σ18, q19, h⟩ := ob_some h
        refine g_cV hG dX12_move_42 (c_M_errs q19) b_X12_errs v_X12_46 rfl (k := 0) rfl rfl ⟨Nat.le_of_ble_eq_true rfl, Nat.le_of_ble_eq_true rfl⟩ ⟨rfl, rfl⟩ ⟨Nat.zero_le _, Nat.zero_le _⟩ _ rfl (Nat.le_of_ble_eq_true rfl) ?_
        cases h
        exact K _ _ dX12_move_45
      · refine g_if_eq (tgt := 39) hG dX12_move_27 rfl (fun q => absurd q c16) (fun _ => ?_)
        refine g_aload_n hG dX12_move_30 rfl ?_
        refine r_get 16 hG dX12_move_31 f_X12_25 (by decide) rfl ?_
        refine g_iload_n hG dX12_move_34 rfl ?_
        obtain ⟨b20, h⟩ := gd_some h
        refine r_iald 6 16 4 hG dX12_move_35 rfl b20 rfl ?_
        rcases if_some h with ⟨c21, h⟩ | ⟨c21, h⟩
        · refine g_if_ne (tgt := 46) hG dX12_move_36 rfl (fun q => absurd c21 q) (fun _ => ?_)
          refine g_aload_n hG dX12_move_39 rfl ?_
          refine g_ldc hG dX12_move_40 k_X12_189 ?_
          obtain ⟨v22, σ23, q24, h⟩ := ob_some h
          refine g_cV hG dX12_move_42 (c_M_errs q24) b_X12_errs v_X12_46 rfl (k := 0) rfl rfl ⟨Nat.le_of_ble_eq_true rfl, Nat.le_of_ble_eq_true rfl⟩ ⟨rfl, rfl⟩ ⟨Nat.zero_le _, Nat.zero_le _⟩ _ rfl (Nat.le_of_ble_eq_true rfl) ?_
          cases h
          exact K _ _ dX12_move_45
        · refine g_if_ne (tgt := 46) hG dX12_move_36 rfl (fun _ => ?_) (fun q => absurd q c21)
          refine g_aload_n hG dX12_move_46 rfl ?_
          refine r_get 16 hG dX12_move_47 f_X12_25 (by decide) rfl ?_
          refine g_iload_n hG dX12_move_50 rfl ?_
          obtain ⟨b25, h⟩ := gd_some h
          refine r_iald 6 16 4 hG dX12_move_51 rfl b25 rfl ?_
          refine g_aload_n hG dX12_move_52 rfl ?_
          refine r_get 16 hG dX12_move_53 f_X12_25 (by decide) rfl ?_
          refine g_iload_n hG dX12_move_56 rfl ?_
          obtain ⟨b26, h⟩ := gd_some h
          refine r_iald 6 16 4 hG dX12_move_57 rfl b26 rfl ?_
          rcases if_some h with ⟨c27, h⟩ | ⟨c27, h⟩
          · refine g_icmp_eq (tgt := 68) hG dX12_move_58 rfl (fun _ => ?_) (fun q => absurd c27 q)
            refine g_iload hG dX12_move_68 rfl ?_
            rcases if_some h with ⟨c28, h⟩ | ⟨c28, h⟩
            · refine g_if_lt (tgt := 109) hG dX12_move_70 rfl (fun _ => ?_) (fun q => absurd c28 q)
              refine g_aload_n hG dX12_move_109 rfl ?_
              refine g_ldc hG dX12_move_110 k_X12_45 ?_
              obtain ⟨v29, σ30, q31, h⟩ := ob_some h
              refine g_cV hG dX12_move_112 (c_M_errs q31) b_X12_errs v_X12_46 rfl (k := 0) rfl rfl ⟨Nat.le_of_ble_eq_true rfl, Nat.le_of_ble_eq_true rfl⟩ ⟨rfl, rfl⟩ ⟨Nat.zero_le _, Nat.zero_le _⟩ _ rfl (Nat.le_of_ble_eq_true rfl) ?_
              cases h
              exact K _ _ dX12_move_115
            · refine g_if_lt (tgt := 109) hG dX12_move_70 rfl (fun q => absurd q c28) (fun _ => ?_)
              refine g_iload_n hG dX12_move_73 rfl ?_
              rcases if_some h with ⟨c32, h⟩ | ⟨c32, h⟩
              · refine g_if_lt (tgt := 109) hG dX12_move_74 rfl (fun _ => ?_) (fun q => absurd c32 q)
                refine g_aload_n hG dX12_move_109 rfl ?_
                refine g_ldc hG dX12_move_110 k_X12_45 ?_
                obtain ⟨v33, σ34, q35, h⟩ := ob_some h
                refine g_cV hG dX12_move_112 (c_M_errs q35) b_X12_errs v_X12_46 rfl (k := 0) rfl rfl ⟨Nat.le_of_ble_eq_true rfl, Nat.le_of_ble_eq_true rfl⟩ ⟨rfl, rfl⟩ ⟨Nat.zero_le _, Nat.zero_le _⟩ _ rfl (Nat.le_of_ble_eq_true rfl) ?_
                cases h
                exact K _ _ dX12_move_115
              · refine g_if_lt (tgt := 109) hG dX12_move_74 rfl (fun q => absurd q c32) (fun _ => ?_)
                refine g_iload hG dX12_move_77 rfl ?_
                rcases if_some h with ⟨c36, h⟩ | ⟨c36, h⟩
                · refine g_if_lt (tgt := 109) hG dX12_move_79 rfl (fun _ => ?_) (fun q => absurd c36 q)
                  refine g_aload_n hG dX12_move_109 rfl ?_
                  refine g_ldc hG dX12_move_110 k_X12_45 ?_
                  obtain ⟨v37, σ38, q39, h⟩ := ob_some h
                  refine g_cV hG dX12_move_112 (c_M_errs q39) b_X12_errs v_X12_46 rfl (k := 0) rfl rfl ⟨Nat.le_of_ble_eq_true rfl, Nat.le_of_ble_eq_true rfl⟩ ⟨rfl, rfl⟩ ⟨Nat.zero_le _, Nat.zero_le _⟩ _ rfl (Nat.le_of_ble_eq_true rfl) ?_
                  cases h
                  exact K _ _ dX12_move_115
                · refine g_if_lt (tgt := 109) hG dX12_move_79 rfl (fun q => absurd q c36) (fun _ => ?_)
                  refine g_iload_n hG dX12_move_82 rfl ?_
                  refine g_aload_n hG dX12_move_83 rfl ?_
                  refine r_get 17 hG dX12_move_84 f_X12_28 (by decide) rfl ?_
                  refine g_iload_n hG dX12_move_87 rfl ?_
                  obtain ⟨b40, h⟩ := gd_some h
                  refine r_iald 7 17 4 hG dX12_move_88 rfl b40 rfl ?_
                  refine g_iload hG dX12_move_89 rfl ?_
                  refine g_isub hG dX12_move_91 ?_
                  rcases if_some h with ⟨c41, h⟩ | ⟨c41, h⟩
                  · refine g_icmp_gt (tgt := 109) hG dX12_move_92 rfl (fun _ => ?_) (fun q => absurd c41 q)
                    refine g_aload_n hG dX12_move_109 rfl ?_
                    refine g_ldc hG dX12_move_110 k_X12_45 ?_
                    obtain ⟨v42, σ43, q44, h⟩ := ob_some h
                    refine g_cV hG dX12_move_112 (c_M_errs q44) b_X12_errs v_X12_46 rfl (k := 0) rfl rfl ⟨Nat.le_of_ble_eq_true rfl, Nat.le_of_ble_eq_true rfl⟩ ⟨rfl, rfl⟩ ⟨Nat.zero_le _, Nat.zero_le _⟩ _ rfl (Nat.le_of_ble_eq_true rfl) ?_
                    cases h
                    exact K _ _ dX12_move_115
                  · refine g_icmp_gt (tgt := 109) hG dX12_move_92 rfl (fun q => absurd q c41) (fun _ => ?_)
                    refine g_iload hG dX12_move_95 rfl ?_
                    refine g_aload_n hG dX12_move_97 rfl ?_
                    refine r_get 17 hG dX12_move_98 f_X12_28 (by decide) rfl ?_
                    refine g_iload_n hG dX12_move_101 rfl ?_
                    obtain ⟨b45, h⟩ := gd_some h
                    refine r_iald 7 17 4 hG dX12_move_102 rfl b45 rfl ?_
                    refine g_iload hG dX12_move_103 rfl ?_
                    refine g_isub hG dX12_move_105 ?_
                    rcases if_some h with ⟨c46, h⟩ | ⟨c46, h⟩
                    · refine g_icmp_le (tgt := 116) hG dX12_move_106 rfl (fun _ => ?_) (fun q => absurd c46 q)
                      refine g_iconstv hG dX12_move_116 ki_0 ?_
                      refine g_istore hG dX12_move_117 (by decide) ?_
                      refine g_loc hG [(0, .ref (r 25)), (1, .int x1), (2, .int x2), (3, .int x3), (4, .int x4), (5, .int x5), (6, .int (0 : Int32))] ⟨rfl, rfl, rfl, rfl, rfl, rfl, rfl, trivial⟩ ?_
                      exact s_M_move_b119  hG K FU _ _ _ _ _ _ _ h
                    · refine g_icmp_le (tgt := 116) hG dX12_move_106 rfl (fun q => absurd q c46) (fun _ => ?_)
                      refine g_aload_n hG dX12_move_109 rfl ?_
                      refine g_ldc hG dX12_move_110 k_X12_45 ?_
                      obtain ⟨v57, σ58, q59, h⟩ := ob_some h
                      refine g_cV hG dX12_move_112 (c_M_errs q59) b_X12_errs v_X12_46 rfl (k := 0) rfl rfl ⟨Nat.le_of_ble_eq_true rfl, Nat.le_of_ble_eq_true rfl⟩ ⟨rfl, rfl⟩ ⟨Nat.zero_le _, Nat.zero_le _⟩ _ rfl (Nat.le_of_ble_eq_true rfl) ?_
                      cases h
                      exact K _ _ dX12_move_115
          · refine g_icmp_eq (tgt := 68) hG dX12_move_58 rfl (fun q => absurd q c27) (fun _ => ?_)
            refine g_aload_n hG dX12_move_61 rfl ?_
            refine g_ldc hG dX12_move_62 k_X12_76 ?_
            obtain ⟨v60, σ61, q62, h⟩ := ob_some h
            refine g_cV hG dX12_move_64 (c_M_errs q62) b_X12_errs v_X12_46 rfl (k := 0) rfl rfl ⟨Nat.le_of_ble_eq_true rfl, Nat.le_of_ble_eq_true rfl⟩ ⟨rfl, rfl⟩ ⟨Nat.zero_le _, Nat.zero_le _⟩ _ rfl (Nat.le_of_ble_eq_true rfl) ?_
            cases h
            exact K _ _ dX12_move_67
def M_dirts_b32 : Nat → Int32 → Int32 → RS → Option (Int32 × RS)
  | 0, _, _, _ => none
  | n + 1, x1, x2, σ => (gd (inb x1 4) (if (σ.2 17 (ix x1)) ≤ x2 then (some (x2, σ)) else (ob (M_isYard x2 σ) fun v15 σ16 => (if v15 = 0 then (some (x2, σ16)) else (gd (inb (((40 : Int32) * x1) + x2) 160) (ob (M_in (σ16.2 18 (ix (((40 : Int32) * x1) + x2))) (0 : Int32) (999 : Int32) σ16) fun v20 σ21 => (if v20 = 0 then (some (x2, σ21)) else (gd (inb (((40 : Int32) * x1) + x2) 160) (ob (M_gets x2 (2 : Int32) (σ21.2 18 (ix (((40 : Int32) * x1) + x2))) σ21) fun v25 σ26 => ((M_dirts_b32  n) x1 (x2 + (1 : Int32)) σ26))))))))))
set_option maxRecDepth 100000 in
set_option maxHeartbeats 4000000 in
theorem s_M_dirts_b32 {g : GP} {l : Launch} {r : Nat → Nat} {X : va_W} {G : GT} {v9 : Int32} {s9 : RS} (hG : IsG g l yX12_dirts cX12_dirts 3 { frames := 2, cells := 0, slots := 0, locals := 43 } G) (K : ∀ L pc, decode cX12_dirts pc = .ok (.ireturn, 1) → G 0 0 (wR g r s9 X) L pc [.int v9]) : ∀ (n : Nat) (x1 : Int32) (x2 : Int32) (σ : RS) (h : M_dirts_b32  n x1 x2 σ = some (v9, s9)), G 0 0 (wR g r σ X) [(0, .ref (r 25)), (1, .int x1), (2, .int x2)] 32 [] := by
  intro n
  induction n with
  | zero => intro _ _ σ h; cases h
  | succ n ih =>
    intro x1 x2 σ h
    unfold M_dirts_b32 at h
    refine g_iload_n hG dX12_dirts_32 rfl ?_
    refine g_aload_n hG dX12_dirts_33 rfl ?_
    refine r_get 17 hG dX12_dirts_34 f_X12_28 (by decide) rfl ?_
    refine g_iload_n hG dX12_dirts_37 rfl ?_
    obtain ⟨b13, h⟩ := gd_some h
    refine r_iald 7 17 4 hG dX12_dirts_38 rfl b13 rfl ?_
    rcases if_some h with ⟨c14, h⟩ | ⟨c14, h⟩
    · refine g_icmp_ge (tgt := 94) hG dX12_dirts_39 rfl (fun _ => ?_) (fun q => absurd c14 q)
      refine g_iload_n hG dX12_dirts_94 rfl ?_
      cases h
      exact K _ _ dX12_dirts_95
    · refine g_icmp_ge (tgt := 94) hG dX12_dirts_39 rfl (fun q => absurd q c14) (fun _ => ?_)
      refine g_aload_n hG dX12_dirts_42 rfl ?_
      refine g_iload_n hG dX12_dirts_43 rfl ?_
      obtain ⟨v15, σ16, q17, h⟩ := ob_some h
      refine g_cV hG dX12_dirts_44 (c_M_isYard q17) b_X12_isYard v_X12_55 rfl (k := 0) rfl rfl ⟨Nat.le_of_ble_eq_true rfl, Nat.le_of_ble_eq_true rfl⟩ ⟨rfl, rfl⟩ ⟨Nat.zero_le _, Nat.zero_le _⟩ _ rfl (Nat.le_of_ble_eq_true rfl) ?_
      rcases if_some h with ⟨c18, h⟩ | ⟨c18, h⟩
      · refine g_if_eq (tgt := 94) hG dX12_dirts_47 rfl (fun _ => ?_) (fun q => absurd c18 q)
        refine g_iload_n hG dX12_dirts_94 rfl ?_
        cases h
        exact K _ _ dX12_dirts_95
      · refine g_if_eq (tgt := 94) hG dX12_dirts_47 rfl (fun q => absurd q c18) (fun _ => ?_)
        refine g_aload_n hG dX12_dirts_50 rfl ?_
        refine r_get 18 hG dX12_dirts_51 f_X12_31 (by decide) rfl ?_
        refine g_bipushv hG dX12_dirts_54 kb_40 ?_
        refine g_iload_n hG dX12_dirts_56 rfl ?_
        refine g_imul hG dX12_dirts_57 ?_
        refine g_iload_n hG dX12_dirts_58 rfl ?_
        refine g_iadd hG dX12_dirts_59 ?_
        obtain ⟨b19, h⟩ := gd_some h
        refine r_iald 8 18 160 hG dX12_dirts_60 rfl b19 rfl ?_
        refine g_iconstv hG dX12_dirts_61 ki_0 ?_
        refine g_sipushv hG dX12_dirts_62 ks_999 ?_
        obtain ⟨v20, σ21, q22, h⟩ := ob_some h
        refine g_cS hG dX12_dirts_65 (c_M_in q22) b_X12_in v_X12_41 rfl ⟨Nat.le_of_ble_eq_true rfl, Nat.le_of_ble_eq_true rfl⟩ ⟨rfl, rfl⟩ ⟨Nat.zero_le _, Nat.zero_le _⟩ _ rfl (Nat.le_of_ble_eq_true rfl) ?_
        rcases if_some h with ⟨c23, h⟩ | ⟨c23, h⟩
        · refine g_if_eq (tgt := 94) hG dX12_dirts_68 rfl (fun _ => ?_) (fun q => absurd c23 q)
          refine g_iload_n hG dX12_dirts_94 rfl ?_
          cases h
          exact K _ _ dX12_dirts_95
        · refine g_if_eq (tgt := 94) hG dX12_dirts_68 rfl (fun q => absurd q c23) (fun _ => ?_)
          refine g_aload_n hG dX12_dirts_71 rfl ?_
          refine g_iload_n hG dX12_dirts_72 rfl ?_
          refine g_iconstv hG dX12_dirts_73 ki_2 ?_
          refine g_aload_n hG dX12_dirts_74 rfl ?_
          refine r_get 18 hG dX12_dirts_75 f_X12_31 (by decide) rfl ?_
          refine g_bipushv hG dX12_dirts_78 kb_40 ?_
          refine g_iload_n hG dX12_dirts_80 rfl ?_
          refine g_imul hG dX12_dirts_81 ?_
          refine g_iload_n hG dX12_dirts_82 rfl ?_
          refine g_iadd hG dX12_dirts_83 ?_
          obtain ⟨b24, h⟩ := gd_some h
          refine r_iald 8 18 160 hG dX12_dirts_84 rfl b24 rfl ?_
          obtain ⟨v25, σ26, q27, h⟩ := ob_some h
          refine g_cVv hG dX12_dirts_85 (c_M_gets q27) b_X12_gets v_X12_51 rfl (k := 0) rfl rfl ⟨Nat.le_of_ble_eq_true rfl, Nat.le_of_ble_eq_true rfl⟩ ⟨rfl, rfl⟩ ⟨Nat.zero_le _, Nat.zero_le _⟩ _ rfl (Nat.le_of_ble_eq_true rfl) ?_
          refine g_iincv (c := (1 : Int32)) hG dX12_dirts_88 rfl (by decide) (by decide) ?_
          refine g_goto (tgt := 32) hG dX12_dirts_91 rfl ?_
          refine g_loc hG [(0, .ref (r 25)), (1, .int x1), (2, .int (x2 + (1 : Int32)))] ⟨rfl, rfl, rfl, trivial⟩ ?_
          exact ih _ _ _ h
def M_dirts (x1 : Int32) (σ : RS) : Option (Int32 × RS) := (ob (M_isSheet x1 σ) fun v1 σ2 => (if v1 = 0 then (ob (M_errs (-1000000001 : Int32) σ2) fun v5 σ6 => (some (v5, σ6))) else (gd (inb x1 4) (if (σ2.2 16 (ix x1)) = 0 then (ob (M_errs (-1000000002 : Int32) σ2) fun v10 σ11 => (some (v10, σ11))) else (M_dirts_b32  FU x1 (0 : Int32) σ2)))))
set_option maxRecDepth 100000 in
set_option maxHeartbeats 4000000 in
theorem c_M_dirts {g : GP} {l : Launch} {r : Nat → Nat} {X : va_W} {v9 : Int32} {s9 : RS} {x1 : Int32} {σ : RS} (h : M_dirts x1 σ = some (v9, s9)) : CI g l yX12_dirts cX12_dirts 3 (some .int) { frames := 2, cells := 0, slots := 0, locals := 43 } [.ref (r 25), .int x1] (wR g r σ X) (fun r0 w => r0 = v9 ∧ w = wR g r s9 X) := by
  refine CI.mk (by decide) (Nat.le_of_ble_eq_true rfl) (fun G hG hret => ?_)
  have K : ∀ L pc, decode cX12_dirts pc = .ok (.ireturn, 1) → G 0 0 (wR g r s9 X) L pc [.int v9] := fun L pc d => hret _ L pc v9 d rfl ⟨rfl, rfl⟩
  unfold M_dirts at h
  refine g_iload_n hG dX12_dirts_0 rfl ?_
  obtain ⟨v1, σ2, q3, h⟩ := ob_some h
  refine g_cS hG dX12_dirts_1 (c_M_isSheet q3) b_X12_isSheet v_X12_203 rfl ⟨Nat.le_of_ble_eq_true rfl, Nat.le_of_ble_eq_true rfl⟩ ⟨rfl, rfl⟩ ⟨Nat.zero_le _, Nat.zero_le _⟩ _ rfl (Nat.le_of_ble_eq_true rfl) ?_
  rcases if_some h with ⟨c4, h⟩ | ⟨c4, h⟩
  · refine g_if_ne (tgt := 14) hG dX12_dirts_4 rfl (fun q => absurd c4 q) (fun _ => ?_)
    refine g_aload_n hG dX12_dirts_7 rfl ?_
    refine g_ldc hG dX12_dirts_8 k_X12_45 ?_
    obtain ⟨v5, σ6, q7, h⟩ := ob_some h
    refine g_cV hG dX12_dirts_10 (c_M_errs q7) b_X12_errs v_X12_46 rfl (k := 0) rfl rfl ⟨Nat.le_of_ble_eq_true rfl, Nat.le_of_ble_eq_true rfl⟩ ⟨rfl, rfl⟩ ⟨Nat.zero_le _, Nat.zero_le _⟩ _ rfl (Nat.le_of_ble_eq_true rfl) ?_
    cases h
    exact K _ _ dX12_dirts_13
  · refine g_if_ne (tgt := 14) hG dX12_dirts_4 rfl (fun _ => ?_) (fun q => absurd q c4)
    refine g_aload_n hG dX12_dirts_14 rfl ?_
    refine r_get 16 hG dX12_dirts_15 f_X12_25 (by decide) rfl ?_
    refine g_iload_n hG dX12_dirts_18 rfl ?_
    obtain ⟨b8, h⟩ := gd_some h
    refine r_iald 6 16 4 hG dX12_dirts_19 rfl b8 rfl ?_
    rcases if_some h with ⟨c9, h⟩ | ⟨c9, h⟩
    · refine g_if_ne (tgt := 30) hG dX12_dirts_20 rfl (fun q => absurd c9 q) (fun _ => ?_)
      refine g_aload_n hG dX12_dirts_23 rfl ?_
      refine g_ldc hG dX12_dirts_24 k_X12_189 ?_
      obtain ⟨v10, σ11, q12, h⟩ := ob_some h
      refine g_cV hG dX12_dirts_26 (c_M_errs q12) b_X12_errs v_X12_46 rfl (k := 0) rfl rfl ⟨Nat.le_of_ble_eq_true rfl, Nat.le_of_ble_eq_true rfl⟩ ⟨rfl, rfl⟩ ⟨Nat.zero_le _, Nat.zero_le _⟩ _ rfl (Nat.le_of_ble_eq_true rfl) ?_
      cases h
      exact K _ _ dX12_dirts_29
    · refine g_if_ne (tgt := 30) hG dX12_dirts_20 rfl (fun _ => ?_) (fun q => absurd q c9)
      refine g_iconstv hG dX12_dirts_30 ki_0 ?_
      refine g_istore_n hG dX12_dirts_31 (by decide) ?_
      refine g_loc hG [(0, .ref (r 25)), (1, .int x1), (2, .int (0 : Int32))] ⟨rfl, rfl, rfl, trivial⟩ ?_
      exact s_M_dirts_b32  hG K FU _ _ _ h
def M_judge_b78 (x1 : Int32) (x2 : Int32) (σ : RS) : Option (Int32 × RS) := (if x2 = (σ.2 0 2) then (gd (inb x1 4) (some ((if x2 = (σ.2 17 (ix x1)) then (-1 : Int32) else x2), σ))) else (some (x2, σ)))
set_option maxRecDepth 100000 in
set_option maxHeartbeats 4000000 in
theorem s_M_judge_b78 {g : GP} {l : Launch} {r : Nat → Nat} {X : va_W} {G : GT} {v9 : Int32} {s9 : RS} (hG : IsG g l yX12_judge cX12_judge 3 { frames := 2, cells := 0, slots := 0, locals := 42 } G) (K : ∀ L pc, decode cX12_judge pc = .ok (.ireturn, 1) → G 0 0 (wR g r s9 X) L pc [.int v9]) {x1 : Int32} {x2 : Int32} {σ : RS} (h : M_judge_b78  x1 x2 σ = some (v9, s9)) : G 0 0 (wR g r σ X) [(0, .ref (r 25)), (1, .int x1), (2, .int x2)] 78 [] := by
  unfold M_judge_b78 at h
  refine g_iload_n hG dX12_judge_78 rfl ?_
  refine g_aload_n hG dX12_judge_79 rfl ?_
  refine r_get 0 hG dX12_judge_80 f_X12_7 (by decide) rfl ?_
  refine g_iconstv hG dX12_judge_83 ki_2 ?_
  refine r_iald 1 0 240 hG dX12_judge_84 rfl (by decide) (by decide : Int32.toNatClampNeg (2 : Int32) = 2) ?_
  rcases if_some h with ⟨c14, h⟩ | ⟨c14, h⟩
  · refine g_icmp_ne (tgt := 102) hG dX12_judge_85 rfl (fun q => absurd c14 q) (fun _ => ?_)
    refine g_iload_n hG dX12_judge_88 rfl ?_
    refine g_aload_n hG dX12_judge_89 rfl ?_
    refine r_get 17 hG dX12_judge_90 f_X12_28 (by decide) rfl ?_
    refine g_iload_n hG dX12_judge_93 rfl ?_
    obtain ⟨b15, h⟩ := gd_some h
    refine r_iald 7 17 4 hG dX12_judge_94 rfl b15 rfl ?_
    refine g_dia2 (if x2 = (σ.2 17 (ix x1)) then (-1 : Int32) else x2) 103 (fun J16 => ?_) ?_
    · by_cases c17 : x2 = (σ.2 17 (ix x1))
      · refine g_icmp_ne (tgt := 102) hG dX12_judge_95 rfl (fun q => absurd c17 q) (fun _ => ?_)
        refine g_iconstv hG dX12_judge_98 ki_m1 ?_
        refine g_goto (tgt := 103) hG dX12_judge_99 rfl ?_
        rw [if_pos c17] at J16
        exact J16
      · refine g_icmp_ne (tgt := 102) hG dX12_judge_95 rfl (fun _ => ?_) (fun q => absurd q c17)
        refine g_iload_n hG dX12_judge_102 rfl ?_
        rw [if_neg c17] at J16
        exact J16
    cases h
    exact K _ _ dX12_judge_103
  · refine g_icmp_ne (tgt := 102) hG dX12_judge_85 rfl (fun _ => ?_) (fun q => absurd q c14)
    refine g_iload_n hG dX12_judge_102 rfl ?_
    cases h
    exact K _ _ dX12_judge_103
def M_judge_b32 : Nat → Int32 → Int32 → RS → Option (Int32 × RS)
  | 0, _, _, _ => none
  | n + 1, x1, x2, σ => (if (σ.2 0 2) ≤ x2 then (M_judge_b78  x1 x2 σ) else (gd (inb x1 4) (if (σ.2 17 (ix x1)) ≤ x2 then (M_judge_b78  x1 x2 σ) else (gd (inb (((40 : Int32) * x1) + x2) 160) (ob (M_its x2 (3 : Int32) σ) fun v21 σ22 => (if (σ.2 18 (ix (((40 : Int32) * x1) + x2))) = v21 then ((M_judge_b32  n) x1 (x2 + (1 : Int32)) σ22) else (M_judge_b78  x1 x2 σ22)))))))
set_option maxRecDepth 100000 in
set_option maxHeartbeats 4000000 in
theorem s_M_judge_b32 {g : GP} {l : Launch} {r : Nat → Nat} {X : va_W} {G : GT} {v9 : Int32} {s9 : RS} (hG : IsG g l yX12_judge cX12_judge 3 { frames := 2, cells := 0, slots := 0, locals := 42 } G) (K : ∀ L pc, decode cX12_judge pc = .ok (.ireturn, 1) → G 0 0 (wR g r s9 X) L pc [.int v9]) : ∀ (n : Nat) (x1 : Int32) (x2 : Int32) (σ : RS) (h : M_judge_b32  n x1 x2 σ = some (v9, s9)), G 0 0 (wR g r σ X) [(0, .ref (r 25)), (1, .int x1), (2, .int x2)] 32 [] := by
  intro n
  induction n with
  | zero => intro _ _ σ h; cases h
  | succ n ih =>
    intro x1 x2 σ h
    unfold M_judge_b32 at h
    refine g_iload_n hG dX12_judge_32 rfl ?_
    refine g_aload_n hG dX12_judge_33 rfl ?_
    refine r_get 0 hG dX12_judge_34 f_X12_7 (by decide) rfl ?_
    refine g_iconstv hG dX12_judge_37 ki_2 ?_
    refine r_iald 1 0 240 hG dX12_judge_38 rfl (by decide) (by decide : Int32.toNatClampNeg (2 : Int32) = 2) ?_
    rcases if_some h with ⟨c13, h⟩ | ⟨c13, h⟩
    · refine g_icmp_ge (tgt := 78) hG dX12_judge_39 rfl (fun _ => ?_) (fun q => absurd c13 q)
      refine g_loc hG [(0, .ref (r 25)), (1, .int x1), (2, .int x2)] ⟨rfl, rfl, rfl, trivial⟩ ?_
      exact s_M_judge_b78  hG K  h
    · refine g_icmp_ge (tgt := 78) hG dX12_judge_39 rfl (fun q => absurd q c13) (fun _ => ?_)
      refine g_iload_n hG dX12_judge_42 rfl ?_
      refine g_aload_n hG dX12_judge_43 rfl ?_
      refine r_get 17 hG dX12_judge_44 f_X12_28 (by decide) rfl ?_
      refine g_iload_n hG dX12_judge_47 rfl ?_
      obtain ⟨b18, h⟩ := gd_some h
      refine r_iald 7 17 4 hG dX12_judge_48 rfl b18 rfl ?_
      rcases if_some h with ⟨c19, h⟩ | ⟨c19, h⟩
      · refine g_icmp_ge (tgt := 78) hG dX12_judge_49 rfl (fun _ => ?_) (fun q => absurd c19 q)
        refine g_loc hG [(0, .ref (r 25)), (1, .int x1), (2, .int x2)] ⟨rfl, rfl, rfl, trivial⟩ ?_
        exact s_M_judge_b78  hG K  h
      · refine g_icmp_ge (tgt := 78) hG dX12_judge_49 rfl (fun q => absurd q c19) (fun _ => ?_)
        refine g_aload_n hG dX12_judge_52 rfl ?_
        refine r_get 18 hG dX12_judge_53 f_X12_31 (by decide) rfl ?_
        refine g_bipushv hG dX12_judge_56 kb_40 ?_
        refine g_iload_n hG dX12_judge_58 rfl ?_
        refine g_imul hG dX12_judge_59 ?_
        refine g_iload_n hG dX12_judge_60 rfl ?_
        refine g_iadd hG dX12_judge_61 ?_
        obtain ⟨b20, h⟩ := gd_some h
        refine r_iald 8 18 160 hG dX12_judge_62 rfl b20 rfl ?_
        refine g_aload_n hG dX12_judge_63 rfl ?_
        refine g_iload_n hG dX12_judge_64 rfl ?_
        refine g_iconstv hG dX12_judge_65 ki_3 ?_
        obtain ⟨v21, σ22, q23, h⟩ := ob_some h
        refine g_cV hG dX12_judge_66 (c_M_its q23) b_X12_its v_X12_59 rfl (k := 0) rfl rfl ⟨Nat.le_of_ble_eq_true rfl, Nat.le_of_ble_eq_true rfl⟩ ⟨rfl, rfl⟩ ⟨Nat.zero_le _, Nat.zero_le _⟩ _ rfl (Nat.le_of_ble_eq_true rfl) ?_
        rcases if_some h with ⟨c24, h⟩ | ⟨c24, h⟩
        · refine g_icmp_ne (tgt := 78) hG dX12_judge_69 rfl (fun q => absurd c24 q) (fun _ => ?_)
          refine g_iincv (c := (1 : Int32)) hG dX12_judge_72 rfl (by decide) (by decide) ?_
          refine g_goto (tgt := 32) hG dX12_judge_75 rfl ?_
          refine g_loc hG [(0, .ref (r 25)), (1, .int x1), (2, .int (x2 + (1 : Int32)))] ⟨rfl, rfl, rfl, trivial⟩ ?_
          exact ih _ _ _ h
        · refine g_icmp_ne (tgt := 78) hG dX12_judge_69 rfl (fun _ => ?_) (fun q => absurd q c24)
          refine g_loc hG [(0, .ref (r 25)), (1, .int x1), (2, .int x2)] ⟨rfl, rfl, rfl, trivial⟩ ?_
          exact s_M_judge_b78  hG K  h
def M_judge (x1 : Int32) (σ : RS) : Option (Int32 × RS) := (ob (M_isSheet x1 σ) fun v1 σ2 => (if v1 = 0 then (ob (M_errs (-1000000001 : Int32) σ2) fun v5 σ6 => (some (v5, σ6))) else (gd (inb x1 4) (if (σ2.2 16 (ix x1)) = 0 then (ob (M_errs (-1000000002 : Int32) σ2) fun v10 σ11 => (some (v10, σ11))) else (M_judge_b32  FU x1 (0 : Int32) σ2)))))
set_option maxRecDepth 100000 in
set_option maxHeartbeats 4000000 in
theorem c_M_judge {g : GP} {l : Launch} {r : Nat → Nat} {X : va_W} {v9 : Int32} {s9 : RS} {x1 : Int32} {σ : RS} (h : M_judge x1 σ = some (v9, s9)) : CI g l yX12_judge cX12_judge 3 (some .int) { frames := 2, cells := 0, slots := 0, locals := 42 } [.ref (r 25), .int x1] (wR g r σ X) (fun r0 w => r0 = v9 ∧ w = wR g r s9 X) := by
  refine CI.mk (by decide) (Nat.le_of_ble_eq_true rfl) (fun G hG hret => ?_)
  have K : ∀ L pc, decode cX12_judge pc = .ok (.ireturn, 1) → G 0 0 (wR g r s9 X) L pc [.int v9] := fun L pc d => hret _ L pc v9 d rfl ⟨rfl, rfl⟩
  unfold M_judge at h
  refine g_iload_n hG dX12_judge_0 rfl ?_
  obtain ⟨v1, σ2, q3, h⟩ := ob_some h
  refine g_cS hG dX12_judge_1 (c_M_isSheet q3) b_X12_isSheet v_X12_203 rfl ⟨Nat.le_of_ble_eq_true rfl, Nat.le_of_ble_eq_true rfl⟩ ⟨rfl, rfl⟩ ⟨Nat.zero_le _, Nat.zero_le _⟩ _ rfl (Nat.le_of_ble_eq_true rfl) ?_
  rcases if_some h with ⟨c4, h⟩ | ⟨c4, h⟩
  · refine g_if_ne (tgt := 14) hG dX12_judge_4 rfl (fun q => absurd c4 q) (fun _ => ?_)
    refine g_aload_n hG dX12_judge_7 rfl ?_
    refine g_ldc hG dX12_judge_8 k_X12_45 ?_
    obtain ⟨v5, σ6, q7, h⟩ := ob_some h
    refine g_cV hG dX12_judge_10 (c_M_errs q7) b_X12_errs v_X12_46 rfl (k := 0) rfl rfl ⟨Nat.le_of_ble_eq_true rfl, Nat.le_of_ble_eq_true rfl⟩ ⟨rfl, rfl⟩ ⟨Nat.zero_le _, Nat.zero_le _⟩ _ rfl (Nat.le_of_ble_eq_true rfl) ?_
    cases h
    exact K _ _ dX12_judge_13
  · refine g_if_ne (tgt := 14) hG dX12_judge_4 rfl (fun _ => ?_) (fun q => absurd q c4)
    refine g_aload_n hG dX12_judge_14 rfl ?_
    refine r_get 16 hG dX12_judge_15 f_X12_25 (by decide) rfl ?_
    refine g_iload_n hG dX12_judge_18 rfl ?_
    obtain ⟨b8, h⟩ := gd_some h
    refine r_iald 6 16 4 hG dX12_judge_19 rfl b8 rfl ?_
    rcases if_some h with ⟨c9, h⟩ | ⟨c9, h⟩
    · refine g_if_ne (tgt := 30) hG dX12_judge_20 rfl (fun q => absurd c9 q) (fun _ => ?_)
      refine g_aload_n hG dX12_judge_23 rfl ?_
      refine g_ldc hG dX12_judge_24 k_X12_189 ?_
      obtain ⟨v10, σ11, q12, h⟩ := ob_some h
      refine g_cV hG dX12_judge_26 (c_M_errs q12) b_X12_errs v_X12_46 rfl (k := 0) rfl rfl ⟨Nat.le_of_ble_eq_true rfl, Nat.le_of_ble_eq_true rfl⟩ ⟨rfl, rfl⟩ ⟨Nat.zero_le _, Nat.zero_le _⟩ _ rfl (Nat.le_of_ble_eq_true rfl) ?_
      cases h
      exact K _ _ dX12_judge_29
    · refine g_if_ne (tgt := 30) hG dX12_judge_20 rfl (fun _ => ?_) (fun q => absurd q c9)
      refine g_iconstv hG dX12_judge_30 ki_0 ?_
      refine g_istore_n hG dX12_judge_31 (by decide) ?_
      refine g_loc hG [(0, .ref (r 25)), (1, .int x1), (2, .int (0 : Int32))] ⟨rfl, rfl, rfl, trivial⟩ ?_
      exact s_M_judge_b32  hG K FU _ _ _ h
def M_image  (σ : RS) : Option (Int32 × RS) := (ob (M_moveAll 0 1 σ) fun v1 σ2 => (lt (ri σ2 4 (1 : Int32)) fun σ4 => (lt (ri σ4 5 ((σ4.1 5) + (1 : Int32))) fun σ6 => (some ((σ6.1 5), σ6)))))
set_option maxRecDepth 100000 in
set_option maxHeartbeats 4000000 in
theorem c_M_image {g : GP} {l : Launch} {r : Nat → Nat} {X : va_W} {v9 : Int32} {s9 : RS} {σ : RS} (h : M_image  σ = some (v9, s9)) : CI g l yX12_image cX12_image 1 (some .int) { frames := 1, cells := 0, slots := 0, locals := 23 } [.ref (r 25)] (wR g r σ X) (fun r0 w => r0 = v9 ∧ w = wR g r s9 X) := by
  refine CI.mk (by decide) (Nat.le_of_ble_eq_true rfl) (fun G hG hret => ?_)
  have K : ∀ L pc, decode cX12_image pc = .ok (.ireturn, 1) → G 0 0 (wR g r s9 X) L pc [.int v9] := fun L pc d => hret _ L pc v9 d rfl ⟨rfl, rfl⟩
  unfold M_image at h
  refine g_aload_n hG dX12_image_0 rfl ?_
  refine g_aload_n hG dX12_image_1 rfl ?_
  refine r_get 0 hG dX12_image_2 f_X12_7 (by decide) rfl ?_
  refine g_aload_n hG dX12_image_5 rfl ?_
  refine r_get 1 hG dX12_image_6 f_X12_13 (by decide) rfl ?_
  obtain ⟨v1, σ2, q3, h⟩ := ob_some h
  refine g_cVv hG dX12_image_9 (c_M_moveAll (by decide) (by decide) (by decide) q3) b_X12_moveAll v_X12_150 rfl (k := 0) rfl rfl ⟨Nat.le_of_ble_eq_true rfl, Nat.le_of_ble_eq_true rfl⟩ ⟨rfl, rfl⟩ ⟨Nat.zero_le _, Nat.zero_le _⟩ _ rfl (Nat.le_of_ble_eq_true rfl) ?_
  refine g_aload_n hG dX12_image_12 rfl ?_
  refine g_iconstv hG dX12_image_13 ki_1 ?_
  obtain ⟨σ4, e5, h⟩ := lt_ex h
  refine r_put 4 hG e5 dX12_image_14 f_X12_242 (by decide) rfl (isb_n (by decide)) (isb_f (by decide)) rfl ?_
  refine g_aload_n hG dX12_image_17 rfl ?_
  refine g_dup hG dX12_image_18 rfl ?_
  refine r_get 5 hG dX12_image_19 f_X12_245 (by decide) rfl ?_
  refine g_iconstv hG dX12_image_22 ki_1 ?_
  refine g_iadd hG dX12_image_23 ?_
  obtain ⟨σ6, e7, h⟩ := lt_ex h
  refine r_put 5 hG e7 dX12_image_24 f_X12_245 (by decide) rfl rfl rfl rfl ?_
  refine g_aload_n hG dX12_image_27 rfl ?_
  refine r_get 5 hG dX12_image_28 f_X12_245 (by decide) rfl ?_
  cases h
  exact K _ _ dX12_image_31
def M_restore  (σ : RS) : Option (Int32 × RS) := (if (σ.1 4) = 0 then (ob (M_errs (-1000000002 : Int32) σ) fun v2 σ3 => (some (v2, σ3))) else (ob (M_moveAll 1 0 σ) fun v5 σ6 => (some ((σ6.2 0 0), σ6))))
set_option maxRecDepth 100000 in
set_option maxHeartbeats 4000000 in
theorem c_M_restore {g : GP} {l : Launch} {r : Nat → Nat} {X : va_W} {v9 : Int32} {s9 : RS} {σ : RS} (h : M_restore  σ = some (v9, s9)) : CI g l yX12_restore cX12_restore 1 (some .int) { frames := 1, cells := 0, slots := 0, locals := 23 } [.ref (r 25)] (wR g r σ X) (fun r0 w => r0 = v9 ∧ w = wR g r s9 X) := by
  refine CI.mk (by decide) (Nat.le_of_ble_eq_true rfl) (fun G hG hret => ?_)
  have K : ∀ L pc, decode cX12_restore pc = .ok (.ireturn, 1) → G 0 0 (wR g r s9 X) L pc [.int v9] := fun L pc d => hret _ L pc v9 d rfl ⟨rfl, rfl⟩
  unfold M_restore at h
  refine g_aload_n hG dX12_restore_0 rfl ?_
  refine r_get 4 hG dX12_restore_1 f_X12_242 (by decide) rfl ?_
  rcases if_some h with ⟨c1, h⟩ | ⟨c1, h⟩
  · refine g_if_ne (tgt := 14) hG dX12_restore_4 rfl (fun q => absurd c1 q) (fun _ => ?_)
    refine g_aload_n hG dX12_restore_7 rfl ?_
    refine g_ldc hG dX12_restore_8 k_X12_189 ?_
    obtain ⟨v2, σ3, q4, h⟩ := ob_some h
    refine g_cV hG dX12_restore_10 (c_M_errs q4) b_X12_errs v_X12_46 rfl (k := 0) rfl rfl ⟨Nat.le_of_ble_eq_true rfl, Nat.le_of_ble_eq_true rfl⟩ ⟨rfl, rfl⟩ ⟨Nat.zero_le _, Nat.zero_le _⟩ _ rfl (Nat.le_of_ble_eq_true rfl) ?_
    cases h
    exact K _ _ dX12_restore_13
  · refine g_if_ne (tgt := 14) hG dX12_restore_4 rfl (fun _ => ?_) (fun q => absurd q c1)
    refine g_aload_n hG dX12_restore_14 rfl ?_
    refine g_aload_n hG dX12_restore_15 rfl ?_
    refine r_get 1 hG dX12_restore_16 f_X12_13 (by decide) rfl ?_
    refine g_aload_n hG dX12_restore_19 rfl ?_
    refine r_get 0 hG dX12_restore_20 f_X12_7 (by decide) rfl ?_
    obtain ⟨v5, σ6, q7, h⟩ := ob_some h
    refine g_cVv hG dX12_restore_23 (c_M_moveAll (by decide) (by decide) (by decide) q7) b_X12_moveAll v_X12_150 rfl (k := 0) rfl rfl ⟨Nat.le_of_ble_eq_true rfl, Nat.le_of_ble_eq_true rfl⟩ ⟨rfl, rfl⟩ ⟨Nat.zero_le _, Nat.zero_le _⟩ _ rfl (Nat.le_of_ble_eq_true rfl) ?_
    refine g_aload_n hG dX12_restore_26 rfl ?_
    refine r_get 0 hG dX12_restore_27 f_X12_7 (by decide) rfl ?_
    refine g_iconstv hG dX12_restore_30 ki_0 ?_
    refine r_iald 1 0 240 hG dX12_restore_31 rfl (by decide) (by decide : Int32.toNatClampNeg (0 : Int32) = 0) ?_
    cases h
    exact K _ _ dX12_restore_32
def M_tell (x1 : Int32) (σ : RS) : Option (Int32 × RS) := (if (σ.2 0 4) = (20 : Int32) then (ob (M_errs (-1000000004 : Int32) σ) fun v2 σ3 => (some (v2, σ3))) else (gd (inb ((120 : Int32) + (σ.2 0 4)) 240) (lt (ra σ 0 (upd (σ.2 0) (ix ((120 : Int32) + (σ.2 0 4))) x1)) fun σ6 => (lt (ra σ6 0 (upd (σ6.2 0) 4 ((σ6.2 0 4) + (1 : Int32)))) fun σ8 => (some ((σ8.2 0 4), σ8))))))
set_option maxRecDepth 100000 in
set_option maxHeartbeats 4000000 in
theorem c_M_tell {g : GP} {l : Launch} {r : Nat → Nat} {X : va_W} {v9 : Int32} {s9 : RS} {x1 : Int32} {σ : RS} (h : M_tell x1 σ = some (v9, s9)) : CI g l yX12_tell cX12_tell 2 (some .int) { frames := 1, cells := 0, slots := 0, locals := 21 } [.ref (r 25), .int x1] (wR g r σ X) (fun r0 w => r0 = v9 ∧ w = wR g r s9 X) := by
  refine CI.mk (by decide) (Nat.le_of_ble_eq_true rfl) (fun G hG hret => ?_)
  have K : ∀ L pc, decode cX12_tell pc = .ok (.ireturn, 1) → G 0 0 (wR g r s9 X) L pc [.int v9] := fun L pc d => hret _ L pc v9 d rfl ⟨rfl, rfl⟩
  unfold M_tell at h
  refine g_aload_n hG dX12_tell_0 rfl ?_
  refine r_get 0 hG dX12_tell_1 f_X12_7 (by decide) rfl ?_
  refine g_iconstv hG dX12_tell_4 ki_4 ?_
  refine r_iald 1 0 240 hG dX12_tell_5 rfl (by decide) (by decide : Int32.toNatClampNeg (4 : Int32) = 4) ?_
  refine g_bipushv hG dX12_tell_6 kb_20 ?_
  rcases if_some h with ⟨c1, h⟩ | ⟨c1, h⟩
  · refine g_icmp_ne (tgt := 18) hG dX12_tell_8 rfl (fun q => absurd c1 q) (fun _ => ?_)
    refine g_aload_n hG dX12_tell_11 rfl ?_
    refine g_ldc hG dX12_tell_12 k_X12_50 ?_
    obtain ⟨v2, σ3, q4, h⟩ := ob_some h
    refine g_cV hG dX12_tell_14 (c_M_errs q4) b_X12_errs v_X12_46 rfl (k := 0) rfl rfl ⟨Nat.le_of_ble_eq_true rfl, Nat.le_of_ble_eq_true rfl⟩ ⟨rfl, rfl⟩ ⟨Nat.zero_le _, Nat.zero_le _⟩ _ rfl (Nat.le_of_ble_eq_true rfl) ?_
    cases h
    exact K _ _ dX12_tell_17
  · refine g_icmp_ne (tgt := 18) hG dX12_tell_8 rfl (fun _ => ?_) (fun q => absurd q c1)
    refine g_aload_n hG dX12_tell_18 rfl ?_
    refine r_get 0 hG dX12_tell_19 f_X12_7 (by decide) rfl ?_
    refine g_bipushv hG dX12_tell_22 kb_120 ?_
    refine g_aload_n hG dX12_tell_24 rfl ?_
    refine r_get 0 hG dX12_tell_25 f_X12_7 (by decide) rfl ?_
    refine g_iconstv hG dX12_tell_28 ki_4 ?_
    refine r_iald 1 0 240 hG dX12_tell_29 rfl (by decide) (by decide : Int32.toNatClampNeg (4 : Int32) = 4) ?_
    refine g_iadd hG dX12_tell_30 ?_
    refine g_iload_n hG dX12_tell_31 rfl ?_
    obtain ⟨b5, h⟩ := gd_some h
    obtain ⟨σ6, e7, h⟩ := lt_ex h
    refine r_iast 1 0 240 hG e7 dX12_tell_32 rfl b5 rfl rfl ?_
    refine g_aload_n hG dX12_tell_33 rfl ?_
    refine r_get 0 hG dX12_tell_34 f_X12_7 (by decide) rfl ?_
    refine g_iconstv hG dX12_tell_37 ki_4 ?_
    refine g_dup2 hG dX12_tell_38 rfl rfl ?_
    refine r_iald 1 0 240 hG dX12_tell_39 rfl (by decide) (by decide : Int32.toNatClampNeg (4 : Int32) = 4) ?_
    refine g_iconstv hG dX12_tell_40 ki_1 ?_
    refine g_iadd hG dX12_tell_41 ?_
    obtain ⟨σ8, e9, h⟩ := lt_ex h
    refine r_iast 1 0 240 hG e9 dX12_tell_42 rfl (by decide) (by decide : Int32.toNatClampNeg (4 : Int32) = 4) rfl ?_
    refine g_aload_n hG dX12_tell_43 rfl ?_
    refine r_get 0 hG dX12_tell_44 f_X12_7 (by decide) rfl ?_
    refine g_iconstv hG dX12_tell_47 ki_4 ?_
    refine r_iald 1 0 240 hG dX12_tell_48 rfl (by decide) (by decide : Int32.toNatClampNeg (4 : Int32) = 4) ?_
    cases h
    exact K _ _ dX12_tell_49
def M_check_b80 (x2 : Int32) (x3 : Int32) (σ : RS) : Option (Int32 × RS) := (ob (M_moveAll 2 0 σ) fun v9 σ10 => (some ((if x3 = 0 then ((1 : Int32) + x2) else (0 : Int32)), σ10)))
set_option maxRecDepth 100000 in
set_option maxHeartbeats 4000000 in
theorem s_M_check_b80 {g : GP} {l : Launch} {r : Nat → Nat} {X : va_W} {G : GT} {v9 : Int32} {s9 : RS} (hG : IsG g l yX12_check cX12_check 4 { frames := 58, cells := 0, slots := 0, locals := 1319 } G) (K : ∀ L pc, decode cX12_check pc = .ok (.ireturn, 1) → G 0 0 (wR g r s9 X) L pc [.int v9]) {x2 : Int32} {x3 : Int32} {σ : RS} (h : M_check_b80  x2 x3 σ = some (v9, s9)) : G 0 0 (wR g r σ X) [(0, .ref (r 25)), (2, .int x2), (3, .int x3)] 80 [] := by
  unfold M_check_b80 at h
  refine g_aload_n hG dX12_check_80 rfl ?_
  refine g_aload_n hG dX12_check_81 rfl ?_
  refine r_get 2 hG dX12_check_82 f_X12_16 (by decide) rfl ?_
  refine g_aload_n hG dX12_check_85 rfl ?_
  refine r_get 0 hG dX12_check_86 f_X12_7 (by decide) rfl ?_
  obtain ⟨v9, σ10, q11, h⟩ := ob_some h
  refine g_cVv hG dX12_check_89 (c_M_moveAll (by decide) (by decide) (by decide) q11) b_X12_moveAll v_X12_150 rfl (k := 0) rfl rfl ⟨Nat.le_of_ble_eq_true rfl, Nat.le_of_ble_eq_true rfl⟩ ⟨rfl, rfl⟩ ⟨Nat.zero_le _, Nat.zero_le _⟩ _ rfl (Nat.le_of_ble_eq_true rfl) ?_
  refine g_iload_n hG dX12_check_92 rfl ?_
  refine g_dia1 (if x3 = 0 then ((1 : Int32) + x2) else (0 : Int32)) 103 (fun J12 => ?_) ?_
  · by_cases c13 : x3 = 0
    · refine g_if_eq (tgt := 100) hG dX12_check_93 rfl (fun _ => ?_) (fun q => absurd c13 q)
      refine g_iconstv hG dX12_check_100 ki_1 ?_
      refine g_iload_n hG dX12_check_101 rfl ?_
      refine g_iadd hG dX12_check_102 ?_
      rw [if_pos c13] at J12
      exact J12
    · refine g_if_eq (tgt := 100) hG dX12_check_93 rfl (fun q => absurd q c13) (fun _ => ?_)
      refine g_iconstv hG dX12_check_96 ki_0 ?_
      refine g_goto (tgt := 103) hG dX12_check_97 rfl ?_
      rw [if_neg c13] at J12
      exact J12
  cases h
  exact K _ _ dX12_check_103
def M_check_b30 : Nat → Int32 → Int32 → Int32 → RS → Option (Int32 × RS)
  | 0, _, _, _, _ => none
  | n + 1, x1, x2, x3, σ => (if x1 ≤ x2 then (M_check_b80  x2 x3 σ) else (if x3 = 0 then (M_check_b80  x2 x3 σ) else (ob (M_oneDay  σ) fun v15 σ16 => (ob (M_allDirt  σ16) fun v18 σ19 => (gd (inb ((120 : Int32) + x2) 240) (lt (if v18 = (σ19.2 0 (ix ((120 : Int32) + x2))) then (1 : Int32) else (0 : Int32)) fun v24 => (lt (x2 + (if v24 = 0 then (0 : Int32) else (1 : Int32))) fun v28 => ((M_check_b30  n) x1 v28 v24 σ19))))))))
set_option maxRecDepth 100000 in
set_option maxHeartbeats 4000000 in
theorem s_M_check_b30 {g : GP} {l : Launch} {r : Nat → Nat} {X : va_W} {G : GT} {v9 : Int32} {s9 : RS} (hG : IsG g l yX12_check cX12_check 4 { frames := 58, cells := 0, slots := 0, locals := 1319 } G) (K : ∀ L pc, decode cX12_check pc = .ok (.ireturn, 1) → G 0 0 (wR g r s9 X) L pc [.int v9]) : ∀ (n : Nat) (x1 : Int32) (x2 : Int32) (x3 : Int32) (σ : RS) (h : M_check_b30  n x1 x2 x3 σ = some (v9, s9)), G 0 0 (wR g r σ X) [(0, .ref (r 25)), (1, .int x1), (2, .int x2), (3, .int x3)] 30 [] := by
  intro n
  induction n with
  | zero => intro _ _ _ σ h; cases h
  | succ n ih =>
    intro x1 x2 x3 σ h
    unfold M_check_b30 at h
    refine g_iload_n hG dX12_check_30 rfl ?_
    refine g_iload_n hG dX12_check_31 rfl ?_
    rcases if_some h with ⟨c8, h⟩ | ⟨c8, h⟩
    · refine g_icmp_ge (tgt := 80) hG dX12_check_32 rfl (fun _ => ?_) (fun q => absurd c8 q)
      refine g_loc hG [(0, .ref (r 25)), (2, .int x2), (3, .int x3)] ⟨rfl, rfl, rfl, trivial⟩ ?_
      exact s_M_check_b80  hG K  h
    · refine g_icmp_ge (tgt := 80) hG dX12_check_32 rfl (fun q => absurd q c8) (fun _ => ?_)
      refine g_iload_n hG dX12_check_35 rfl ?_
      rcases if_some h with ⟨c14, h⟩ | ⟨c14, h⟩
      · refine g_if_eq (tgt := 80) hG dX12_check_36 rfl (fun _ => ?_) (fun q => absurd c14 q)
        refine g_loc hG [(0, .ref (r 25)), (2, .int x2), (3, .int x3)] ⟨rfl, rfl, rfl, trivial⟩ ?_
        exact s_M_check_b80  hG K  h
      · refine g_if_eq (tgt := 80) hG dX12_check_36 rfl (fun q => absurd q c14) (fun _ => ?_)
        refine g_aload_n hG dX12_check_39 rfl ?_
        obtain ⟨v15, σ16, q17, h⟩ := ob_some h
        refine g_cVv hG dX12_check_40 (c_M_oneDay q17) b_X12_oneDay v_X12_171 rfl (k := 0) rfl rfl ⟨Nat.le_of_ble_eq_true rfl, Nat.le_of_ble_eq_true rfl⟩ ⟨rfl, rfl⟩ ⟨Nat.zero_le _, Nat.zero_le _⟩ _ rfl (Nat.le_of_ble_eq_true rfl) ?_
        refine g_aload_n hG dX12_check_43 rfl ?_
        obtain ⟨v18, σ19, q20, h⟩ := ob_some h
        refine g_cV hG dX12_check_44 (c_M_allDirt q20) b_X12_allDirt v_X12_179 rfl (k := 0) rfl rfl ⟨Nat.le_of_ble_eq_true rfl, Nat.le_of_ble_eq_true rfl⟩ ⟨rfl, rfl⟩ ⟨Nat.zero_le _, Nat.zero_le _⟩ _ rfl (Nat.le_of_ble_eq_true rfl) ?_
        refine g_aload_n hG dX12_check_47 rfl ?_
        refine r_get 0 hG dX12_check_48 f_X12_7 (by decide) rfl ?_
        refine g_bipushv hG dX12_check_51 kb_120 ?_
        refine g_iload_n hG dX12_check_53 rfl ?_
        refine g_iadd hG dX12_check_54 ?_
        obtain ⟨b21, h⟩ := gd_some h
        refine r_iald 1 0 240 hG dX12_check_55 rfl b21 rfl ?_
        refine g_dia2 (if v18 = (σ19.2 0 (ix ((120 : Int32) + x2))) then (1 : Int32) else (0 : Int32)) 64 (fun J22 => ?_) ?_
        · by_cases c23 : v18 = (σ19.2 0 (ix ((120 : Int32) + x2)))
          · refine g_icmp_ne (tgt := 63) hG dX12_check_56 rfl (fun q => absurd c23 q) (fun _ => ?_)
            refine g_iconstv hG dX12_check_59 ki_1 ?_
            refine g_goto (tgt := 64) hG dX12_check_60 rfl ?_
            rw [if_pos c23] at J22
            exact J22
          · refine g_icmp_ne (tgt := 63) hG dX12_check_56 rfl (fun _ => ?_) (fun q => absurd q c23)
            refine g_iconstv hG dX12_check_63 ki_0 ?_
            rw [if_neg c23] at J22
            exact J22
        obtain ⟨v24, e25, h⟩ := lt_ex h
        refine g_nam e25 ?_
        refine g_istore_n hG dX12_check_64 (by decide) ?_
        refine g_iload_n hG dX12_check_65 rfl ?_
        refine g_iload_n hG dX12_check_66 rfl ?_
        refine g_dia1 (if v24 = 0 then (0 : Int32) else (1 : Int32)) 75 (fun J26 => ?_) ?_
        · by_cases c27 : v24 = 0
          · refine g_if_eq (tgt := 74) hG dX12_check_67 rfl (fun _ => ?_) (fun q => absurd c27 q)
            refine g_iconstv hG dX12_check_74 ki_0 ?_
            rw [if_pos c27] at J26
            exact J26
          · refine g_if_eq (tgt := 74) hG dX12_check_67 rfl (fun q => absurd q c27) (fun _ => ?_)
            refine g_iconstv hG dX12_check_70 ki_1 ?_
            refine g_goto (tgt := 75) hG dX12_check_71 rfl ?_
            rw [if_neg c27] at J26
            exact J26
        refine g_iadd hG dX12_check_75 ?_
        obtain ⟨v28, e29, h⟩ := lt_ex h
        refine g_nam e29 ?_
        refine g_istore_n hG dX12_check_76 (by decide) ?_
        refine g_goto (tgt := 30) hG dX12_check_77 rfl ?_
        refine g_loc hG [(0, .ref (r 25)), (1, .int x1), (2, .int v28), (3, .int v24)] ⟨rfl, rfl, rfl, rfl, trivial⟩ ?_
        exact ih _ _ _ _ h
def M_check  (σ : RS) : Option (Int32 × RS) := (lt (σ.2 0 4) fun v1 => (lt (ra σ 0 (upd (σ.2 0) 4 (0 : Int32))) fun σ3 => (ob (M_moveAll 0 2 σ3) fun v5 σ6 => (M_check_b30  FU v1 (0 : Int32) (1 : Int32) σ6))))
set_option maxRecDepth 100000 in
set_option maxHeartbeats 4000000 in
theorem c_M_check {g : GP} {l : Launch} {r : Nat → Nat} {X : va_W} {v9 : Int32} {s9 : RS} {σ : RS} (h : M_check  σ = some (v9, s9)) : CI g l yX12_check cX12_check 4 (some .int) { frames := 58, cells := 0, slots := 0, locals := 1319 } [.ref (r 25)] (wR g r σ X) (fun r0 w => r0 = v9 ∧ w = wR g r s9 X) := by
  refine CI.mk (by decide) (Nat.le_of_ble_eq_true rfl) (fun G hG hret => ?_)
  have K : ∀ L pc, decode cX12_check pc = .ok (.ireturn, 1) → G 0 0 (wR g r s9 X) L pc [.int v9] := fun L pc d => hret _ L pc v9 d rfl ⟨rfl, rfl⟩
  unfold M_check at h
  refine g_aload_n hG dX12_check_0 rfl ?_
  refine r_get 0 hG dX12_check_1 f_X12_7 (by decide) rfl ?_
  refine g_iconstv hG dX12_check_4 ki_4 ?_
  refine r_iald 1 0 240 hG dX12_check_5 rfl (by decide) (by decide : Int32.toNatClampNeg (4 : Int32) = 4) ?_
  obtain ⟨v1, e2, h⟩ := lt_ex h
  refine g_nam e2 ?_
  refine g_istore_n hG dX12_check_6 (by decide) ?_
  refine g_aload_n hG dX12_check_7 rfl ?_
  refine r_get 0 hG dX12_check_8 f_X12_7 (by decide) rfl ?_
  refine g_iconstv hG dX12_check_11 ki_4 ?_
  refine g_iconstv hG dX12_check_12 ki_0 ?_
  obtain ⟨σ3, e4, h⟩ := lt_ex h
  refine r_iast 1 0 240 hG e4 dX12_check_13 rfl (by decide) (by decide : Int32.toNatClampNeg (4 : Int32) = 4) rfl ?_
  refine g_aload_n hG dX12_check_14 rfl ?_
  refine g_aload_n hG dX12_check_15 rfl ?_
  refine r_get 0 hG dX12_check_16 f_X12_7 (by decide) rfl ?_
  refine g_aload_n hG dX12_check_19 rfl ?_
  refine r_get 2 hG dX12_check_20 f_X12_16 (by decide) rfl ?_
  obtain ⟨v5, σ6, q7, h⟩ := ob_some h
  refine g_cVv hG dX12_check_23 (c_M_moveAll (by decide) (by decide) (by decide) q7) b_X12_moveAll v_X12_150 rfl (k := 0) rfl rfl ⟨Nat.le_of_ble_eq_true rfl, Nat.le_of_ble_eq_true rfl⟩ ⟨rfl, rfl⟩ ⟨Nat.zero_le _, Nat.zero_le _⟩ _ rfl (Nat.le_of_ble_eq_true rfl) ?_
  refine g_iconstv hG dX12_check_26 ki_0 ?_
  refine g_istore_n hG dX12_check_27 (by decide) ?_
  refine g_iconstv hG dX12_check_28 ki_1 ?_
  refine g_istore_n hG dX12_check_29 (by decide) ?_
  refine g_loc hG [(0, .ref (r 25)), (1, .int v1), (2, .int (0 : Int32)), (3, .int (1 : Int32))] ⟨rfl, rfl, rfl, rfl, trivial⟩ ?_
  exact s_M_check_b30  hG K FU _ _ _ _ h
def M_count (x1 : Int32) (σ : RS) : Option (Int32 × RS) := (if x1 = (0 : Int32) then (some ((σ.2 0 2), σ)) else (if x1 = (1 : Int32) then (some ((σ.2 0 0), σ)) else (if x1 = (2 : Int32) then (some ((σ.2 0 7), σ)) else (if x1 = (3 : Int32) then (some ((σ.2 0 8), σ)) else (if x1 = (4 : Int32) then (some ((σ.2 0 9), σ)) else (if x1 = (5 : Int32) then (ob (M_allDirt  σ) fun v7 σ8 => (some (v7, σ8))) else (if x1 = (6 : Int32) then (ob (M_carSet  σ) fun v11 σ12 => (some (v11, σ12))) else (if x1 = (7 : Int32) then (some ((σ.2 0 3), σ)) else (if x1 = (8 : Int32) then (some ((σ.2 0 4), σ)) else (if x1 = (9 : Int32) then (some ((σ.1 21), σ)) else (if x1 = (10 : Int32) then (some ((σ.2 0 1), σ)) else (ob (M_errs (-1000000001 : Int32) σ) fun v18 σ19 => (some (v18, σ19))))))))))))))
set_option maxRecDepth 100000 in
set_option maxHeartbeats 4000000 in
theorem c_M_count {g : GP} {l : Launch} {r : Nat → Nat} {X : va_W} {v9 : Int32} {s9 : RS} {x1 : Int32} {σ : RS} (h : M_count x1 σ = some (v9, s9)) : CI g l yX12_count cX12_count 2 (some .int) { frames := 2, cells := 0, slots := 0, locals := 44 } [.ref (r 25), .int x1] (wR g r σ X) (fun r0 w => r0 = v9 ∧ w = wR g r s9 X) := by
  refine CI.mk (by decide) (Nat.le_of_ble_eq_true rfl) (fun G hG hret => ?_)
  have K : ∀ L pc, decode cX12_count pc = .ok (.ireturn, 1) → G 0 0 (wR g r s9 X) L pc [.int v9] := fun L pc d => hret _ L pc v9 d rfl ⟨rfl, rfl⟩
  unfold M_count at h
  refine g_iload_n hG dX12_count_0 rfl ?_
  rcases if_some h with ⟨c1, h⟩ | ⟨c1, h⟩
  · refine g_tabC (tgt := 60) (c := (0 : Int32)) hG c1 dX12_count_1 (by decide) (by decide) rfl rfl ?_
    refine g_aload_n hG dX12_count_60 rfl ?_
    refine r_get 0 hG dX12_count_61 f_X12_7 (by decide) rfl ?_
    refine g_iconstv hG dX12_count_64 ki_2 ?_
    refine r_iald 1 0 240 hG dX12_count_65 rfl (by decide) (by decide : Int32.toNatClampNeg (2 : Int32) = 2) ?_
    cases h
    exact K _ _ dX12_count_66
  ·
    rcases if_some h with ⟨c2, h⟩ | ⟨c2, h⟩
    · refine g_tabC (tgt := 67) (c := (1 : Int32)) hG c2 dX12_count_1 (by decide) (by decide) rfl rfl ?_
      refine g_aload_n hG dX12_count_67 rfl ?_
      refine r_get 0 hG dX12_count_68 f_X12_7 (by decide) rfl ?_
      refine g_iconstv hG dX12_count_71 ki_0 ?_
      refine r_iald 1 0 240 hG dX12_count_72 rfl (by decide) (by decide : Int32.toNatClampNeg (0 : Int32) = 0) ?_
      cases h
      exact K _ _ dX12_count_73
    ·
      rcases if_some h with ⟨c3, h⟩ | ⟨c3, h⟩
      · refine g_tabC (tgt := 74) (c := (2 : Int32)) hG c3 dX12_count_1 (by decide) (by decide) rfl rfl ?_
        refine g_aload_n hG dX12_count_74 rfl ?_
        refine r_get 0 hG dX12_count_75 f_X12_7 (by decide) rfl ?_
        refine g_bipushv hG dX12_count_78 kb_7 ?_
        refine r_iald 1 0 240 hG dX12_count_80 rfl (by decide) (by decide : Int32.toNatClampNeg (7 : Int32) = 7) ?_
        cases h
        exact K _ _ dX12_count_81
      ·
        rcases if_some h with ⟨c4, h⟩ | ⟨c4, h⟩
        · refine g_tabC (tgt := 82) (c := (3 : Int32)) hG c4 dX12_count_1 (by decide) (by decide) rfl rfl ?_
          refine g_aload_n hG dX12_count_82 rfl ?_
          refine r_get 0 hG dX12_count_83 f_X12_7 (by decide) rfl ?_
          refine g_bipushv hG dX12_count_86 kb_8 ?_
          refine r_iald 1 0 240 hG dX12_count_88 rfl (by decide) (by decide : Int32.toNatClampNeg (8 : Int32) = 8) ?_
          cases h
          exact K _ _ dX12_count_89
        ·
          rcases if_some h with ⟨c5, h⟩ | ⟨c5, h⟩
          · refine g_tabC (tgt := 90) (c := (4 : Int32)) hG c5 dX12_count_1 (by decide) (by decide) rfl rfl ?_
            refine g_aload_n hG dX12_count_90 rfl ?_
            refine r_get 0 hG dX12_count_91 f_X12_7 (by decide) rfl ?_
            refine g_bipushv hG dX12_count_94 kb_9 ?_
            refine r_iald 1 0 240 hG dX12_count_96 rfl (by decide) (by decide : Int32.toNatClampNeg (9 : Int32) = 9) ?_
            cases h
            exact K _ _ dX12_count_97
          ·
            rcases if_some h with ⟨c6, h⟩ | ⟨c6, h⟩
            · refine g_tabC (tgt := 98) (c := (5 : Int32)) hG c6 dX12_count_1 (by decide) (by decide) rfl rfl ?_
              refine g_aload_n hG dX12_count_98 rfl ?_
              obtain ⟨v7, σ8, q9, h⟩ := ob_some h
              refine g_cV hG dX12_count_99 (c_M_allDirt q9) b_X12_allDirt v_X12_179 rfl (k := 0) rfl rfl ⟨Nat.le_of_ble_eq_true rfl, Nat.le_of_ble_eq_true rfl⟩ ⟨rfl, rfl⟩ ⟨Nat.zero_le _, Nat.zero_le _⟩ _ rfl (Nat.le_of_ble_eq_true rfl) ?_
              cases h
              exact K _ _ dX12_count_102
            ·
              rcases if_some h with ⟨c10, h⟩ | ⟨c10, h⟩
              · refine g_tabC (tgt := 103) (c := (6 : Int32)) hG c10 dX12_count_1 (by decide) (by decide) rfl rfl ?_
                refine g_aload_n hG dX12_count_103 rfl ?_
                obtain ⟨v11, σ12, q13, h⟩ := ob_some h
                refine g_cV hG dX12_count_104 (c_M_carSet q13) b_X12_carSet v_X12_197 rfl (k := 0) rfl rfl ⟨Nat.le_of_ble_eq_true rfl, Nat.le_of_ble_eq_true rfl⟩ ⟨rfl, rfl⟩ ⟨Nat.zero_le _, Nat.zero_le _⟩ _ rfl (Nat.le_of_ble_eq_true rfl) ?_
                cases h
                exact K _ _ dX12_count_107
              ·
                rcases if_some h with ⟨c14, h⟩ | ⟨c14, h⟩
                · refine g_tabC (tgt := 108) (c := (7 : Int32)) hG c14 dX12_count_1 (by decide) (by decide) rfl rfl ?_
                  refine g_aload_n hG dX12_count_108 rfl ?_
                  refine r_get 0 hG dX12_count_109 f_X12_7 (by decide) rfl ?_
                  refine g_iconstv hG dX12_count_112 ki_3 ?_
                  refine r_iald 1 0 240 hG dX12_count_113 rfl (by decide) (by decide : Int32.toNatClampNeg (3 : Int32) = 3) ?_
                  cases h
                  exact K _ _ dX12_count_114
                ·
                  rcases if_some h with ⟨c15, h⟩ | ⟨c15, h⟩
                  · refine g_tabC (tgt := 115) (c := (8 : Int32)) hG c15 dX12_count_1 (by decide) (by decide) rfl rfl ?_
                    refine g_aload_n hG dX12_count_115 rfl ?_
                    refine r_get 0 hG dX12_count_116 f_X12_7 (by decide) rfl ?_
                    refine g_iconstv hG dX12_count_119 ki_4 ?_
                    refine r_iald 1 0 240 hG dX12_count_120 rfl (by decide) (by decide : Int32.toNatClampNeg (4 : Int32) = 4) ?_
                    cases h
                    exact K _ _ dX12_count_121
                  ·
                    rcases if_some h with ⟨c16, h⟩ | ⟨c16, h⟩
                    · refine g_tabC (tgt := 122) (c := (9 : Int32)) hG c16 dX12_count_1 (by decide) (by decide) rfl rfl ?_
                      refine g_aload_n hG dX12_count_122 rfl ?_
                      refine r_get 21 hG dX12_count_123 f_X12_212 (by decide) rfl ?_
                      cases h
                      exact K _ _ dX12_count_126
                    ·
                      rcases if_some h with ⟨c17, h⟩ | ⟨c17, h⟩
                      · refine g_tabC (tgt := 127) (c := (10 : Int32)) hG c17 dX12_count_1 (by decide) (by decide) rfl rfl ?_
                        refine g_aload_n hG dX12_count_127 rfl ?_
                        refine r_get 0 hG dX12_count_128 f_X12_7 (by decide) rfl ?_
                        refine g_iconstv hG dX12_count_131 ki_1 ?_
                        refine r_iald 1 0 240 hG dX12_count_132 rfl (by decide) (by decide : Int32.toNatClampNeg (1 : Int32) = 1) ?_
                        cases h
                        exact K _ _ dX12_count_133
                      ·
                        refine g_tableOut (tgt := 134) hG dX12_count_1 (by have n0 := i32ne c1 (n := 0) (by decide); have n1 := i32ne c2 (n := 1) (by decide); have n2 := i32ne c3 (n := 2) (by decide); have n3 := i32ne c4 (n := 3) (by decide); have n4 := i32ne c5 (n := 4) (by decide); have n5 := i32ne c6 (n := 5) (by decide); have n6 := i32ne c10 (n := 6) (by decide); have n7 := i32ne c14 (n := 7) (by decide); have n8 := i32ne c15 (n := 8) (by decide); have n9 := i32ne c16 (n := 9) (by decide); have n10 := i32ne c17 (n := 10) (by decide); omega) rfl ?_
                        refine g_aload_n hG dX12_count_134 rfl ?_
                        refine g_ldc hG dX12_count_135 k_X12_45 ?_
                        obtain ⟨v18, σ19, q20, h⟩ := ob_some h
                        refine g_cV hG dX12_count_137 (c_M_errs q20) b_X12_errs v_X12_46 rfl (k := 0) rfl rfl ⟨Nat.le_of_ble_eq_true rfl, Nat.le_of_ble_eq_true rfl⟩ ⟨rfl, rfl⟩ ⟨Nat.zero_le _, Nat.zero_le _⟩ _ rfl (Nat.le_of_ble_eq_true rfl) ?_
                        cases h
                        exact K _ _ dX12_count_140
def M_told (x1 : Int32) (σ : RS) : Option (Int32 × RS) := (ob (M_in x1 (1 : Int32) (5 : Int32) σ) fun v1 σ2 => (if v1 = 0 then (ob (M_errs (-1000000001 : Int32) σ2) fun v5 σ6 => (some (v5, σ6))) else (gd (inb x1 6) (some ((σ2.2 6 (ix x1)), σ2)))))
set_option maxRecDepth 100000 in
set_option maxHeartbeats 4000000 in
theorem c_M_told {g : GP} {l : Launch} {r : Nat → Nat} {X : va_W} {v9 : Int32} {s9 : RS} {x1 : Int32} {σ : RS} (h : M_told x1 σ = some (v9, s9)) : CI g l yX12_told cX12_told 2 (some .int) { frames := 1, cells := 0, slots := 0, locals := 22 } [.ref (r 25), .int x1] (wR g r σ X) (fun r0 w => r0 = v9 ∧ w = wR g r s9 X) := by
  refine CI.mk (by decide) (Nat.le_of_ble_eq_true rfl) (fun G hG hret => ?_)
  have K : ∀ L pc, decode cX12_told pc = .ok (.ireturn, 1) → G 0 0 (wR g r s9 X) L pc [.int v9] := fun L pc d => hret _ L pc v9 d rfl ⟨rfl, rfl⟩
  unfold M_told at h
  refine g_iload_n hG dX12_told_0 rfl ?_
  refine g_iconstv hG dX12_told_1 ki_1 ?_
  refine g_iconstv hG dX12_told_2 ki_5 ?_
  obtain ⟨v1, σ2, q3, h⟩ := ob_some h
  refine g_cS hG dX12_told_3 (c_M_in q3) b_X12_in v_X12_41 rfl ⟨Nat.le_of_ble_eq_true rfl, Nat.le_of_ble_eq_true rfl⟩ ⟨rfl, rfl⟩ ⟨Nat.zero_le _, Nat.zero_le _⟩ _ rfl (Nat.le_of_ble_eq_true rfl) ?_
  rcases if_some h with ⟨c4, h⟩ | ⟨c4, h⟩
  · refine g_if_eq (tgt := 18) hG dX12_told_6 rfl (fun _ => ?_) (fun q => absurd c4 q)
    refine g_aload_n hG dX12_told_18 rfl ?_
    refine g_ldc hG dX12_told_19 k_X12_45 ?_
    obtain ⟨v5, σ6, q7, h⟩ := ob_some h
    refine g_cV hG dX12_told_21 (c_M_errs q7) b_X12_errs v_X12_46 rfl (k := 0) rfl rfl ⟨Nat.le_of_ble_eq_true rfl, Nat.le_of_ble_eq_true rfl⟩ ⟨rfl, rfl⟩ ⟨Nat.zero_le _, Nat.zero_le _⟩ _ rfl (Nat.le_of_ble_eq_true rfl) ?_
    cases h
    exact K _ _ dX12_told_24
  · refine g_if_eq (tgt := 18) hG dX12_told_6 rfl (fun q => absurd q c4) (fun _ => ?_)
    refine g_aload_n hG dX12_told_9 rfl ?_
    refine r_get 6 hG dX12_told_10 f_X12_22 (by decide) rfl ?_
    refine g_iload_n hG dX12_told_13 rfl ?_
    obtain ⟨b8, h⟩ := gd_some h
    refine r_iald 5 6 6 hG dX12_told_14 rfl b8 rfl ?_
    refine g_goto (tgt := 24) hG dX12_told_15 rfl ?_
    cases h
    exact K _ _ dX12_told_24
