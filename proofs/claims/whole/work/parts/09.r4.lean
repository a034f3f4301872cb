def M_carSet_b4 : Nat → Int32 → Int32 → RS → Option (Int32 × RS)
  | 0, _, _, _ => none
  | n + 1, x1, x2, σ => (if (σ.2 0 2) ≤ x2 then (some (x1, σ)) else (ob (M_its x2 (3 : Int32) σ) fun v2 σ3 => (lt (x1 ||| (v2 <<< (x2 &&& 31))) fun v5 => ((M_carSet_b4  n) v5 (x2 + (1 : Int32)) σ3))))
set_option maxRecDepth 100000 in
set_option maxHeartbeats 4000000 in
theorem s_M_carSet_b4 {g : GP} {l : Launch} {r : Nat → Nat} {X : va_W} {G : GT} {v9 : Int32} {s9 : RS} (hG : IsG g l yX12_carSet cX12_carSet 3 { frames := 1, cells := 0, slots := 0, locals := 22 } G) (K : ∀ L pc, decode cX12_carSet pc = .ok (.ireturn, 1) → G 0 0 (wR g r s9 X) L pc [.int v9]) : ∀ (n : Nat) (x1 : Int32) (x2 : Int32) (σ : RS) (h : M_carSet_b4  n x1 x2 σ = some (v9, s9)), G 0 0 (wR g r σ X) [(0, .ref (r 25)), (1, .int x1), (2, .int x2)] 4 [] := by
  intro n
  induction n with
  | zero => intro _ _ σ h; cases h
  | succ n ih =>
    intro x1 x2 σ h
    unfold M_carSet_b4 at h
    refine g_iload_n hG dX12_carSet_4 rfl ?_
    refine g_aload_n hG dX12_carSet_5 rfl ?_
    refine r_get 0 hG dX12_carSet_6 f_X12_7 (by decide) rfl ?_
    refine g_iconstv hG dX12_carSet_9 ki_2 ?_
    refine r_iald 1 0 240 hG dX12_carSet_10 rfl (by decide) (by decide : Int32.toNatClampNeg (2 : Int32) = 2) ?_
    rcases if_some h with ⟨c1, h⟩ | ⟨c1, h⟩
    · refine g_icmp_ge (tgt := 31) hG dX12_carSet_11 rfl (fun _ => ?_) (fun q => absurd c1 q)
      refine g_iload_n hG dX12_carSet_31 rfl ?_
      cases h
      exact K _ _ dX12_carSet_32
    · refine g_icmp_ge (tgt := 31) hG dX12_carSet_11 rfl (fun q => absurd q c1) (fun _ => ?_)
      refine g_iload_n hG dX12_carSet_14 rfl ?_
      refine g_aload_n hG dX12_carSet_15 rfl ?_
      refine g_iload_n hG dX12_carSet_16 rfl ?_
      refine g_iconstv hG dX12_carSet_17 ki_3 ?_
      obtain ⟨v2, σ3, q4, h⟩ := ob_some h
      refine g_cV hG dX12_carSet_18 (c_M_its q4) b_X12_its v_X12_59 rfl (k := 0) rfl rfl ⟨Nat.le_of_ble_eq_true rfl, Nat.le_of_ble_eq_true rfl⟩ ⟨rfl, rfl⟩ ⟨Nat.zero_le _, Nat.zero_le _⟩ _ rfl (Nat.le_of_ble_eq_true rfl) ?_
      refine g_iload_n hG dX12_carSet_21 rfl ?_
      refine g_ishl hG dX12_carSet_22 ?_
      refine g_ior hG dX12_carSet_23 ?_
      obtain ⟨v5, e6, h⟩ := lt_ex h
      refine g_nam e6 ?_
      refine g_istore_n hG dX12_carSet_24 (by decide) ?_
      refine g_iincv (c := (1 : Int32)) hG dX12_carSet_25 rfl (by decide) (by decide) ?_
      refine g_goto (tgt := 4) hG dX12_carSet_28 rfl ?_
      refine g_loc hG [(0, .ref (r 25)), (1, .int v5), (2, .int (x2 + (1 : Int32)))] ⟨rfl, rfl, rfl, trivial⟩ ?_
      exact ih _ _ _ h
def M_carSet  (σ : RS) : Option (Int32 × RS) := (M_carSet_b4  FU (0 : Int32) (0 : Int32) σ)
set_option maxRecDepth 100000 in
set_option maxHeartbeats 4000000 in
theorem c_M_carSet {g : GP} {l : Launch} {r : Nat → Nat} {X : va_W} {v9 : Int32} {s9 : RS} {σ : RS} (h : M_carSet  σ = some (v9, s9)) : CI g l yX12_carSet cX12_carSet 3 (some .int) { frames := 1, cells := 0, slots := 0, locals := 22 } [.ref (r 25)] (wR g r σ X) (fun r0 w => r0 = v9 ∧ w = wR g r s9 X) := by
  refine CI.mk (by decide) (Nat.le_of_ble_eq_true rfl) (fun G hG hret => ?_)
  have K : ∀ L pc, decode cX12_carSet pc = .ok (.ireturn, 1) → G 0 0 (wR g r s9 X) L pc [.int v9] := fun L pc d => hret _ L pc v9 d rfl ⟨rfl, rfl⟩
  unfold M_carSet at h
  refine g_iconstv hG dX12_carSet_0 ki_0 ?_
  refine g_istore_n hG dX12_carSet_1 (by decide) ?_
  refine g_iconstv hG dX12_carSet_2 ki_0 ?_
  refine g_istore_n hG dX12_carSet_3 (by decide) ?_
  refine g_loc hG [(0, .ref (r 25)), (1, .int (0 : Int32)), (2, .int (0 : Int32))] ⟨rfl, rfl, rfl, trivial⟩ ?_
  exact s_M_carSet_b4  hG K FU _ _ _ h
def M_isClean_b33 (x1 : Int32) (x2 : Int32) (x3 : Int32) (σ : RS) : Option (Int32 × RS) := (ob (M_passes x3 σ) fun v5 σ6 => (ob (M_its x1 (2 : Int32) σ6) fun v8 σ9 => (lt (if x2 ≤ v8 then (0 : Int32) else (1 : Int32)) fun v13 => (ob (M_moveAll 2 0 σ9) fun v15 σ16 => (some (v13, σ16))))))
set_option maxRecDepth 100000 in
set_option maxHeartbeats 4000000 in
theorem s_M_isClean_b33 {g : GP} {l : Launch} {r : Nat → Nat} {X : va_W} {G : GT} {v9 : Int32} {s9 : RS} (hG : IsG g l yX12_isClean cX12_isClean 7 { frames := 59, cells := 0, slots := 0, locals := 1341 } G) (K : ∀ L pc, decode cX12_isClean pc = .ok (.ireturn, 1) → isb v9 = true → G 0 0 (wR g r s9 X) L pc [.int v9]) {x1 : Int32} {x2 : Int32} {x3 : Int32} {σ : RS} (h : M_isClean_b33  x1 x2 x3 σ = some (v9, s9)) : G 0 0 (wR g r σ X) [(0, .ref (r 25)), (1, .int x1), (2, .int x2), (3, .int x3)] 33 [] := by
  unfold M_isClean_b33 at h
  refine g_aload_n hG dX12_isClean_33 rfl ?_
  refine g_iload_n hG dX12_isClean_34 rfl ?_
  obtain ⟨v5, σ6, q7, h⟩ := ob_some h
  refine g_cVv hG dX12_isClean_35 (c_M_passes q7) b_X12_passes v_X12_175 rfl (k := 0) rfl rfl ⟨Nat.le_of_ble_eq_true rfl, Nat.le_of_ble_eq_true rfl⟩ ⟨rfl, rfl⟩ ⟨Nat.zero_le _, Nat.zero_le _⟩ _ rfl (Nat.le_of_ble_eq_true rfl) ?_
  refine g_aload_n hG dX12_isClean_38 rfl ?_
  refine g_iload_n hG dX12_isClean_39 rfl ?_
  refine g_iconstv hG dX12_isClean_40 ki_2 ?_
  obtain ⟨v8, σ9, q10, h⟩ := ob_some h
  refine g_cV hG dX12_isClean_41 (c_M_its q10) b_X12_its v_X12_59 rfl (k := 0) rfl rfl ⟨Nat.le_of_ble_eq_true rfl, Nat.le_of_ble_eq_true rfl⟩ ⟨rfl, rfl⟩ ⟨Nat.zero_le _, Nat.zero_le _⟩ _ rfl (Nat.le_of_ble_eq_true rfl) ?_
  refine g_iload_n hG dX12_isClean_44 rfl ?_
  refine g_dia2 (if x2 ≤ v8 then (0 : Int32) else (1 : Int32)) 53 (fun J11 => ?_) ?_
  · by_cases c12 : x2 ≤ v8
    · refine g_icmp_ge (tgt := 52) hG dX12_isClean_45 rfl (fun _ => ?_) (fun q => absurd c12 q)
      refine g_iconstv hG dX12_isClean_52 ki_0 ?_
      rw [if_pos c12] at J11
      exact J11
    · refine g_icmp_ge (tgt := 52) hG dX12_isClean_45 rfl (fun q => absurd q c12) (fun _ => ?_)
      refine g_iconstv hG dX12_isClean_48 ki_1 ?_
      refine g_goto (tgt := 53) hG dX12_isClean_49 rfl ?_
      rw [if_neg c12] at J11
      exact J11
  obtain ⟨v13, e14, h⟩ := lt_ex h
  refine g_nam e14 ?_
  refine g_istore hG dX12_isClean_53 (by decide) ?_
  refine g_aload_n hG dX12_isClean_55 rfl ?_
  refine g_aload_n hG dX12_isClean_56 rfl ?_
  refine r_get 2 hG dX12_isClean_57 f_X12_16 (by decide) rfl ?_
  refine g_aload_n hG dX12_isClean_60 rfl ?_
  refine r_get 0 hG dX12_isClean_61 f_X12_7 (by decide) rfl ?_
  obtain ⟨v15, σ16, q17, h⟩ := ob_some h
  refine g_cVv hG dX12_isClean_64 (c_M_moveAll (by decide) (by decide) (by decide) q17) b_X12_moveAll v_X12_150 rfl (k := 0) rfl rfl ⟨Nat.le_of_ble_eq_true rfl, Nat.le_of_ble_eq_true rfl⟩ ⟨rfl, rfl⟩ ⟨Nat.zero_le _, Nat.zero_le _⟩ _ rfl (Nat.le_of_ble_eq_true rfl) ?_
  refine g_iload hG dX12_isClean_67 rfl ?_
  cases h
  exact K _ _ dX12_isClean_69 (by rw [e14]; exact (isb_ite (by decide) (by decide)))
def M_isClean (x1 : Int32) (x2 : Int32) (x3 : Int32) (x4 : Int32) (x5 : Int32) (σ : RS) : Option (Int32 × RS) := (ob (M_moveAll 0 2 σ) fun v1 σ2 => (if x4 < 0 then (M_isClean_b33  x1 x2 x3 σ2) else (ob (M_gets x4 (3 : Int32) (0 : Int32) σ2) fun v18 σ19 => (ob (M_gets x5 (3 : Int32) (0 : Int32) σ19) fun v21 σ22 => (M_isClean_b33  x1 x2 x3 σ22)))))
set_option maxRecDepth 100000 in
set_option maxHeartbeats 4000000 in
theorem c_M_isClean {g : GP} {l : Launch} {r : Nat → Nat} {X : va_W} {v9 : Int32} {s9 : RS} {x1 : Int32} {x2 : Int32} {x3 : Int32} {x4 : Int32} {x5 : Int32} {σ : RS} (h : M_isClean x1 x2 x3 x4 x5 σ = some (v9, s9)) : CI g l yX12_isClean cX12_isClean 7 (some .boolean) { frames := 59, cells := 0, slots := 0, locals := 1341 } [.ref (r 25), .int x1, .int x2, .int x3, .int x4, .int x5] (wR g r σ X) (fun r0 w => r0 = v9 ∧ w = wR g r s9 X) := by
  refine CI.mk (by decide) (Nat.le_of_ble_eq_true rfl) (fun G hG hret => ?_)
  have K : ∀ L pc, decode cX12_isClean pc = .ok (.ireturn, 1) → isb v9 = true → G 0 0 (wR g r s9 X) L pc [.int v9] := fun L pc d hz => hret _ L pc v9 d (isb_n hz) ⟨rfl, rfl⟩
  unfold M_isClean at h
  refine g_aload_n hG dX12_isClean_0 rfl ?_
  refine g_aload_n hG dX12_isClean_1 rfl ?_
  refine r_get 0 hG dX12_isClean_2 f_X12_7 (by decide) rfl ?_
  refine g_aload_n hG dX12_isClean_5 rfl ?_
  refine r_get 2 hG dX12_isClean_6 f_X12_16 (by decide) rfl ?_
  obtain ⟨v1, σ2, q3, h⟩ := ob_some h
  refine g_cVv hG dX12_isClean_9 (c_M_moveAll (by decide) (by decide) (by decide) q3) b_X12_moveAll v_X12_150 rfl (k := 0) rfl rfl ⟨Nat.le_of_ble_eq_true rfl, Nat.le_of_ble_eq_true rfl⟩ ⟨rfl, rfl⟩ ⟨Nat.zero_le _, Nat.zero_le _⟩ _ rfl (Nat.le_of_ble_eq_true rfl) ?_
  refine g_iload hG dX12_isClean_12 rfl ?_
  rcases if_some h with ⟨c4, h⟩ | ⟨c4, h⟩
  · refine g_if_lt (tgt := 33) hG dX12_isClean_14 rfl (fun _ => ?_) (fun q => absurd c4 q)
    refine g_loc hG [(0, .ref (r 25)), (1, .int x1), (2, .int x2), (3, .int x3)] ⟨rfl, rfl, rfl, rfl, trivial⟩ ?_
    exact s_M_isClean_b33  hG K  h
  · refine g_if_lt (tgt := 33) hG dX12_isClean_14 rfl (fun q => absurd q c4) (fun _ => ?_)
    refine g_aload_n hG dX12_isClean_17 rfl ?_
    refine g_iload hG dX12_isClean_18 rfl ?_
    refine g_iconstv hG dX12_isClean_20 ki_3 ?_
    refine g_iconstv hG dX12_isClean_21 ki_0 ?_
    obtain ⟨v18, σ19, q20, h⟩ := ob_some h
    refine g_cVv hG dX12_isClean_22 (c_M_gets q20) b_X12_gets v_X12_51 rfl (k := 0) rfl rfl ⟨Nat.le_of_ble_eq_true rfl, Nat.le_of_ble_eq_true rfl⟩ ⟨rfl, rfl⟩ ⟨Nat.zero_le _, Nat.zero_le _⟩ _ rfl (Nat.le_of_ble_eq_true rfl) ?_
    refine g_aload_n hG dX12_isClean_25 rfl ?_
    refine g_iload hG dX12_isClean_26 rfl ?_
    refine g_iconstv hG dX12_isClean_28 ki_3 ?_
    refine g_iconstv hG dX12_isClean_29 ki_0 ?_
    obtain ⟨v21, σ22, q23, h⟩ := ob_some h
    refine g_cVv hG dX12_isClean_30 (c_M_gets q23) b_X12_gets v_X12_51 rfl (k := 0) rfl rfl ⟨Nat.le_of_ble_eq_true rfl, Nat.le_of_ble_eq_true rfl⟩ ⟨rfl, rfl⟩ ⟨Nat.zero_le _, Nat.zero_le _⟩ _ rfl (Nat.le_of_ble_eq_true rfl) ?_
    refine g_loc hG [(0, .ref (r 25)), (1, .int x1), (2, .int x2), (3, .int x3)] ⟨rfl, rfl, rfl, rfl, trivial⟩ ?_
    exact s_M_isClean_b33  hG K  h
def M_tow_b139 (ag72 : Int32 → Int32 → Int32 → Int32 → Int32 → Int32 → Int32 → RS → Option (Int32 × RS)) (ag81 : Int32 → Int32 → Int32 → Int32 → Int32 → Int32 → Int32 → Int32 → RS → Option (Int32 × RS)) (x1 : Int32) (x2 : Int32) (x3 : Int32) (x4 : Int32) (x5 : Int32) (x6 : Int32) (x7 : Int32) (x8 : Int32) (s0 : Int32) (σ : RS) : Option (Int32 × RS) := (lt (if s0 = 0 then x5 else (if x7 = x8 then ((1 : Int32) <<< (x7 &&& 31)) else x5)) fun v49 => (lt (if s0 = 0 then x6 else (if x7 = x8 then x6 else (((1 : Int32) <<< (x7 &&& 31)) ||| ((1 : Int32) <<< (x8 &&& 31))))) fun v54 => (ag81 x1 x2 x3 x4 v49 v54 x7 (x8 + (-1 : Int32)) σ)))
set_option maxRecDepth 100000 in
set_option maxHeartbeats 4000000 in
theorem s_M_tow_b139 {g : GP} {l : Launch} {r : Nat → Nat} {X : va_W} {G : GT} {v9 : Int32} {s9 : RS} (hG : IsG g l yX12_tow cX12_tow 10 { frames := 60, cells := 0, slots := 0, locals := 1367 } G) (K : ∀ L pc, decode cX12_tow pc = .ok (.ireturn, 1) → G 0 0 (wR g r s9 X) L pc [.int v9]) {ag72 : Int32 → Int32 → Int32 → Int32 → Int32 → Int32 → Int32 → RS → Option (Int32 × RS)} (hag72 : ∀ (x1 : Int32) (x2 : Int32) (x3 : Int32) (x4 : Int32) (x5 : Int32) (x6 : Int32) (x7 : Int32) (σ : RS), ag72 x1 x2 x3 x4 x5 x6 x7 σ = some (v9, s9) → G 0 0 (wR g r σ X) [(0, .ref (r 25)), (1, .int x1), (2, .int x2), (3, .int x3), (4, .int x4), (5, .int x5), (6, .int x6), (7, .int x7)] 72 []) {ag81 : Int32 → Int32 → Int32 → Int32 → Int32 → Int32 → Int32 → Int32 → RS → Option (Int32 × RS)} (hag81 : ∀ (x1 : Int32) (x2 : Int32) (x3 : Int32) (x4 : Int32) (x5 : Int32) (x6 : Int32) (x7 : Int32) (x8 : Int32) (σ : RS), ag81 x1 x2 x3 x4 x5 x6 x7 x8 σ = some (v9, s9) → G 0 0 (wR g r σ X) [(0, .ref (r 25)), (1, .int x1), (2, .int x2), (3, .int x3), (4, .int x4), (5, .int x5), (6, .int x6), (7, .int x7), (8, .int x8)] 81 []) {x1 : Int32} {x2 : Int32} {x3 : Int32} {x4 : Int32} {x5 : Int32} {x6 : Int32} {x7 : Int32} {x8 : Int32} {s0 : Int32} {σ : RS} (h : M_tow_b139 ag72 ag81 x1 x2 x3 x4 x5 x6 x7 x8 s0 σ = some (v9, s9)) : G 0 0 (wR g r σ X) [(0, .ref (r 25)), (1, .int x1), (2, .int x2), (3, .int x3), (4, .int x4), (5, .int x5), (6, .int x6), (7, .int x7), (8, .int x8)] 139 [.int s0] := by
  unfold M_tow_b139 at h
  refine g_istore hG dX12_tow_139 (by decide) ?_
  refine g_iload hG dX12_tow_141 rfl ?_
  refine g_dia1 (if s0 = 0 then x5 else (if x7 = x8 then ((1 : Int32) <<< (x7 &&& 31)) else x5)) 162 (fun J46 => ?_) ?_
  · by_cases c47 : s0 = 0
    · refine g_if_eq (tgt := 160) hG dX12_tow_143 rfl (fun _ => ?_) (fun q => absurd c47 q)
      refine g_iload hG dX12_tow_160 rfl ?_
      rw [if_pos c47] at J46
      exact J46
    · refine g_if_eq (tgt := 160) hG dX12_tow_143 rfl (fun q => absurd q c47) (fun _ => ?_)
      refine g_iload hG dX12_tow_146 rfl ?_
      refine g_iload hG dX12_tow_148 rfl ?_
      by_cases c48 : x7 = x8
      · refine g_icmp_ne (tgt := 160) hG dX12_tow_150 rfl (fun q => absurd c48 q) (fun _ => ?_)
        refine g_iconstv hG dX12_tow_153 ki_1 ?_
        refine g_iload hG dX12_tow_154 rfl ?_
        refine g_ishl hG dX12_tow_156 ?_
        refine g_goto (tgt := 162) hG dX12_tow_157 rfl ?_
        rw [if_neg c47, if_pos c48] at J46
        exact J46
      · refine g_icmp_ne (tgt := 160) hG dX12_tow_150 rfl (fun _ => ?_) (fun q => absurd q c48)
        refine g_iload hG dX12_tow_160 rfl ?_
        rw [if_neg c47, if_neg c48] at J46
        exact J46
  obtain ⟨v49, e50, h⟩ := lt_ex h
  refine g_nam e50 ?_
  refine g_istore hG dX12_tow_162 (by decide) ?_
  refine g_iload hG dX12_tow_164 rfl ?_
  refine g_dia1 (if s0 = 0 then x6 else (if x7 = x8 then x6 else (((1 : Int32) <<< (x7 &&& 31)) ||| ((1 : Int32) <<< (x8 &&& 31))))) 190 (fun J51 => ?_) ?_
  · by_cases c52 : s0 = 0
    · refine g_if_eq (tgt := 188) hG dX12_tow_166 rfl (fun _ => ?_) (fun q => absurd c52 q)
      refine g_iload hG dX12_tow_188 rfl ?_
      rw [if_pos c52] at J51
      exact J51
    · refine g_if_eq (tgt := 188) hG dX12_tow_166 rfl (fun q => absurd q c52) (fun _ => ?_)
      refine g_iload hG dX12_tow_169 rfl ?_
      refine g_iload hG dX12_tow_171 rfl ?_
      by_cases c53 : x7 = x8
      · refine g_icmp_eq (tgt := 188) hG dX12_tow_173 rfl (fun _ => ?_) (fun q => absurd c53 q)
        refine g_iload hG dX12_tow_188 rfl ?_
        rw [if_neg c52, if_pos c53] at J51
        exact J51
      · refine g_icmp_eq (tgt := 188) hG dX12_tow_173 rfl (fun q => absurd q c53) (fun _ => ?_)
        refine g_iconstv hG dX12_tow_176 ki_1 ?_
        refine g_iload hG dX12_tow_177 rfl ?_
        refine g_ishl hG dX12_tow_179 ?_
        refine g_iconstv hG dX12_tow_180 ki_1 ?_
        refine g_iload hG dX12_tow_181 rfl ?_
        refine g_ishl hG dX12_tow_183 ?_
        refine g_ior hG dX12_tow_184 ?_
        refine g_goto (tgt := 190) hG dX12_tow_185 rfl ?_
        rw [if_neg c52, if_neg c53] at J51
        exact J51
  obtain ⟨v54, e55, h⟩ := lt_ex h
  refine g_nam e55 ?_
  refine g_istore hG dX12_tow_190 (by decide) ?_
  refine g_iincv (c := (-1 : Int32)) hG dX12_tow_192 rfl (by decide) (by decide) ?_
  refine g_goto (tgt := 81) hG dX12_tow_195 rfl ?_
  refine g_loc hG [(0, .ref (r 25)), (1, .int x1), (2, .int x2), (3, .int x3), (4, .int x4), (5, .int v49), (6, .int v54), (7, .int x7), (8, .int (x8 + (-1 : Int32)))] ⟨rfl, rfl, rfl, rfl, rfl, rfl, rfl, rfl, rfl, trivial⟩ ?_
  exact hag81 _ _ _ _ _ _ _ _ _ h
def M_tow_b120 (ag72 : Int32 → Int32 → Int32 → Int32 → Int32 → Int32 → Int32 → RS → Option (Int32 × RS)) (ag81 : Int32 → Int32 → Int32 → Int32 → Int32 → Int32 → Int32 → Int32 → RS → Option (Int32 × RS)) (x1 : Int32) (x2 : Int32) (x3 : Int32) (x4 : Int32) (x5 : Int32) (x6 : Int32) (x7 : Int32) (x8 : Int32) (σ : RS) : Option (Int32 × RS) := (ob (M_isClean x1 x2 x3 x7 x8 σ) fun v41 σ42 => (M_tow_b139 ag72 ag81 x1 x2 x3 x4 x5 x6 x7 x8 (if v41 = 0 then (0 : Int32) else (1 : Int32)) σ42))
set_option maxRecDepth 100000 in
set_option maxHeartbeats 4000000 in
theorem s_M_tow_b120 {g : GP} {l : Launch} {r : Nat → Nat} {X : va_W} {G : GT} {v9 : Int32} {s9 : RS} (hG : IsG g l yX12_tow cX12_tow 10 { frames := 60, cells := 0, slots := 0, locals := 1367 } G) (K : ∀ L pc, decode cX12_tow pc = .ok (.ireturn, 1) → G 0 0 (wR g r s9 X) L pc [.int v9]) {ag72 : Int32 → Int32 → Int32 → Int32 → Int32 → Int32 → Int32 → RS → Option (Int32 × RS)} (hag72 : ∀ (x1 : Int32) (x2 : Int32) (x3 : Int32) (x4 : Int32) (x5 : Int32) (x6 : Int32) (x7 : Int32) (σ : RS), ag72 x1 x2 x3 x4 x5 x6 x7 σ = some (v9, s9) → G 0 0 (wR g r σ X) [(0, .ref (r 25)), (1, .int x1), (2, .int x2), (3, .int x3), (4, .int x4), (5, .int x5), (6, .int x6), (7, .int x7)] 72 []) {ag81 : Int32 → Int32 → Int32 → Int32 → Int32 → Int32 → Int32 → Int32 → RS → Option (Int32 × RS)} (hag81 : ∀ (x1 : Int32) (x2 : Int32) (x3 : Int32) (x4 : Int32) (x5 : Int32) (x6 : Int32) (x7 : Int32) (x8 : Int32) (σ : RS), ag81 x1 x2 x3 x4 x5 x6 x7 x8 σ = some (v9, s9) → G 0 0 (wR g r σ X) [(0, .ref (r 25)), (1, .int x1), (2, .int x2), (3, .int x3), (4, .int x4), (5, .int x5), (6, .int x6), (7, .int x7), (8, .int x8)] 81 []) {x1 : Int32} {x2 : Int32} {x3 : Int32} {x4 : Int32} {x5 : Int32} {x6 : Int32} {x7 : Int32} {x8 : Int32} {σ : RS} (h : M_tow_b120 ag72 ag81 x1 x2 x3 x4 x5 x6 x7 x8 σ = some (v9, s9)) : G 0 0 (wR g r σ X) [(0, .ref (r 25)), (1, .int x1), (2, .int x2), (3, .int x3), (4, .int x4), (5, .int x5), (6, .int x6), (7, .int x7), (8, .int x8)] 120 [] := by
  unfold M_tow_b120 at h
  refine g_aload_n hG dX12_tow_120 rfl ?_
  refine g_iload_n hG dX12_tow_121 rfl ?_
  refine g_iload_n hG dX12_tow_122 rfl ?_
  refine g_iload_n hG dX12_tow_123 rfl ?_
  refine g_iload hG dX12_tow_124 rfl ?_
  refine g_iload hG dX12_tow_126 rfl ?_
  obtain ⟨v41, σ42, q43, h⟩ := ob_some h
  refine g_cV hG dX12_tow_128 (c_M_isClean q43) b_X12_isClean v_X12_193 rfl (k := 0) rfl rfl ⟨Nat.le_of_ble_eq_true rfl, Nat.le_of_ble_eq_true rfl⟩ ⟨rfl, rfl⟩ ⟨Nat.zero_le _, Nat.zero_le _⟩ _ rfl (Nat.le_of_ble_eq_true rfl) ?_
  refine g_dia1 (if v41 = 0 then (0 : Int32) else (1 : Int32)) 139 (fun J44 => ?_) ?_
  · by_cases c45 : v41 = 0
    · refine g_if_eq (tgt := 138) hG dX12_tow_131 rfl (fun _ => ?_) (fun q => absurd c45 q)
      refine g_iconstv hG dX12_tow_138 ki_0 ?_
      rw [if_pos c45] at J44
      exact J44
    · refine g_if_eq (tgt := 138) hG dX12_tow_131 rfl (fun q => absurd q c45) (fun _ => ?_)
      refine g_iconstv hG dX12_tow_134 ki_1 ?_
      refine g_goto (tgt := 139) hG dX12_tow_135 rfl ?_
      rw [if_neg c45] at J44
      exact J44
  refine g_loc hG [(0, .ref (r 25)), (1, .int x1), (2, .int x2), (3, .int x3), (4, .int x4), (5, .int x5), (6, .int x6), (7, .int x7), (8, .int x8)] ⟨rfl, rfl, rfl, rfl, rfl, rfl, rfl, rfl, rfl, trivial⟩ ?_
  exact s_M_tow_b139  hG K hag72 hag81 h
def M_tow_b138 (ag72 : Int32 → Int32 → Int32 → Int32 → Int32 → Int32 → Int32 → RS → Option (Int32 × RS)) (ag81 : Int32 → Int32 → Int32 → Int32 → Int32 → Int32 → Int32 → Int32 → RS → Option (Int32 × RS)) (x1 : Int32) (x2 : Int32) (x3 : Int32) (x4 : Int32) (x5 : Int32) (x6 : Int32) (x7 : Int32) (x8 : Int32) (σ : RS) : Option (Int32 × RS) := (M_tow_b139 ag72 ag81 x1 x2 x3 x4 x5 x6 x7 x8 (0 : Int32) σ)
set_option maxRecDepth 100000 in
set_option maxHeartbeats 4000000 in
theorem s_M_tow_b138 {g : GP} {l : Launch} {r : Nat → Nat} {X : va_W} {G : GT} {v9 : Int32} {s9 : RS} (hG : IsG g l yX12_tow cX12_tow 10 { frames := 60, cells := 0, slots := 0, locals := 1367 } G) (K : ∀ L pc, decode cX12_tow pc = .ok (.ireturn, 1) → G 0 0 (wR g r s9 X) L pc [.int v9]) {ag72 : Int32 → Int32 → Int32 → Int32 → Int32 → Int32 → Int32 → RS → Option (Int32 × RS)} (hag72 : ∀ (x1 : Int32) (x2 : Int32) (x3 : Int32) (x4 : Int32) (x5 : Int32) (x6 : Int32) (x7 : Int32) (σ : RS), ag72 x1 x2 x3 x4 x5 x6 x7 σ = some (v9, s9) → G 0 0 (wR g r σ X) [(0, .ref (r 25)), (1, .int x1), (2, .int x2), (3, .int x3), (4, .int x4), (5, .int x5), (6, .int x6), (7, .int x7)] 72 []) {ag81 : Int32 → Int32 → Int32 → Int32 → Int32 → Int32 → Int32 → Int32 → RS → Option (Int32 × RS)} (hag81 : ∀ (x1 : Int32) (x2 : Int32) (x3 : Int32) (x4 : Int32) (x5 : Int32) (x6 : Int32) (x7 : Int32) (x8 : Int32) (σ : RS), ag81 x1 x2 x3 x4 x5 x6 x7 x8 σ = some (v9, s9) → G 0 0 (wR g r σ X) [(0, .ref (r 25)), (1, .int x1), (2, .int x2), (3, .int x3), (4, .int x4), (5, .int x5), (6, .int x6), (7, .int x7), (8, .int x8)] 81 []) {x1 : Int32} {x2 : Int32} {x3 : Int32} {x4 : Int32} {x5 : Int32} {x6 : Int32} {x7 : Int32} {x8 : Int32} {σ : RS} (h : M_tow_b138 ag72 ag81 x1 x2 x3 x4 x5 x6 x7 x8 σ = some (v9, s9)) : G 0 0 (wR g r σ X) [(0, .ref (r 25)), (1, .int x1), (2, .int x2), (3, .int x3), (4, .int x4), (5, .int x5), (6, .int x6), (7, .int x7), (8, .int x8)] 138 [] := by
  unfold M_tow_b138 at h
  refine g_iconstv hG dX12_tow_138 ki_0 ?_
  refine g_loc hG [(0, .ref (r 25)), (1, .int x1), (2, .int x2), (3, .int x3), (4, .int x4), (5, .int x5), (6, .int x6), (7, .int x7), (8, .int x8)] ⟨rfl, rfl, rfl, rfl, rfl, rfl, rfl, rfl, rfl, trivial⟩ ?_
  exact s_M_tow_b139  hG K hag72 hag81 h
def M_tow_b81 (ag72 : Int32 → Int32 → Int32 → Int32 → Int32 → Int32 → Int32 → RS → Option (Int32 × RS)) : Nat → Int32 → Int32 → Int32 → Int32 → Int32 → Int32 → Int32 → Int32 → RS → Option (Int32 × RS)
  | 0, _, _, _, _, _, _, _, _, _ => none
  | n + 1, x1, x2, x3, x4, x5, x6, x7, x8, σ => (if x8 < 0 then (ag72 x1 x2 x3 x4 x5 x6 (x7 + (-1 : Int32)) σ) else (if ((x4 >>> (x7 &&& 31)) &&& (1 : Int32)) = (1 : Int32) then (if ((x4 >>> (x8 &&& 31)) &&& (1 : Int32)) = (1 : Int32) then (if x7 = x8 then (M_tow_b120 ag72 (M_tow_b81 ag72 n) x1 x2 x3 x4 x5 x6 x7 x8 σ) else (if 0 ≤ x5 then (M_tow_b138 ag72 (M_tow_b81 ag72 n) x1 x2 x3 x4 x5 x6 x7 x8 σ) else (M_tow_b120 ag72 (M_tow_b81 ag72 n) x1 x2 x3 x4 x5 x6 x7 x8 σ))) else (M_tow_b138 ag72 (M_tow_b81 ag72 n) x1 x2 x3 x4 x5 x6 x7 x8 σ)) else (M_tow_b138 ag72 (M_tow_b81 ag72 n) x1 x2 x3 x4 x5 x6 x7 x8 σ)))
set_option maxRecDepth 100000 in
set_option maxHeartbeats 4000000 in
theorem s_M_tow_b81 {g : GP} {l : Launch} {r : Nat → Nat} {X : va_W} {G : GT} {v9 : Int32} {s9 : RS} (hG : IsG g l yX12_tow cX12_tow 10 { frames := 60, cells := 0, slots := 0, locals := 1367 } G) (K : ∀ L pc, decode cX12_tow pc = .ok (.ireturn, 1) → G 0 0 (wR g r s9 X) L pc [.int v9]) {ag72 : Int32 → Int32 → Int32 → Int32 → Int32 → Int32 → Int32 → RS → Option (Int32 × RS)} (hag72 : ∀ (x1 : Int32) (x2 : Int32) (x3 : Int32) (x4 : Int32) (x5 : Int32) (x6 : Int32) (x7 : Int32) (σ : RS), ag72 x1 x2 x3 x4 x5 x6 x7 σ = some (v9, s9) → G 0 0 (wR g r σ X) [(0, .ref (r 25)), (1, .int x1), (2, .int x2), (3, .int x3), (4, .int x4), (5, .int x5), (6, .int x6), (7, .int x7)] 72 []) : ∀ (n : Nat) (x1 : Int32) (x2 : Int32) (x3 : Int32) (x4 : Int32) (x5 : Int32) (x6 : Int32) (x7 : Int32) (x8 : Int32) (σ : RS) (h : M_tow_b81 ag72 n x1 x2 x3 x4 x5 x6 x7 x8 σ = some (v9, s9)), G 0 0 (wR g r σ X) [(0, .ref (r 25)), (1, .int x1), (2, .int x2), (3, .int x3), (4, .int x4), (5, .int x5), (6, .int x6), (7, .int x7), (8, .int x8)] 81 [] := by
  intro n
  induction n with
  | zero => intro _ _ _ _ _ _ _ _ σ h; cases h
  | succ n ih =>
    intro x1 x2 x3 x4 x5 x6 x7 x8 σ h
    unfold M_tow_b81 at h
    refine g_iload hG dX12_tow_81 rfl ?_
    rcases if_some h with ⟨c37, h⟩ | ⟨c37, h⟩
    · refine g_if_lt (tgt := 198) hG dX12_tow_83 rfl (fun _ => ?_) (fun q => absurd c37 q)
      refine g_iincv (c := (-1 : Int32)) hG dX12_tow_198 rfl (by decide) (by decide) ?_
      refine g_goto (tgt := 72) hG dX12_tow_201 rfl ?_
      refine g_loc hG [(0, .ref (r 25)), (1, .int x1), (2, .int x2), (3, .int x3), (4, .int x4), (5, .int x5), (6, .int x6), (7, .int (x7 + (-1 : Int32)))] ⟨rfl, rfl, rfl, rfl, rfl, rfl, rfl, rfl, trivial⟩ ?_
      exact hag72 _ _ _ _ _ _ _ _ h
    · refine g_if_lt (tgt := 198) hG dX12_tow_83 rfl (fun q => absurd q c37) (fun _ => ?_)
      refine g_iload hG dX12_tow_86 rfl ?_
      refine g_iload hG dX12_tow_88 rfl ?_
      refine g_ishr hG dX12_tow_90 ?_
      refine g_iconstv hG dX12_tow_91 ki_1 ?_
      refine g_iand hG dX12_tow_92 ?_
      refine g_iconstv hG dX12_tow_93 ki_1 ?_
      rcases if_some h with ⟨c38, h⟩ | ⟨c38, h⟩
      · refine g_icmp_ne (tgt := 138) hG dX12_tow_94 rfl (fun q => absurd c38 q) (fun _ => ?_)
        refine g_iload hG dX12_tow_97 rfl ?_
        refine g_iload hG dX12_tow_99 rfl ?_
        refine g_ishr hG dX12_tow_101 ?_
        refine g_iconstv hG dX12_tow_102 ki_1 ?_
        refine g_iand hG dX12_tow_103 ?_
        refine g_iconstv hG dX12_tow_104 ki_1 ?_
        rcases if_some h with ⟨c39, h⟩ | ⟨c39, h⟩
        · refine g_icmp_ne (tgt := 138) hG dX12_tow_105 rfl (fun q => absurd c39 q) (fun _ => ?_)
          refine g_iload hG dX12_tow_108 rfl ?_
          refine g_iload hG dX12_tow_110 rfl ?_
          rcases if_some h with ⟨c40, h⟩ | ⟨c40, h⟩
          · refine g_icmp_eq (tgt := 120) hG dX12_tow_112 rfl (fun _ => ?_) (fun q => absurd c40 q)
            refine g_loc hG [(0, .ref (r 25)), (1, .int x1), (2, .int x2), (3, .int x3), (4, .int x4), (5, .int x5), (6, .int x6), (7, .int x7), (8, .int x8)] ⟨rfl, rfl, rfl, rfl, rfl, rfl, rfl, rfl, rfl, trivial⟩ ?_
            exact s_M_tow_b120  hG K hag72 ih h
          · refine g_icmp_eq (tgt := 120) hG dX12_tow_112 rfl (fun q => absurd q c40) (fun _ => ?_)
            refine g_iload hG dX12_tow_115 rfl ?_
            rcases if_some h with ⟨c56, h⟩ | ⟨c56, h⟩
            · refine g_if_ge (tgt := 138) hG dX12_tow_117 rfl (fun _ => ?_) (fun q => absurd c56 q)
              refine g_loc hG [(0, .ref (r 25)), (1, .int x1), (2, .int x2), (3, .int x3), (4, .int x4), (5, .int x5), (6, .int x6), (7, .int x7), (8, .int x8)] ⟨rfl, rfl, rfl, rfl, rfl, rfl, rfl, rfl, rfl, trivial⟩ ?_
              exact s_M_tow_b138  hG K hag72 ih h
            · refine g_if_ge (tgt := 138) hG dX12_tow_117 rfl (fun q => absurd q c56) (fun _ => ?_)
              refine g_loc hG [(0, .ref (r 25)), (1, .int x1), (2, .int x2), (3, .int x3), (4, .int x4), (5, .int x5), (6, .int x6), (7, .int x7), (8, .int x8)] ⟨rfl, rfl, rfl, rfl, rfl, rfl, rfl, rfl, rfl, trivial⟩ ?_
              exact s_M_tow_b120  hG K hag72 ih h
        · refine g_icmp_ne (tgt := 138) hG dX12_tow_105 rfl (fun _ => ?_) (fun q => absurd q c39)
          refine g_loc hG [(0, .ref (r 25)), (1, .int x1), (2, .int x2), (3, .int x3), (4, .int x4), (5, .int x5), (6, .int x6), (7, .int x7), (8, .int x8)] ⟨rfl, rfl, rfl, rfl, rfl, rfl, rfl, rfl, rfl, trivial⟩ ?_
          exact s_M_tow_b138  hG K hag72 ih h
      · refine g_icmp_ne (tgt := 138) hG dX12_tow_94 rfl (fun _ => ?_) (fun q => absurd q c38)
        refine g_loc hG [(0, .ref (r 25)), (1, .int x1), (2, .int x2), (3, .int x3), (4, .int x4), (5, .int x5), (6, .int x6), (7, .int x7), (8, .int x8)] ⟨rfl, rfl, rfl, rfl, rfl, rfl, rfl, rfl, rfl, trivial⟩ ?_
        exact s_M_tow_b138  hG K hag72 ih h
def M_tow_b72 : Nat → Int32 → Int32 → Int32 → Int32 → Int32 → Int32 → Int32 → RS → Option (Int32 × RS)
  | 0, _, _, _, _, _, _, _, _ => none
  | n + 1, x1, x2, x3, x4, x5, x6, x7, σ => (if x7 < 0 then (if x5 < 0 then (if x6 < 0 then (ob (M_errs (-1000000002 : Int32) σ) fun v34 σ35 => (some (v34, σ35))) else (some (x6, σ))) else (some (x5, σ))) else (M_tow_b81 (M_tow_b72  n) FU x1 x2 x3 x4 x5 x6 x7 x7 σ))
set_option maxRecDepth 100000 in
set_option maxHeartbeats 4000000 in
theorem s_M_tow_b72 {g : GP} {l : Launch} {r : Nat → Nat} {X : va_W} {G : GT} {v9 : Int32} {s9 : RS} (hG : IsG g l yX12_tow cX12_tow 10 { frames := 60, cells := 0, slots := 0, locals := 1367 } G) (K : ∀ L pc, decode cX12_tow pc = .ok (.ireturn, 1) → G 0 0 (wR g r s9 X) L pc [.int v9]) : ∀ (n : Nat) (x1 : Int32) (x2 : Int32) (x3 : Int32) (x4 : Int32) (x5 : Int32) (x6 : Int32) (x7 : Int32) (σ : RS) (h : M_tow_b72  n x1 x2 x3 x4 x5 x6 x7 σ = some (v9, s9)), G 0 0 (wR g r σ X) [(0, .ref (r 25)), (1, .int x1), (2, .int x2), (3, .int x3), (4, .int x4), (5, .int x5), (6, .int x6), (7, .int x7)] 72 [] := by
  intro n
  induction n with
  | zero => intro _ _ _ _ _ _ _ σ h; cases h
  | succ n ih =>
    intro x1 x2 x3 x4 x5 x6 x7 σ h
    unfold M_tow_b72 at h
    refine g_iload hG dX12_tow_72 rfl ?_
    rcases if_some h with ⟨c31, h⟩ | ⟨c31, h⟩
    · refine g_if_lt (tgt := 204) hG dX12_tow_74 rfl (fun _ => ?_) (fun q => absurd c31 q)
      refine g_iload hG dX12_tow_204 rfl ?_
      rcases if_some h with ⟨c32, h⟩ | ⟨c32, h⟩
      · refine g_if_lt (tgt := 214) hG dX12_tow_206 rfl (fun _ => ?_) (fun q => absurd c32 q)
        refine g_iload hG dX12_tow_214 rfl ?_
        rcases if_some h with ⟨c33, h⟩ | ⟨c33, h⟩
        · refine g_if_lt (tgt := 224) hG dX12_tow_216 rfl (fun _ => ?_) (fun q => absurd c33 q)
          refine g_aload_n hG dX12_tow_224 rfl ?_
          refine g_ldc hG dX12_tow_225 k_X12_189 ?_
          obtain ⟨v34, σ35, q36, h⟩ := ob_some h
          refine g_cV hG dX12_tow_227 (c_M_errs q36) b_X12_errs v_X12_46 rfl (k := 0) rfl rfl ⟨Nat.le_of_ble_eq_true rfl, Nat.le_of_ble_eq_true rfl⟩ ⟨rfl, rfl⟩ ⟨Nat.zero_le _, Nat.zero_le _⟩ _ rfl (Nat.le_of_ble_eq_true rfl) ?_
          cases h
          exact K _ _ dX12_tow_230
        · refine g_if_lt (tgt := 224) hG dX12_tow_216 rfl (fun q => absurd q c33) (fun _ => ?_)
          refine g_iload hG dX12_tow_219 rfl ?_
          refine g_goto (tgt := 230) hG dX12_tow_221 rfl ?_
          cases h
          exact K _ _ dX12_tow_230
      · refine g_if_lt (tgt := 214) hG dX12_tow_206 rfl (fun q => absurd q c32) (fun _ => ?_)
        refine g_iload hG dX12_tow_209 rfl ?_
        refine g_goto (tgt := 230) hG dX12_tow_211 rfl ?_
        cases h
        exact K _ _ dX12_tow_230
    · refine g_if_lt (tgt := 204) hG dX12_tow_74 rfl (fun q => absurd q c31) (fun _ => ?_)
      refine g_iload hG dX12_tow_77 rfl ?_
      refine g_istore hG dX12_tow_79 (by decide) ?_
      refine g_loc hG [(0, .ref (r 25)), (1, .int x1), (2, .int x2), (3, .int x3), (4, .int x4), (5, .int x5), (6, .int x6), (7, .int x7), (8, .int x7)] ⟨rfl, rfl, rfl, rfl, rfl, rfl, rfl, rfl, rfl, trivial⟩ ?_
      exact s_M_tow_b81  hG K ih FU _ _ _ _ _ _ _ _ _ h
def M_tow (x1 : Int32) (x2 : Int32) (x3 : Int32) (σ : RS) : Option (Int32 × RS) := (ob (M_isYard x1 σ) fun v1 σ2 => (if v1 = 0 then (ob (M_errs (-1000000001 : Int32) σ2) fun v5 σ6 => (some (v5, σ6))) else (ob (M_in x2 (1 : Int32) (999 : Int32) σ2) fun v8 σ9 => (if v8 = 0 then (ob (M_errs (-1000000001 : Int32) σ9) fun v12 σ13 => (some (v12, σ13))) else (ob (M_in x3 (0 : Int32) (20 : Int32) σ9) fun v15 σ16 => (if v15 = 0 then (ob (M_errs (-1000000001 : Int32) σ16) fun v19 σ20 => (some (v19, σ20))) else (ob (M_isClean x1 x2 x3 (-1 : Int32) (-1 : Int32) σ16) fun v22 σ23 => (if v22 = 0 then (ob (M_carSet  σ23) fun v26 σ27 => (lt ((σ27.2 0 2) - (1 : Int32)) fun v29 => (M_tow_b72  FU x1 x2 x3 v26 (-1 : Int32) (-1 : Int32) v29 σ27))) else (some ((0 : Int32), σ23))))))))))
set_option maxRecDepth 100000 in
set_option maxHeartbeats 4000000 in
theorem c_M_tow {g : GP} {l : Launch} {r : Nat → Nat} {X : va_W} {v9 : Int32} {s9 : RS} {x1 : Int32} {x2 : Int32} {x3 : Int32} {σ : RS} (h : M_tow x1 x2 x3 σ = some (v9, s9)) : CI g l yX12_tow cX12_tow 10 (some .int) { frames := 60, cells := 0, slots := 0, locals := 1367 } [.ref (r 25), .int x1, .int x2, .int x3] (wR g r σ X) (fun r0 w => r0 = v9 ∧ w = wR g r s9 X) := by
  refine CI.mk (by decide) (Nat.le_of_ble_eq_true rfl) (fun G hG hret => ?_)
  have K : ∀ L pc, decode cX12_tow pc = .ok (.ireturn, 1) → G 0 0 (wR g r s9 X) L pc [.int v9] := fun L pc d => hret _ L pc v9 d rfl ⟨rfl, rfl⟩
  unfold M_tow at h
  refine g_aload_n hG dX12_tow_0 rfl ?_
  refine g_iload_n hG dX12_tow_1 rfl ?_
  obtain ⟨v1, σ2, q3, h⟩ := ob_some h
  refine g_cV hG dX12_tow_2 (c_M_isYard q3) b_X12_isYard v_X12_55 rfl (k := 0) rfl rfl ⟨Nat.le_of_ble_eq_true rfl, Nat.le_of_ble_eq_true rfl⟩ ⟨rfl, rfl⟩ ⟨Nat.zero_le _, Nat.zero_le _⟩ _ rfl (Nat.le_of_ble_eq_true rfl) ?_
  rcases if_some h with ⟨c4, h⟩ | ⟨c4, h⟩
  · refine g_if_eq (tgt := 29) hG dX12_tow_5 rfl (fun _ => ?_) (fun q => absurd c4 q)
    refine g_aload_n hG dX12_tow_29 rfl ?_
    refine g_ldc hG dX12_tow_30 k_X12_45 ?_
    obtain ⟨v5, σ6, q7, h⟩ := ob_some h
    refine g_cV hG dX12_tow_32 (c_M_errs q7) b_X12_errs v_X12_46 rfl (k := 0) rfl rfl ⟨Nat.le_of_ble_eq_true rfl, Nat.le_of_ble_eq_true rfl⟩ ⟨rfl, rfl⟩ ⟨Nat.zero_le _, Nat.zero_le _⟩ _ rfl (Nat.le_of_ble_eq_true rfl) ?_
    cases h
    exact K _ _ dX12_tow_35
  · refine g_if_eq (tgt := 29) hG dX12_tow_5 rfl (fun q => absurd q c4) (fun _ => ?_)
    refine g_iload_n hG dX12_tow_8 rfl ?_
    refine g_iconstv hG dX12_tow_9 ki_1 ?_
    refine g_sipushv hG dX12_tow_10 ks_999 ?_
    obtain ⟨v8, σ9, q10, h⟩ := ob_some h
    refine g_cS hG dX12_tow_13 (c_M_in q10) b_X12_in v_X12_41 rfl ⟨Nat.le_of_ble_eq_true rfl, Nat.le_of_ble_eq_true rfl⟩ ⟨rfl, rfl⟩ ⟨Nat.zero_le _, Nat.zero_le _⟩ _ rfl (Nat.le_of_ble_eq_true rfl) ?_
    rcases if_some h with ⟨c11, h⟩ | ⟨c11, h⟩
    · refine g_if_eq (tgt := 29) hG dX12_tow_16 rfl (fun _ => ?_) (fun q => absurd c11 q)
      refine g_aload_n hG dX12_tow_29 rfl ?_
      refine g_ldc hG dX12_tow_30 k_X12_45 ?_
      obtain ⟨v12, σ13, q14, h⟩ := ob_some h
      refine g_cV hG dX12_tow_32 (c_M_errs q14) b_X12_errs v_X12_46 rfl (k := 0) rfl rfl ⟨Nat.le_of_ble_eq_true rfl, Nat.le_of_ble_eq_true rfl⟩ ⟨rfl, rfl⟩ ⟨Nat.zero_le _, Nat.zero_le _⟩ _ rfl (Nat.le_of_ble_eq_true rfl) ?_
      cases h
      exact K _ _ dX12_tow_35
    · refine g_if_eq (tgt := 29) hG dX12_tow_16 rfl (fun q => absurd q c11) (fun _ => ?_)
      refine g_iload_n hG dX12_tow_19 rfl ?_
      refine g_iconstv hG dX12_tow_20 ki_0 ?_
      refine g_bipushv hG dX12_tow_21 kb_20 ?_
      obtain ⟨v15, σ16, q17, h⟩ := ob_some h
      refine g_cS hG dX12_tow_23 (c_M_in q17) b_X12_in v_X12_41 rfl ⟨Nat.le_of_ble_eq_true rfl, Nat.le_of_ble_eq_true rfl⟩ ⟨rfl, rfl⟩ ⟨Nat.zero_le _, Nat.zero_le _⟩ _ rfl (Nat.le_of_ble_eq_true rfl) ?_
      rcases if_some h with ⟨c18, h⟩ | ⟨c18, h⟩
      · refine g_if_ne (tgt := 36) hG dX12_tow_26 rfl (fun q => absurd c18 q) (fun _ => ?_)
        refine g_aload_n hG dX12_tow_29 rfl ?_
        refine g_ldc hG dX12_tow_30 k_X12_45 ?_
        obtain ⟨v19, σ20, q21, h⟩ := ob_some h
        refine g_cV hG dX12_tow_32 (c_M_errs q21) b_X12_errs v_X12_46 rfl (k := 0) rfl rfl ⟨Nat.le_of_ble_eq_true rfl, Nat.le_of_ble_eq_true rfl⟩ ⟨rfl, rfl⟩ ⟨Nat.zero_le _, Nat.zero_le _⟩ _ rfl (Nat.le_of_ble_eq_true rfl) ?_
        cases h
        exact K _ _ dX12_tow_35
      · refine g_if_ne (tgt := 36) hG dX12_tow_26 rfl (fun _ => ?_) (fun q => absurd q c18)
        refine g_aload_n hG dX12_tow_36 rfl ?_
        refine g_iload_n hG dX12_tow_37 rfl ?_
        refine g_iload_n hG dX12_tow_38 rfl ?_
        refine g_iload_n hG dX12_tow_39 rfl ?_
        refine g_iconstv hG dX12_tow_40 ki_m1 ?_
        refine g_iconstv hG dX12_tow_41 ki_m1 ?_
        obtain ⟨v22, σ23, q24, h⟩ := ob_some h
        refine g_cV hG dX12_tow_42 (c_M_isClean q24) b_X12_isClean v_X12_193 rfl (k := 0) rfl rfl ⟨Nat.le_of_ble_eq_true rfl, Nat.le_of_ble_eq_true rfl⟩ ⟨rfl, rfl⟩ ⟨Nat.zero_le _, Nat.zero_le _⟩ _ rfl (Nat.le_of_ble_eq_true rfl) ?_
        rcases if_some h with ⟨c25, h⟩ | ⟨c25, h⟩
        · refine g_if_eq (tgt := 50) hG dX12_tow_45 rfl (fun _ => ?_) (fun q => absurd c25 q)
          refine g_aload_n hG dX12_tow_50 rfl ?_
          obtain ⟨v26, σ27, q28, h⟩ := ob_some h
          refine g_cV hG dX12_tow_51 (c_M_carSet q28) b_X12_carSet v_X12_197 rfl (k := 0) rfl rfl ⟨Nat.le_of_ble_eq_true rfl, Nat.le_of_ble_eq_true rfl⟩ ⟨rfl, rfl⟩ ⟨Nat.zero_le _, Nat.zero_le _⟩ _ rfl (Nat.le_of_ble_eq_true rfl) ?_
          refine g_istore hG dX12_tow_54 (by decide) ?_
          refine g_iconstv hG dX12_tow_56 ki_m1 ?_
          refine g_istore hG dX12_tow_57 (by decide) ?_
          refine g_iconstv hG dX12_tow_59 ki_m1 ?_
          refine g_istore hG dX12_tow_60 (by decide) ?_
          refine g_aload_n hG dX12_tow_62 rfl ?_
          refine r_get 0 hG dX12_tow_63 f_X12_7 (by decide) rfl ?_
          refine g_iconstv hG dX12_tow_66 ki_2 ?_
          refine r_iald 1 0 240 hG dX12_tow_67 rfl (by decide) (by decide : Int32.toNatClampNeg (2 : Int32) = 2) ?_
          refine g_iconstv hG dX12_tow_68 ki_1 ?_
          refine g_isub hG dX12_tow_69 ?_
          obtain ⟨v29, e30, h⟩ := lt_ex h
          refine g_nam e30 ?_
          refine g_istore hG dX12_tow_70 (by decide) ?_
          refine g_loc hG [(0, .ref (r 25)), (1, .int x1), (2, .int x2), (3, .int x3), (4, .int v26), (5, .int (-1 : Int32)), (6, .int (-1 : Int32)), (7, .int v29)] ⟨rfl, rfl, rfl, rfl, rfl, rfl, rfl, rfl, trivial⟩ ?_
          exact s_M_tow_b72  hG K FU _ _ _ _ _ _ _ _ h
        · refine g_if_eq (tgt := 50) hG dX12_tow_45 rfl (fun q => absurd q c25) (fun _ => ?_)
          refine g_iconstv hG dX12_tow_48 ki_0 ?_
          cases h
          exact K _ _ dX12_tow_49
def M_dirtiest_b34 (ag4 : Int32 → Int32 → RS → Option (Int32 × RS)) (x2 : Int32) (s0 : Int32) (σ : RS) : Option (Int32 × RS) := (ag4 s0 (x2 + (1 : Int32)) σ)
set_option maxRecDepth 100000 in
set_option maxHeartbeats 4000000 in
theorem s_M_dirtiest_b34 {g : GP} {l : Launch} {r : Nat → Nat} {X : va_W} {G : GT} {v9 : Int32} {s9 : RS} (hG : IsG g l yX12_dirtiest cX12_dirtiest 3 { frames := 1, cells := 0, slots := 0, locals := 22 } G) (K : ∀ L pc, decode cX12_dirtiest pc = .ok (.ireturn, 1) → G 0 0 (wR g r s9 X) L pc [.int v9]) {ag4 : Int32 → Int32 → RS → Option (Int32 × RS)} (hag4 : ∀ (x1 : Int32) (x2 : Int32) (σ : RS), ag4 x1 x2 σ = some (v9, s9) → G 0 0 (wR g r σ X) [(0, .ref (r 25)), (1, .int x1), (2, .int x2)] 4 []) {x2 : Int32} {s0 : Int32} {σ : RS} (h : M_dirtiest_b34 ag4 x2 s0 σ = some (v9, s9)) : G 0 0 (wR g r σ X) [(0, .ref (r 25)), (2, .int x2)] 34 [.int s0] := by
  unfold M_dirtiest_b34 at h
  refine g_istore_n hG dX12_dirtiest_34 (by decide) ?_
  refine g_iincv (c := (1 : Int32)) hG dX12_dirtiest_35 rfl (by decide) (by decide) ?_
  refine g_goto (tgt := 4) hG dX12_dirtiest_38 rfl ?_
  refine g_loc hG [(0, .ref (r 25)), (1, .int s0), (2, .int (x2 + (1 : Int32)))] ⟨rfl, rfl, rfl, trivial⟩ ?_
  exact hag4 _ _ _ h
def M_dirtiest_b4 : Nat → Int32 → Int32 → RS → Option (Int32 × RS)
  | 0, _, _, _ => none
  | n + 1, x1, x2, σ => (if (σ.2 0 2) ≤ x2 then (some (x1, σ)) else (ob (M_its x2 (2 : Int32) σ) fun v2 σ3 => (if v2 ≤ x1 then (M_dirtiest_b34 (M_dirtiest_b4  n) x2 x1 σ3) else (ob (M_its x2 (2 : Int32) σ3) fun v6 σ7 => (M_dirtiest_b34 (M_dirtiest_b4  n) x2 v6 σ7)))))
set_option maxRecDepth 100000 in
set_option maxHeartbeats 4000000 in
theorem s_M_dirtiest_b4 {g : GP} {l : Launch} {r : Nat → Nat} {X : va_W} {G : GT} {v9 : Int32} {s9 : RS} (hG : IsG g l yX12_dirtiest cX12_dirtiest 3 { frames := 1, cells := 0, slots := 0, locals := 22 } G) (K : ∀ L pc, decode cX12_dirtiest pc = .ok (.ireturn, 1) → G 0 0 (wR g r s9 X) L pc [.int v9]) : ∀ (n : Nat) (x1 : Int32) (x2 : Int32) (σ : RS) (h : M_dirtiest_b4  n x1 x2 σ = some (v9, s9)), G 0 0 (wR g r σ X) [(0, .ref (r 25)), (1, .int x1), (2, .int x2)] 4 [] := by
  intro n
  induction n with
  | zero => intro _ _ σ h; cases h
  | succ n ih =>
    intro x1 x2 σ h
    unfold M_dirtiest_b4 at h
    refine g_iload_n hG dX12_dirtiest_4 rfl ?_
    refine g_aload_n hG dX12_dirtiest_5 rfl ?_
    refine r_get 0 hG dX12_dirtiest_6 f_X12_7 (by decide) rfl ?_
    refine g_iconstv hG dX12_dirtiest_9 ki_2 ?_
    refine r_iald 1 0 240 hG dX12_dirtiest_10 rfl (by decide) (by decide : Int32.toNatClampNeg (2 : Int32) = 2) ?_
    rcases if_some h with ⟨c1, h⟩ | ⟨c1, h⟩
    · refine g_icmp_ge (tgt := 41) hG dX12_dirtiest_11 rfl (fun _ => ?_) (fun q => absurd c1 q)
      refine g_iload_n hG dX12_dirtiest_41 rfl ?_
      cases h
      exact K _ _ dX12_dirtiest_42
    · refine g_icmp_ge (tgt := 41) hG dX12_dirtiest_11 rfl (fun q => absurd q c1) (fun _ => ?_)
      refine g_aload_n hG dX12_dirtiest_14 rfl ?_
      refine g_iload_n hG dX12_dirtiest_15 rfl ?_
      refine g_iconstv hG dX12_dirtiest_16 ki_2 ?_
      obtain ⟨v2, σ3, q4, h⟩ := ob_some h
      refine g_cV hG dX12_dirtiest_17 (c_M_its q4) b_X12_its v_X12_59 rfl (k := 0) rfl rfl ⟨Nat.le_of_ble_eq_true rfl, Nat.le_of_ble_eq_true rfl⟩ ⟨rfl, rfl⟩ ⟨Nat.zero_le _, Nat.zero_le _⟩ _ rfl (Nat.le_of_ble_eq_true rfl) ?_
      refine g_iload_n hG dX12_dirtiest_20 rfl ?_
      rcases if_some h with ⟨c5, h⟩ | ⟨c5, h⟩
      · refine g_icmp_le (tgt := 33) hG dX12_dirtiest_21 rfl (fun _ => ?_) (fun q => absurd c5 q)
        refine g_iload_n hG dX12_dirtiest_33 rfl ?_
        refine g_loc hG [(0, .ref (r 25)), (2, .int x2)] ⟨rfl, rfl, trivial⟩ ?_
        exact s_M_dirtiest_b34  hG K ih h
      · refine g_icmp_le (tgt := 33) hG dX12_dirtiest_21 rfl (fun q => absurd q c5) (fun _ => ?_)
        refine g_aload_n hG dX12_dirtiest_24 rfl ?_
        refine g_iload_n hG dX12_dirtiest_25 rfl ?_
        refine g_iconstv hG dX12_dirtiest_26 ki_2 ?_
        obtain ⟨v6, σ7, q8, h⟩ := ob_some h
        refine g_cV hG dX12_dirtiest_27 (c_M_its q8) b_X12_its v_X12_59 rfl (k := 0) rfl rfl ⟨Nat.le_of_ble_eq_true rfl, Nat.le_of_ble_eq_true rfl⟩ ⟨rfl, rfl⟩ ⟨Nat.zero_le _, Nat.zero_le _⟩ _ rfl (Nat.le_of_ble_eq_true rfl) ?_
        refine g_goto (tgt := 34) hG dX12_dirtiest_30 rfl ?_
        refine g_loc hG [(0, .ref (r 25)), (2, .int x2)] ⟨rfl, rfl, trivial⟩ ?_
        exact s_M_dirtiest_b34  hG K ih h
def M_dirtiest  (σ : RS) : Option (Int32 × RS) := (M_dirtiest_b4  FU (0 : Int32) (0 : Int32) σ)
set_option maxRecDepth 100000 in
set_option maxHeartbeats 4000000 in
theorem c_M_dirtiest {g : GP} {l : Launch} {r : Nat → Nat} {X : va_W} {v9 : Int32} {s9 : RS} {σ : RS} (h : M_dirtiest  σ = some (v9, s9)) : CI g l yX12_dirtiest cX12_dirtiest 3 (some .int) { frames := 1, cells := 0, slots := 0, locals := 22 } [.ref (r 25)] (wR g r σ X) (fun r0 w => r0 = v9 ∧ w = wR g r s9 X) := by
  refine CI.mk (by decide) (Nat.le_of_ble_eq_true rfl) (fun G hG hret => ?_)
  have K : ∀ L pc, decode cX12_dirtiest pc = .ok (.ireturn, 1) → G 0 0 (wR g r s9 X) L pc [.int v9] := fun L pc d => hret _ L pc v9 d rfl ⟨rfl, rfl⟩
  unfold M_dirtiest at h
  refine g_iconstv hG dX12_dirtiest_0 ki_0 ?_
  refine g_istore_n hG dX12_dirtiest_1 (by decide) ?_
  refine g_iconstv hG dX12_dirtiest_2 ki_0 ?_
  refine g_istore_n hG dX12_dirtiest_3 (by decide) ?_
  refine g_loc hG [(0, .ref (r 25)), (1, .int (0 : Int32)), (2, .int (0 : Int32))] ⟨rfl, rfl, rfl, trivial⟩ ?_
  exact s_M_dirtiest_b4  hG K FU _ _ _ h
def M_broom_b64 : Nat → Int32 → Int32 → Int32 → Int32 → Int32 → RS → Option (Int32 × RS)
  | 0, _, _, _, _, _, _ => none
  | n + 1, x1, x2, x3, x4, x5, σ => (if (σ.2 2 2) ≤ x5 then (some ((if x2 = 0 then x3 else x4), σ)) else (ob (M_gets x5 (2 : Int32) (0 : Int32) σ) fun v25 σ26 => (ob (M_passes x1 σ26) fun v28 σ29 => (ob (M_dirtiest  σ29) fun v31 σ32 => (ob (M_moveAll 2 0 σ32) fun v34 σ35 => (lt (if x4 ≤ v31 then x3 else x5) fun v39 => (lt (if x4 ≤ v31 then x4 else v31) fun v43 => ((M_broom_b64  n) x1 x2 v39 v43 (x5 + (1 : Int32)) σ35))))))))
set_option maxRecDepth 100000 in
set_option maxHeartbeats 4000000 in
theorem s_M_broom_b64 {g : GP} {l : Launch} {r : Nat → Nat} {X : va_W} {G : GT} {v9 : Int32} {s9 : RS} (hG : IsG g l yX12_broom cX12_broom 7 { frames := 59, cells := 0, slots := 0, locals := 1341 } G) (K : ∀ L pc, decode cX12_broom pc = .ok (.ireturn, 1) → G 0 0 (wR g r s9 X) L pc [.int v9]) : ∀ (n : Nat) (x1 : Int32) (x2 : Int32) (x3 : Int32) (x4 : Int32) (x5 : Int32) (σ : RS) (h : M_broom_b64  n x1 x2 x3 x4 x5 σ = some (v9, s9)), G 0 0 (wR g r σ X) [(0, .ref (r 25)), (1, .int x1), (2, .int x2), (3, .int x3), (4, .int x4), (5, .int x5)] 64 [] := by
  intro n
  induction n with
  | zero => intro _ _ _ _ _ σ h; cases h
  | succ n ih =>
    intro x1 x2 x3 x4 x5 σ h
    unfold M_broom_b64 at h
    refine g_iload hG dX12_broom_64 rfl ?_
    refine g_aload_n hG dX12_broom_66 rfl ?_
    refine r_get 2 hG dX12_broom_67 f_X12_16 (by decide) rfl ?_
    refine g_iconstv hG dX12_broom_70 ki_2 ?_
    refine r_iald 3 2 240 hG dX12_broom_71 rfl (by decide) (by decide : Int32.toNatClampNeg (2 : Int32) = 2) ?_
    rcases if_some h with ⟨c22, h⟩ | ⟨c22, h⟩
    · refine g_icmp_ge (tgt := 142) hG dX12_broom_72 rfl (fun _ => ?_) (fun q => absurd c22 q)
      refine g_iload_n hG dX12_broom_142 rfl ?_
      refine g_dia1 (if x2 = 0 then x3 else x4) 152 (fun J23 => ?_) ?_
      · by_cases c24 : x2 = 0
        · refine g_if_ne (tgt := 150) hG dX12_broom_143 rfl (fun q => absurd c24 q) (fun _ => ?_)
          refine g_iload_n hG dX12_broom_146 rfl ?_
          refine g_goto (tgt := 152) hG dX12_broom_147 rfl ?_
          rw [if_pos c24] at J23
          exact J23
        · refine g_if_ne (tgt := 150) hG dX12_broom_143 rfl (fun _ => ?_) (fun q => absurd q c24)
          refine g_iload hG dX12_broom_150 rfl ?_
          rw [if_neg c24] at J23
          exact J23
      cases h
      exact K _ _ dX12_broom_152
    · refine g_icmp_ge (tgt := 142) hG dX12_broom_72 rfl (fun q => absurd q c22) (fun _ => ?_)
      refine g_aload_n hG dX12_broom_75 rfl ?_
      refine g_iload hG dX12_broom_76 rfl ?_
      refine g_iconstv hG dX12_broom_78 ki_2 ?_
      refine g_iconstv hG dX12_broom_79 ki_0 ?_
      obtain ⟨v25, σ26, q27, h⟩ := ob_some h
      refine g_cVv hG dX12_broom_80 (c_M_gets q27) b_X12_gets v_X12_51 rfl (k := 0) rfl rfl ⟨Nat.le_of_ble_eq_true rfl, Nat.le_of_ble_eq_true rfl⟩ ⟨rfl, rfl⟩ ⟨Nat.zero_le _, Nat.zero_le _⟩ _ rfl (Nat.le_of_ble_eq_true rfl) ?_
      refine g_aload_n hG dX12_broom_83 rfl ?_
      refine g_iload_n hG dX12_broom_84 rfl ?_
      obtain ⟨v28, σ29, q30, h⟩ := ob_some h
      refine g_cVv hG dX12_broom_85 (c_M_passes q30) b_X12_passes v_X12_175 rfl (k := 0) rfl rfl ⟨Nat.le_of_ble_eq_true rfl, Nat.le_of_ble_eq_true rfl⟩ ⟨rfl, rfl⟩ ⟨Nat.zero_le _, Nat.zero_le _⟩ _ rfl (Nat.le_of_ble_eq_true rfl) ?_
      refine g_aload_n hG dX12_broom_88 rfl ?_
      obtain ⟨v31, σ32, q33, h⟩ := ob_some h
      refine g_cV hG dX12_broom_89 (c_M_dirtiest q33) b_X12_dirtiest v_X12_200 rfl (k := 0) rfl rfl ⟨Nat.le_of_ble_eq_true rfl, Nat.le_of_ble_eq_true rfl⟩ ⟨rfl, rfl⟩ ⟨Nat.zero_le _, Nat.zero_le _⟩ _ rfl (Nat.le_of_ble_eq_true rfl) ?_
      refine g_istore hG dX12_broom_92 (by decide) ?_
      refine g_aload_n hG dX12_broom_94 rfl ?_
      refine g_aload_n hG dX12_broom_95 rfl ?_
      refine r_get 2 hG dX12_broom_96 f_X12_16 (by decide) rfl ?_
      refine g_aload_n hG dX12_broom_99 rfl ?_
      refine r_get 0 hG dX12_broom_100 f_X12_7 (by decide) rfl ?_
      obtain ⟨v34, σ35, q36, h⟩ := ob_some h
      refine g_cVv hG dX12_broom_103 (c_M_moveAll (by decide) (by decide) (by decide) q36) b_X12_moveAll v_X12_150 rfl (k := 0) rfl rfl ⟨Nat.le_of_ble_eq_true rfl, Nat.le_of_ble_eq_true rfl⟩ ⟨rfl, rfl⟩ ⟨Nat.zero_le _, Nat.zero_le _⟩ _ rfl (Nat.le_of_ble_eq_true rfl) ?_
      refine g_iload hG dX12_broom_106 rfl ?_
      refine g_iload hG dX12_broom_108 rfl ?_
      refine g_dia2 (if x4 ≤ v31 then x3 else x5) 119 (fun J37 => ?_) ?_
      · by_cases c38 : x4 ≤ v31
        · refine g_icmp_ge (tgt := 118) hG dX12_broom_110 rfl (fun _ => ?_) (fun q => absurd c38 q)
          refine g_iload_n hG dX12_broom_118 rfl ?_
          rw [if_pos c38] at J37
          exact J37
        · refine g_icmp_ge (tgt := 118) hG dX12_broom_110 rfl (fun q => absurd q c38) (fun _ => ?_)
          refine g_iload hG dX12_broom_113 rfl ?_
          refine g_goto (tgt := 119) hG dX12_broom_115 rfl ?_
          rw [if_neg c38] at J37
          exact J37
      obtain ⟨v39, e40, h⟩ := lt_ex h
      refine g_nam e40 ?_
      refine g_istore_n hG dX12_broom_119 (by decide) ?_
      refine g_iload hG dX12_broom_120 rfl ?_
      refine g_iload hG dX12_broom_122 rfl ?_
      refine g_dia2 (if x4 ≤ v31 then x4 else v31) 134 (fun J41 => ?_) ?_
      · by_cases c42 : x4 ≤ v31
        · refine g_icmp_ge (tgt := 132) hG dX12_broom_124 rfl (fun _ => ?_) (fun q => absurd c42 q)
          refine g_iload hG dX12_broom_132 rfl ?_
          rw [if_pos c42] at J41
          exact J41
        · refine g_icmp_ge (tgt := 132) hG dX12_broom_124 rfl (fun q => absurd q c42) (fun _ => ?_)
          refine g_iload hG dX12_broom_127 rfl ?_
          refine g_goto (tgt := 134) hG dX12_broom_129 rfl ?_
          rw [if_neg c42] at J41
          exact J41
      obtain ⟨v43, e44, h⟩ := lt_ex h
      refine g_nam e44 ?_
      refine g_istore hG dX12_broom_134 (by decide) ?_
      refine g_iincv (c := (1 : Int32)) hG dX12_broom_136 rfl (by decide) (by decide) ?_
      refine g_goto (tgt := 64) hG dX12_broom_139 rfl ?_
      refine g_loc hG [(0, .ref (r 25)), (1, .int x1), (2, .int x2), (3, .int v39), (4, .int v43), (5, .int (x5 + (1 : Int32)))] ⟨rfl, rfl, rfl, rfl, rfl, rfl, trivial⟩ ?_
      exact ih _ _ _ _ _ _ h
def M_broom (x1 : Int32) (x2 : Int32) (σ : RS) : Option (Int32 × RS) := (ob (M_in x1 (0 : Int32) (30 : Int32) σ) fun v1 σ2 => (if v1 = 0 then (ob (M_errs (-1000000001 : Int32) σ2) fun v5 σ6 => (some (v5, σ6))) else (ob (M_in x2 (0 : Int32) (1 : Int32) σ2) fun v8 σ9 => (if v8 = 0 then (ob (M_errs (-1000000001 : Int32) σ9) fun v12 σ13 => (some (v12, σ13))) else (if (σ9.2 0 2) = 0 then (ob (M_errs (-1000000002 : Int32) σ9) fun v16 σ17 => (some (v16, σ17))) else (ob (M_moveAll 0 2 σ9) fun v19 σ20 => (M_broom_b64  FU x1 x2 (0 : Int32) (1000 : Int32) (0 : Int32) σ20)))))))
set_option maxRecDepth 100000 in
set_option maxHeartbeats 4000000 in
theorem c_M_broom {g : GP} {l : Launch} {r : Nat → Nat} {X : va_W} {v9 : Int32} {s9 : RS} {x1 : Int32} {x2 : Int32} {σ : RS} (h : M_broom x1 x2 σ = some (v9, s9)) : CI g l yX12_broom cX12_broom 7 (some .int) { frames := 59, cells := 0, slots := 0, locals := 1341 } [.ref (r 25), .int x1, .int x2] (wR g r σ X) (fun r0 w => r0 = v9 ∧ w = wR g r s9 X) := by
  refine CI.mk (by decide) (Nat.le_of_ble_eq_true rfl) (fun G hG hret => ?_)
  have K : ∀ L pc, decode cX12_broom pc = .ok (.ireturn, 1) → G 0 0 (wR g r s9 X) L pc [.int v9] := fun L pc d => hret _ L pc v9 d rfl ⟨rfl, rfl⟩
  unfold M_broom at h
  refine g_iload_n hG dX12_broom_0 rfl ?_
  refine g_iconstv hG dX12_broom_1 ki_0 ?_
  refine g_bipushv hG dX12_broom_2 kb_30 ?_
  obtain ⟨v1, σ2, q3, h⟩ := ob_some h
  refine g_cS hG dX12_broom_4 (c_M_in q3) b_X12_in v_X12_41 rfl ⟨Nat.le_of_ble_eq_true rfl, Nat.le_of_ble_eq_true rfl⟩ ⟨rfl, rfl⟩ ⟨Nat.zero_le _, Nat.zero_le _⟩ _ rfl (Nat.le_of_ble_eq_true rfl) ?_
  rcases if_some h with ⟨c4, h⟩ | ⟨c4, h⟩
  · refine g_if_eq (tgt := 19) hG dX12_broom_7 rfl (fun _ => ?_) (fun q => absurd c4 q)
    refine g_aload_n hG dX12_broom_19 rfl ?_
    refine g_ldc hG dX12_broom_20 k_X12_45 ?_
    obtain ⟨v5, σ6, q7, h⟩ := ob_some h
    refine g_cV hG dX12_broom_22 (c_M_errs q7) b_X12_errs v_X12_46 rfl (k := 0) rfl rfl ⟨Nat.le_of_ble_eq_true rfl, Nat.le_of_ble_eq_true rfl⟩ ⟨rfl, rfl⟩ ⟨Nat.zero_le _, Nat.zero_le _⟩ _ rfl (Nat.le_of_ble_eq_true rfl) ?_
    cases h
    exact K _ _ dX12_broom_25
  · refine g_if_eq (tgt := 19) hG dX12_broom_7 rfl (fun q => absurd q c4) (fun _ => ?_)
    refine g_iload_n hG dX12_broom_10 rfl ?_
    refine g_iconstv hG dX12_broom_11 ki_0 ?_
    refine g_iconstv hG dX12_broom_12 ki_1 ?_
    obtain ⟨v8, σ9, q10, h⟩ := ob_some h
    refine g_cS hG dX12_broom_13 (c_M_in q10) b_X12_in v_X12_41 rfl ⟨Nat.le_of_ble_eq_true rfl, Nat.le_of_ble_eq_true rfl⟩ ⟨rfl, rfl⟩ ⟨Nat.zero_le _, Nat.zero_le _⟩ _ rfl (Nat.le_of_ble_eq_true rfl) ?_
    rcases if_some h with ⟨c11, h⟩ | ⟨c11, h⟩
    · refine g_if_ne (tgt := 26) hG dX12_broom_16 rfl (fun q => absurd c11 q) (fun _ => ?_)
      refine g_aload_n hG dX12_broom_19 rfl ?_
      refine g_ldc hG dX12_broom_20 k_X12_45 ?_
      obtain ⟨v12, σ13, q14, h⟩ := ob_some h
      refine g_cV hG dX12_broom_22 (c_M_errs q14) b_X12_errs v_X12_46 rfl (k := 0) rfl rfl ⟨Nat.le_of_ble_eq_true rfl, Nat.le_of_ble_eq_true rfl⟩ ⟨rfl, rfl⟩ ⟨Nat.zero_le _, Nat.zero_le _⟩ _ rfl (Nat.le_of_ble_eq_true rfl) ?_
      cases h
      exact K _ _ dX12_broom_25
    · refine g_if_ne (tgt := 26) hG dX12_broom_16 rfl (fun _ => ?_) (fun q => absurd q c11)
      refine g_aload_n hG dX12_broom_26 rfl ?_
      refine r_get 0 hG dX12_broom_27 f_X12_7 (by decide) rfl ?_
      refine g_iconstv hG dX12_broom_30 ki_2 ?_
      refine r_iald 1 0 240 hG dX12_broom_31 rfl (by decide) (by decide : Int32.toNatClampNeg (2 : Int32) = 2) ?_
      rcases if_some h with ⟨c15, h⟩ | ⟨c15, h⟩
      · refine g_if_ne (tgt := 42) hG dX12_broom_32 rfl (fun q => absurd c15 q) (fun _ => ?_)
        refine g_aload_n hG dX12_broom_35 rfl ?_
        refine g_ldc hG dX12_broom_36 k_X12_189 ?_
        obtain ⟨v16, σ17, q18, h⟩ := ob_some h
        refine g_cV hG dX12_broom_38 (c_M_errs q18) b_X12_errs v_X12_46 rfl (k := 0) rfl rfl ⟨Nat.le_of_ble_eq_true rfl, Nat.le_of_ble_eq_true rfl⟩ ⟨rfl, rfl⟩ ⟨Nat.zero_le _, Nat.zero_le _⟩ _ rfl (Nat.le_of_ble_eq_true rfl) ?_
        cases h
        exact K _ _ dX12_broom_41
      · refine g_if_ne (tgt := 42) hG dX12_broom_32 rfl (fun _ => ?_) (fun q => absurd q c15)
        refine g_iconstv hG dX12_broom_42 ki_0 ?_
        refine g_istore_n hG dX12_broom_43 (by decide) ?_
        refine g_sipushv hG dX12_broom_44 ks_1000 ?_
        refine g_istore hG dX12_broom_47 (by decide) ?_
        refine g_aload_n hG dX12_broom_49 rfl ?_
        refine g_aload_n hG dX12_broom_50 rfl ?_
        refine r_get 0 hG dX12_broom_51 f_X12_7 (by decide) rfl ?_
        refine g_aload_n hG dX12_broom_54 rfl ?_
        refine r_get 2 hG dX12_broom_55 f_X12_16 (by decide) rfl ?_
        obtain ⟨v19, σ20, q21, h⟩ := ob_some h
        refine g_cVv hG dX12_broom_58 (c_M_moveAll (by decide) (by decide) (by decide) q21) b_X12_moveAll v_X12_150 rfl (k := 0) rfl rfl ⟨Nat.le_of_ble_eq_true rfl, Nat.le_of_ble_eq_true rfl⟩ ⟨rfl, rfl⟩ ⟨Nat.zero_le _, Nat.zero_le _⟩ _ rfl (Nat.le_of_ble_eq_true rfl) ?_
        refine g_iconstv hG dX12_broom_61 ki_0 ?_
        refine g_istore hG dX12_broom_62 (by decide) ?_
        refine g_loc hG [(0, .ref (r 25)), (1, .int x1), (2, .int x2), (3, .int (0 : Int32)), (4, .int (1000 : Int32)), (5, .int (0 : Int32))] ⟨rfl, rfl, rfl, rfl, rfl, rfl, trivial⟩ ?_
        exact s_M_broom_b64  hG K FU _ _ _ _ _ _ h
def M_isSheet (x0 : Int32) (σ : RS) : Option (Int32 × RS) := (ob (M_in x0 (0 : Int32) (3 : Int32) σ) fun v1 σ2 => (gd (isb v1) (some (v1, σ2))))
set_option maxRecDepth 100000 in
set_option maxHeartbeats 4000000 in
theorem c_M_isSheet {g : GP} {l : Launch} {r : Nat → Nat} {X : va_W} {v9 : Int32} {s9 : RS} {x0 : Int32} {σ : RS} (h : M_isSheet x0 σ = some (v9, s9)) : CI g l yX12_isSheet cX12_isSheet 1 (some .boolean) { frames := 1, cells := 0, slots := 0, locals := 22 } [.int x0] (wR g r σ X) (fun r0 w => r0 = v9 ∧ w = wR g r s9 X) := by
  refine CI.mk (by decide) (Nat.le_of_ble_eq_true rfl) (fun G hG hret => ?_)
  have K : ∀ L pc, decode cX12_isSheet pc = .ok (.ireturn, 1) → isb v9 = true → G 0 0 (wR g r s9 X) L pc [.int v9] := fun L pc d hz => hret _ L pc v9 d (isb_n hz) ⟨rfl, rfl⟩
  unfold M_isSheet at h
  refine g_iload_n hG dX12_isSheet_0 rfl ?_
  refine g_iconstv hG dX12_isSheet_1 ki_0 ?_
  refine g_iconstv hG dX12_isSheet_2 ki_3 ?_
  obtain ⟨v1, σ2, q3, h⟩ := ob_some h
  refine g_cS hG dX12_isSheet_3 (c_M_in q3) b_X12_in v_X12_41 rfl ⟨Nat.le_of_ble_eq_true rfl, Nat.le_of_ble_eq_true rfl⟩ ⟨rfl, rfl⟩ ⟨Nat.zero_le _, Nat.zero_le _⟩ _ rfl (Nat.le_of_ble_eq_true rfl) ?_
  obtain ⟨b4, h⟩ := gd_some h
  cases h
  exact K _ _ dX12_isSheet_6 b4
def M_isDirtSo_b47 (ag8 : Int32 → Int32 → Int32 → RS → Option (Int32 × RS)) (x1 : Int32) (x3 : Int32) (s0 : Int32) (σ : RS) : Option (Int32 × RS) := (ag8 x1 s0 (x3 + (1 : Int32)) σ)
set_option maxRecDepth 100000 in
set_option maxHeartbeats 4000000 in
theorem s_M_isDirtSo_b47 {g : GP} {l : Launch} {r : Nat → Nat} {X : va_W} {G : GT} {v9 : Int32} {s9 : RS} (hG : IsG g l yX12_isDirtSo cX12_isDirtSo 4 { frames := 58, cells := 0, slots := 0, locals := 1319 } G) (K : ∀ L pc, decode cX12_isDirtSo pc = .ok (.ireturn, 1) → isb v9 = true → G 0 0 (wR g r s9 X) L pc [.int v9]) {ag8 : Int32 → Int32 → Int32 → RS → Option (Int32 × RS)} (hag8 : ∀ (x1 : Int32) (x2 : Int32) (x3 : Int32) (σ : RS), ag8 x1 x2 x3 σ = some (v9, s9) → G 0 0 (wR g r σ X) [(0, .ref (r 25)), (1, .int x1), (2, .int x2), (3, .int x3)] 8 []) {x1 : Int32} {x3 : Int32} {s0 : Int32} {σ : RS} (h : M_isDirtSo_b47 ag8 x1 x3 s0 σ = some (v9, s9)) : G 0 0 (wR g r σ X) [(0, .ref (r 25)), (1, .int x1), (3, .int x3)] 47 [.int s0] := by
  unfold M_isDirtSo_b47 at h
  refine g_istore_n hG dX12_isDirtSo_47 (by decide) ?_
  refine g_iincv (c := (1 : Int32)) hG dX12_isDirtSo_48 rfl (by decide) (by decide) ?_
  refine g_goto (tgt := 8) hG dX12_isDirtSo_51 rfl ?_
  refine g_loc hG [(0, .ref (r 25)), (1, .int x1), (2, .int s0), (3, .int (x3 + (1 : Int32)))] ⟨rfl, rfl, rfl, rfl, trivial⟩ ?_
  exact hag8 _ _ _ _ h
def M_isDirtSo_b8 : Nat → Int32 → Int32 → Int32 → RS → Option (Int32 × RS)
  | 0, _, _, _, _ => none
  | n + 1, x1, x2, x3, σ => (if (σ.2 0 2) ≤ x3 then (gd (isb x2) (some (x2, σ))) else (if x2 = 0 then (M_isDirtSo_b47 (M_isDirtSo_b8  n) x1 x3 (0 : Int32) σ) else (ob (M_its x3 (2 : Int32) σ) fun v7 σ8 => (gd (inb (((40 : Int32) * x1) + x3) 160) (M_isDirtSo_b47 (M_isDirtSo_b8  n) x1 x3 (if v7 = (σ8.2 18 (ix (((40 : Int32) * x1) + x3))) then (1 : Int32) else (0 : Int32)) σ8)))))
set_option maxRecDepth 100000 in
set_option maxHeartbeats 4000000 in
theorem s_M_isDirtSo_b8 {g : GP} {l : Launch} {r : Nat → Nat} {X : va_W} {G : GT} {v9 : Int32} {s9 : RS} (hG : IsG g l yX12_isDirtSo cX12_isDirtSo 4 { frames := 58, cells := 0, slots := 0, locals := 1319 } G) (K : ∀ L pc, decode cX12_isDirtSo pc = .ok (.ireturn, 1) → isb v9 = true → G 0 0 (wR g r s9 X) L pc [.int v9]) : ∀ (n : Nat) (x1 : Int32) (x2 : Int32) (x3 : Int32) (σ : RS) (h : M_isDirtSo_b8  n x1 x2 x3 σ = some (v9, s9)), G 0 0 (wR g r σ X) [(0, .ref (r 25)), (1, .int x1), (2, .int x2), (3, .int x3)] 8 [] := by
  intro n
  induction n with
  | zero => intro _ _ _ σ h; cases h
  | succ n ih =>
    intro x1 x2 x3 σ h
    unfold M_isDirtSo_b8 at h
    refine g_iload_n hG dX12_isDirtSo_8 rfl ?_
    refine g_aload_n hG dX12_isDirtSo_9 rfl ?_
    refine r_get 0 hG dX12_isDirtSo_10 f_X12_7 (by decide) rfl ?_
    refine g_iconstv hG dX12_isDirtSo_13 ki_2 ?_
    refine r_iald 1 0 240 hG dX12_isDirtSo_14 rfl (by decide) (by decide : Int32.toNatClampNeg (2 : Int32) = 2) ?_
    rcases if_some h with ⟨c4, h⟩ | ⟨c4, h⟩
    · refine g_icmp_ge (tgt := 54) hG dX12_isDirtSo_15 rfl (fun _ => ?_) (fun q => absurd c4 q)
      refine g_iload_n hG dX12_isDirtSo_54 rfl ?_
      obtain ⟨b5, h⟩ := gd_some h
      cases h
      exact K _ _ dX12_isDirtSo_55 b5
    · refine g_icmp_ge (tgt := 54) hG dX12_isDirtSo_15 rfl (fun q => absurd q c4) (fun _ => ?_)
      refine g_iload_n hG dX12_isDirtSo_18 rfl ?_
      rcases if_some h with ⟨c6, h⟩ | ⟨c6, h⟩
      · refine g_if_eq (tgt := 46) hG dX12_isDirtSo_19 rfl (fun _ => ?_) (fun q => absurd c6 q)
        refine g_iconstv hG dX12_isDirtSo_46 ki_0 ?_
        refine g_loc hG [(0, .ref (r 25)), (1, .int x1), (3, .int x3)] ⟨rfl, rfl, rfl, trivial⟩ ?_
        exact s_M_isDirtSo_b47  hG K ih h
      · refine g_if_eq (tgt := 46) hG dX12_isDirtSo_19 rfl (fun q => absurd q c6) (fun _ => ?_)
        refine g_aload_n hG dX12_isDirtSo_22 rfl ?_
        refine g_iload_n hG dX12_isDirtSo_23 rfl ?_
        refine g_iconstv hG dX12_isDirtSo_24 ki_2 ?_
        obtain ⟨v7, σ8, q9, h⟩ := ob_some h
        refine g_cV hG dX12_isDirtSo_25 (c_M_its q9) b_X12_its v_X12_59 rfl (k := 0) rfl rfl ⟨Nat.le_of_ble_eq_true rfl, Nat.le_of_ble_eq_true rfl⟩ ⟨rfl, rfl⟩ ⟨Nat.zero_le _, Nat.zero_le _⟩ _ rfl (Nat.le_of_ble_eq_true rfl) ?_
        refine g_aload_n hG dX12_isDirtSo_28 rfl ?_
        refine r_get 18 hG dX12_isDirtSo_29 f_X12_31 (by decide) rfl ?_
        refine g_bipushv hG dX12_isDirtSo_32 kb_40 ?_
        refine g_iload_n hG dX12_isDirtSo_34 rfl ?_
        refine g_imul hG dX12_isDirtSo_35 ?_
        refine g_iload_n hG dX12_isDirtSo_36 rfl ?_
        refine g_iadd hG dX12_isDirtSo_37 ?_
        obtain ⟨b10, h⟩ := gd_some h
        refine r_iald 8 18 160 hG dX12_isDirtSo_38 rfl b10 rfl ?_
        refine g_dia2 (if v7 = (σ8.2 18 (ix (((40 : Int32) * x1) + x3))) then (1 : Int32) else (0 : Int32)) 47 (fun J11 => ?_) ?_
        · by_cases c12 : v7 = (σ8.2 18 (ix (((40 : Int32) * x1) + x3)))
          · refine g_icmp_ne (tgt := 46) hG dX12_isDirtSo_39 rfl (fun q => absurd c12 q) (fun _ => ?_)
            refine g_iconstv hG dX12_isDirtSo_42 ki_1 ?_
            refine g_goto (tgt := 47) hG dX12_isDirtSo_43 rfl ?_
            rw [if_pos c12] at J11
            exact J11
          · refine g_icmp_ne (tgt := 46) hG dX12_isDirtSo_39 rfl (fun _ => ?_) (fun q => absurd q c12)
            refine g_iconstv hG dX12_isDirtSo_46 ki_0 ?_
            rw [if_neg c12] at J11
            exact J11
        refine g_loc hG [(0, .ref (r 25)), (1, .int x1), (3, .int x3)] ⟨rfl, rfl, rfl, trivial⟩ ?_
        exact s_M_isDirtSo_b47  hG K ih h
def M_isDirtSo (x1 : Int32) (σ : RS) : Option (Int32 × RS) := (ob (M_oneDay  σ) fun v1 σ2 => (M_isDirtSo_b8  FU x1 (1 : Int32) (0 : Int32) σ2))
set_option maxRecDepth 100000 in
set_option maxHeartbeats 4000000 in
theorem c_M_isDirtSo {g : GP} {l : Launch} {r : Nat → Nat} {X : va_W} {v9 : Int32} {s9 : RS} {x1 : Int32} {σ : RS} (h : M_isDirtSo x1 σ = some (v9, s9)) : CI g l yX12_isDirtSo cX12_isDirtSo 4 (some .boolean) { frames := 58, cells := 0, slots := 0, locals := 1319 } [.ref (r 25), .int x1] (wR g r σ X) (fun r0 w => r0 = v9 ∧ w = wR g r s9 X) := by
  refine CI.mk (by decide) (Nat.le_of_ble_eq_true rfl) (fun G hG hret => ?_)
  have K : ∀ L pc, decode cX12_isDirtSo pc = .ok (.ireturn, 1) → isb v9 = true → G 0 0 (wR g r s9 X) L pc [.int v9] := fun L pc d hz => hret _ L pc v9 d (isb_n hz) ⟨rfl, rfl⟩
  unfold M_isDirtSo at h
  refine g_iconstv hG dX12_isDirtSo_0 ki_1 ?_
  refine g_istore_n hG dX12_isDirtSo_1 (by decide) ?_
  refine g_aload_n hG dX12_isDirtSo_2 rfl ?_
  obtain ⟨v1, σ2, q3, h⟩ := ob_some h
  refine g_cVv hG dX12_isDirtSo_3 (c_M_oneDay q3) b_X12_oneDay v_X12_171 rfl (k := 0) rfl rfl ⟨Nat.le_of_ble_eq_true rfl, Nat.le_of_ble_eq_true rfl⟩ ⟨rfl, rfl⟩ ⟨Nat.zero_le _, Nat.zero_le _⟩ _ rfl (Nat.le_of_ble_eq_true rfl) ?_
  refine g_iconstv hG dX12_isDirtSo_6 ki_0 ?_
  refine g_istore_n hG dX12_isDirtSo_7 (by decide) ?_
  refine g_loc hG [(0, .ref (r 25)), (1, .int x1), (2, .int (1 : Int32)), (3, .int (0 : Int32))] ⟨rfl, rfl, rfl, rfl, trivial⟩ ?_
  exact s_M_isDirtSo_b8  hG K FU _ _ _ _ h
def M_fits_b157 (x2 : Int32) (x3 : Int32) (x4 : Int32) (σ : RS) : Option (Int32 × RS) := (some ((if x2 = 0 then x3 else x4), σ))
set_option maxRecDepth 100000 in
set_option maxHeartbeats 4000000 in
theorem s_M_fits_b157 {g : GP} {l : Launch} {r : Nat → Nat} {X : va_W} {G : GT} {v9 : Int32} {s9 : RS} (hG : IsG g l yX12_fits cX12_fits 7 { frames := 59, cells := 0, slots := 0, locals := 1342 } G) (K : ∀ L pc, decode cX12_fits pc = .ok (.ireturn, 1) → G 0 0 (wR g r s9 X) L pc [.int v9]) {x2 : Int32} {x3 : Int32} {x4 : Int32} {σ : RS} (h : M_fits_b157  x2 x3 x4 σ = some (v9, s9)) : G 0 0 (wR g r σ X) [(2, .int x2), (3, .int x3), (4, .int x4)] 157 [] := by
  unfold M_fits_b157 at h
  refine g_iload_n hG dX12_fits_157 rfl ?_
  refine g_dia1 (if x2 = 0 then x3 else x4) 167 (fun J31 => ?_) ?_
  · by_cases c32 : x2 = 0
    · refine g_if_ne (tgt := 165) hG dX12_fits_158 rfl (fun q => absurd c32 q) (fun _ => ?_)
      refine g_iload_n hG dX12_fits_161 rfl ?_
      refine g_goto (tgt := 167) hG dX12_fits_162 rfl ?_
      rw [if_pos c32] at J31
      exact J31
    · refine g_if_ne (tgt := 165) hG dX12_fits_158 rfl (fun _ => ?_) (fun q => absurd q c32)
      refine g_iload hG dX12_fits_165 rfl ?_
      rw [if_neg c32] at J31
      exact J31
  cases h
  exact K _ _ dX12_fits_167
def M_fits_b75 : Nat → Int32 → Int32 → Int32 → Int32 → Int32 → RS → Option (Int32 × RS)
  | 0, _, _, _, _, _, _ => none
  | n + 1, x1, x2, x3, x4, x5, σ => (if x5 < 0 then (if x2 = (1 : Int32) then (if x3 = 0 then (ob (M_errs (-1000000002 : Int32) σ) fun v28 σ29 => (some (v28, σ29))) else (M_fits_b157  x2 x3 x4 σ)) else (M_fits_b157  x2 x3 x4 σ)) else (lt (ra σ 0 (upd (σ.2 0) 8 x5)) fun σ33 => (ob (M_isDirtSo x1 σ33) fun v35 σ36 => (ob (M_moveAll 2 0 σ36) fun v38 σ39 => (lt (x3 + (if v35 = 0 then (0 : Int32) else (1 : Int32))) fun v43 => (lt (if v35 = 0 then x4 else x5) fun v47 => ((M_fits_b75  n) x1 x2 v43 v47 (x5 + (-1 : Int32)) σ39)))))))
set_option maxRecDepth 100000 in
set_option maxHeartbeats 4000000 in
theorem s_M_fits_b75 {g : GP} {l : Launch} {r : Nat → Nat} {X : va_W} {G : GT} {v9 : Int32} {s9 : RS} (hG : IsG g l yX12_fits cX12_fits 7 { frames := 59, cells := 0, slots := 0, locals := 1342 } G) (K : ∀ L pc, decode cX12_fits pc = .ok (.ireturn, 1) → G 0 0 (wR g r s9 X) L pc [.int v9]) : ∀ (n : Nat) (x1 : Int32) (x2 : Int32) (x3 : Int32) (x4 : Int32) (x5 : Int32) (σ : RS) (h : M_fits_b75  n x1 x2 x3 x4 x5 σ = some (v9, s9)), G 0 0 (wR g r σ X) [(0, .ref (r 25)), (1, .int x1), (2, .int x2), (3, .int x3), (4, .int x4), (5, .int x5)] 75 [] := by
  intro n
  induction n with
  | zero => intro _ _ _ _ _ σ h; cases h
  | succ n ih =>
    intro x1 x2 x3 x4 x5 σ h
    unfold M_fits_b75 at h
    refine g_iload hG dX12_fits_75 rfl ?_
    rcases if_some h with ⟨c25, h⟩ | ⟨c25, h⟩
    · refine g_if_lt (tgt := 141) hG dX12_fits_77 rfl (fun _ => ?_) (fun q => absurd c25 q)
      refine g_iload_n hG dX12_fits_141 rfl ?_
      refine g_iconstv hG dX12_fits_142 ki_1 ?_
      rcases if_some h with ⟨c26, h⟩ | ⟨c26, h⟩
      · refine g_icmp_ne (tgt := 157) hG dX12_fits_143 rfl (fun q => absurd c26 q) (fun _ => ?_)
        refine g_iload_n hG dX12_fits_146 rfl ?_
        rcases if_some h with ⟨c27, h⟩ | ⟨c27, h⟩
        · refine g_if_ne (tgt := 157) hG dX12_fits_147 rfl (fun q => absurd c27 q) (fun _ => ?_)
          refine g_aload_n hG dX12_fits_150 rfl ?_
          refine g_ldc hG dX12_fits_151 k_X12_189 ?_
          obtain ⟨v28, σ29, q30, h⟩ := ob_some h
          refine g_cV hG dX12_fits_153 (c_M_errs q30) b_X12_errs v_X12_46 rfl (k := 0) rfl rfl ⟨Nat.le_of_ble_eq_true rfl, Nat.le_of_ble_eq_true rfl⟩ ⟨rfl, rfl⟩ ⟨Nat.zero_le _, Nat.zero_le _⟩ _ rfl (Nat.le_of_ble_eq_true rfl) ?_
          cases h
          exact K _ _ dX12_fits_156
        · refine g_if_ne (tgt := 157) hG dX12_fits_147 rfl (fun _ => ?_) (fun q => absurd q c27)
          refine g_loc hG [(2, .int x2), (3, .int x3), (4, .int x4)] ⟨rfl, rfl, rfl, trivial⟩ ?_
          exact s_M_fits_b157  hG K  h
      · refine g_icmp_ne (tgt := 157) hG dX12_fits_143 rfl (fun _ => ?_) (fun q => absurd q c26)
        refine g_loc hG [(2, .int x2), (3, .int x3), (4, .int x4)] ⟨rfl, rfl, rfl, trivial⟩ ?_
        exact s_M_fits_b157  hG K  h
    · refine g_if_lt (tgt := 141) hG dX12_fits_77 rfl (fun q => absurd q c25) (fun _ => ?_)
      refine g_aload_n hG dX12_fits_80 rfl ?_
      refine r_get 0 hG dX12_fits_81 f_X12_7 (by decide) rfl ?_
      refine g_bipushv hG dX12_fits_84 kb_8 ?_
      refine g_iload hG dX12_fits_86 rfl ?_
      obtain ⟨σ33, e34, h⟩ := lt_ex h
      refine r_iast 1 0 240 hG e34 dX12_fits_88 rfl (by decide) (by decide : Int32.toNatClampNeg (8 : Int32) = 8) rfl ?_
      refine g_aload_n hG dX12_fits_89 rfl ?_
      refine g_iload_n hG dX12_fits_90 rfl ?_
      obtain ⟨v35, σ36, q37, h⟩ := ob_some h
      refine g_cV hG dX12_fits_91 (c_M_isDirtSo q37) b_X12_isDirtSo v_X12_206 rfl (k := 0) rfl rfl ⟨Nat.le_of_ble_eq_true rfl, Nat.le_of_ble_eq_true rfl⟩ ⟨rfl, rfl⟩ ⟨Nat.zero_le _, Nat.zero_le _⟩ _ rfl (Nat.le_of_ble_eq_true rfl) ?_
      refine g_istore hG dX12_fits_94 (by decide) ?_
      refine g_aload_n hG dX12_fits_96 rfl ?_
      refine g_aload_n hG dX12_fits_97 rfl ?_
      refine r_get 2 hG dX12_fits_98 f_X12_16 (by decide) rfl ?_
      refine g_aload_n hG dX12_fits_101 rfl ?_
      refine r_get 0 hG dX12_fits_102 f_X12_7 (by decide) rfl ?_
      obtain ⟨v38, σ39, q40, h⟩ := ob_some h
      refine g_cVv hG dX12_fits_105 (c_M_moveAll (by decide) (by decide) (by decide) q40) b_X12_moveAll v_X12_150 rfl (k := 0) rfl rfl ⟨Nat.le_of_ble_eq_true rfl, Nat.le_of_ble_eq_true rfl⟩ ⟨rfl, rfl⟩ ⟨Nat.zero_le _, Nat.zero_le _⟩ _ rfl (Nat.le_of_ble_eq_true rfl) ?_
      refine g_iload_n hG dX12_fits_108 rfl ?_
      refine g_iload hG dX12_fits_109 rfl ?_
      refine g_dia1 (if v35 = 0 then (0 : Int32) else (1 : Int32)) 119 (fun J41 => ?_) ?_
      · by_cases c42 : v35 = 0
        · refine g_if_eq (tgt := 118) hG dX12_fits_111 rfl (fun _ => ?_) (fun q => absurd c42 q)
          refine g_iconstv hG dX12_fits_118 ki_0 ?_
          rw [if_pos c42] at J41
          exact J41
        · refine g_if_eq (tgt := 118) hG dX12_fits_111 rfl (fun q => absurd q c42) (fun _ => ?_)
          refine g_iconstv hG dX12_fits_114 ki_1 ?_
          refine g_goto (tgt := 119) hG dX12_fits_115 rfl ?_
          rw [if_neg c42] at J41
          exact J41
      refine g_iadd hG dX12_fits_119 ?_
      obtain ⟨v43, e44, h⟩ := lt_ex h
      refine g_nam e44 ?_
      refine g_istore_n hG dX12_fits_120 (by decide) ?_
      refine g_iload hG dX12_fits_121 rfl ?_
      refine g_dia1 (if v35 = 0 then x4 else x5) 133 (fun J45 => ?_) ?_
      · by_cases c46 : v35 = 0
        · refine g_if_eq (tgt := 131) hG dX12_fits_123 rfl (fun _ => ?_) (fun q => absurd c46 q)
          refine g_iload hG dX12_fits_131 rfl ?_
          rw [if_pos c46] at J45
          exact J45
        · refine g_if_eq (tgt := 131) hG dX12_fits_123 rfl (fun q => absurd q c46) (fun _ => ?_)
          refine g_iload hG dX12_fits_126 rfl ?_
          refine g_goto (tgt := 133) hG dX12_fits_128 rfl ?_
          rw [if_neg c46] at J45
          exact J45
      obtain ⟨v47, e48, h⟩ := lt_ex h
      refine g_nam e48 ?_
      refine g_istore hG dX12_fits_133 (by decide) ?_
      refine g_iincv (c := (-1 : Int32)) hG dX12_fits_135 rfl (by decide) (by decide) ?_
      refine g_goto (tgt := 75) hG dX12_fits_138 rfl ?_
      refine g_loc hG [(0, .ref (r 25)), (1, .int x1), (2, .int x2), (3, .int v43), (4, .int v47), (5, .int (x5 + (-1 : Int32)))] ⟨rfl, rfl, rfl, rfl, rfl, rfl, trivial⟩ ?_
      exact ih _ _ _ _ _ _ h
def M_fits (x1 : Int32) (x2 : Int32) (σ : RS) : Option (Int32 × RS) := (ob (M_isSheet x1 σ) fun v1 σ2 => (if v1 = 0 then (ob (M_errs (-1000000001 : Int32) σ2) fun v5 σ6 => (some (v5, σ6))) else (ob (M_in x2 (0 : Int32) (1 : Int32) σ2) fun v8 σ9 => (if v8 = 0 then (ob (M_errs (-1000000001 : Int32) σ9) fun v12 σ13 => (some (v12, σ13))) else (gd (inb x1 4) (if (σ9.2 16 (ix x1)) = 0 then (ob (M_errs (-1000000002 : Int32) σ9) fun v17 σ18 => (some (v17, σ18))) else (gd (inb x1 4) (if (σ9.2 17 (ix x1)) = (σ9.2 0 2) then (ob (M_moveAll 0 2 σ9) fun v22 σ23 => (M_fits_b75  FU x1 x2 (0 : Int32) (0 : Int32) (99 : Int32) σ23)) else (ob (M_errs (-1000000002 : Int32) σ9) fun v49 σ50 => (some (v49, σ50)))))))))))
set_option maxRecDepth 100000 in
set_option maxHeartbeats 4000000 in
theorem c_M_fits {g : GP} {l : Launch} {r : Nat → Nat} {X : va_W} {v9 : Int32} {s9 : RS} {x1 : Int32} {x2 : Int32} {σ : RS} (h : M_fits x1 x2 σ = some (v9, s9)) : CI g l yX12_fits cX12_fits 7 (some .int) { frames := 59, cells := 0, slots := 0, locals := 1342 } [.ref (r 25), .int x1, .int x2] (wR g r σ X) (fun r0 w => r0 = v9 ∧ w = wR g r s9 X) := by
  refine CI.mk (by decide) (Nat.le_of_ble_eq_true rfl) (fun G hG hret => ?_)
  have K : ∀ L pc, decode cX12_fits pc = .ok (.ireturn, 1) → G 0 0 (wR g r s9 X) L pc [.int v9] := fun L pc d => hret _ L pc v9 d rfl ⟨rfl, rfl⟩
  unfold M_fits at h
  refine g_iload_n hG dX12_fits_0 rfl ?_
  obtain ⟨v1, σ2, q3, h⟩ := ob_some h
  refine g_cS hG dX12_fits_1 (c_M_isSheet q3) b_X12_isSheet v_X12_203 rfl ⟨Nat.le_of_ble_eq_true rfl, Nat.le_of_ble_eq_true rfl⟩ ⟨rfl, rfl⟩ ⟨Nat.zero_le _, Nat.zero_le _⟩ _ rfl (Nat.le_of_ble_eq_true rfl) ?_
  rcases if_some h with ⟨c4, h⟩ | ⟨c4, h⟩
  · refine g_if_eq (tgt := 16) hG dX12_fits_4 rfl (fun _ => ?_) (fun q => absurd c4 q)
    refine g_aload_n hG dX12_fits_16 rfl ?_
    refine g_ldc hG dX12_fits_17 k_X12_45 ?_
    obtain ⟨v5, σ6, q7, h⟩ := ob_some h
    refine g_cV hG dX12_fits_19 (c_M_errs q7) b_X12_errs v_X12_46 rfl (k := 0) rfl rfl ⟨Nat.le_of_ble_eq_true rfl, Nat.le_of_ble_eq_true rfl⟩ ⟨rfl, rfl⟩ ⟨Nat.zero_le _, Nat.zero_le _⟩ _ rfl (Nat.le_of_ble_eq_true rfl) ?_
    cases h
    exact K _ _ dX12_fits_22
  · refine g_if_eq (tgt := 16) hG dX12_fits_4 rfl (fun q => absurd q c4) (fun _ => ?_)
    refine g_iload_n hG dX12_fits_7 rfl ?_
    refine g_iconstv hG dX12_fits_8 ki_0 ?_
    refine g_iconstv hG dX12_fits_9 ki_1 ?_
    obtain ⟨v8, σ9, q10, h⟩ := ob_some h
    refine g_cS hG dX12_fits_10 (c_M_in q10) b_X12_in v_X12_41 rfl ⟨Nat.le_of_ble_eq_true rfl, Nat.le_of_ble_eq_true rfl⟩ ⟨rfl, rfl⟩ ⟨Nat.zero_le _, Nat.zero_le _⟩ _ rfl (Nat.le_of_ble_eq_true rfl) ?_
    rcases if_some h with ⟨c11, h⟩ | ⟨c11, h⟩
    · refine g_if_ne (tgt := 23) hG dX12_fits_13 rfl (fun q => absurd c11 q) (fun _ => ?_)
      refine g_aload_n hG dX12_fits_16 rfl ?_
      refine g_ldc hG dX12_fits_17 k_X12_45 ?_
      obtain ⟨v12, σ13, q14, h⟩ := ob_some h
      refine g_cV hG dX12_fits_19 (c_M_errs q14) b_X12_errs v_X12_46 rfl (k := 0) rfl rfl ⟨Nat.le_of_ble_eq_true rfl, Nat.le_of_ble_eq_true rfl⟩ ⟨rfl, rfl⟩ ⟨Nat.zero_le _, Nat.zero_le _⟩ _ rfl (Nat.le_of_ble_eq_true rfl) ?_
      cases h
      exact K _ _ dX12_fits_22
    · refine g_if_ne (tgt := 23) hG dX12_fits_13 rfl (fun _ => ?_) (fun q => absurd q c11)
      refine g_aload_n hG dX12_fits_23 rfl ?_
      refine r_get 16 hG dX12_fits_24 f_X12_25 (by decide) rfl ?_
      refine g_iload_n hG dX12_fits_27 rfl ?_
      obtain ⟨b15, h⟩ := gd_some h
      refine r_iald 6 16 4 hG dX12_fits_28 rfl b15 rfl ?_
      rcases if_some h with ⟨c16, h⟩ | ⟨c16, h⟩
      · refine g_if_eq (tgt := 47) hG dX12_fits_29 rfl (fun _ => ?_) (fun q => absurd c16 q)
        refine g_aload_n hG dX12_fits_47 rfl ?_
        refine g_ldc hG dX12_fits_48 k_X12_189 ?_
        obtain ⟨v17, σ18, q19, h⟩ := ob_some h
        refine g_cV hG dX12_fits_50 (c_M_errs q19) b_X12_errs v_X12_46 rfl (k := 0) rfl rfl ⟨Nat.le_of_ble_eq_true rfl, Nat.le_of_ble_eq_true rfl⟩ ⟨rfl, rfl⟩ ⟨Nat.zero_le _, Nat.zero_le _⟩ _ rfl (Nat.le_of_ble_eq_true rfl) ?_
        cases h
        exact K _ _ dX12_fits_53
      · refine g_if_eq (tgt := 47) hG dX12_fits_29 rfl (fun q => absurd q c16) (fun _ => ?_)
        refine g_aload_n hG dX12_fits_32 rfl ?_
        refine r_get 17 hG dX12_fits_33 f_X12_28 (by decide) rfl ?_
        refine g_iload_n hG dX12_fits_36 rfl ?_
        obtain ⟨b20, h⟩ := gd_some h
        refine r_iald 7 17 4 hG dX12_fits_37 rfl b20 rfl ?_
        refine g_aload_n hG dX12_fits_38 rfl ?_
        refine r_get 0 hG dX12_fits_39 f_X12_7 (by decide) rfl ?_
        refine g_iconstv hG dX12_fits_42 ki_2 ?_
        refine r_iald 1 0 240 hG dX12_fits_43 rfl (by decide) (by decide : Int32.toNatClampNeg (2 : Int32) = 2) ?_
        rcases if_some h with ⟨c21, h⟩ | ⟨c21, h⟩
        · refine g_icmp_eq (tgt := 54) hG dX12_fits_44 rfl (fun _ => ?_) (fun q => absurd c21 q)
          refine g_iconstv hG dX12_fits_54 ki_0 ?_
          refine g_istore_n hG dX12_fits_55 (by decide) ?_
          refine g_iconstv hG dX12_fits_56 ki_0 ?_
          refine g_istore hG dX12_fits_57 (by decide) ?_
          refine g_aload_n hG dX12_fits_59 rfl ?_
          refine g_aload_n hG dX12_fits_60 rfl ?_
          refine r_get 0 hG dX12_fits_61 f_X12_7 (by decide) rfl ?_
          refine g_aload_n hG dX12_fits_64 rfl ?_
          refine r_get 2 hG dX12_fits_65 f_X12_16 (by decide) rfl ?_
          obtain ⟨v22, σ23, q24, h⟩ := ob_some h
          refine g_cVv hG dX12_fits_68 (c_M_moveAll (by decide) (by decide) (by decide) q24) b_X12_moveAll v_X12_150 rfl (k := 0) rfl rfl ⟨Nat.le_of_ble_eq_true rfl, Nat.le_of_ble_eq_true rfl⟩ ⟨rfl, rfl⟩ ⟨Nat.zero_le _, Nat.zero_le _⟩ _ rfl (Nat.le_of_ble_eq_true rfl) ?_
          refine g_bipushv hG dX12_fits_71 kb_99 ?_
          refine g_istore hG dX12_fits_73 (by decide) ?_
          refine g_loc hG [(0, .ref (r 25)), (1, .int x1), (2, .int x2), (3, .int (0 : Int32)), (4, .int (0 : Int32)), (5, .int (99 : Int32))] ⟨rfl, rfl, rfl, rfl, rfl, rfl, trivial⟩ ?_
          exact s_M_fits_b75  hG K FU _ _ _ _ _ _ h
        · refine g_icmp_eq (tgt := 54) hG dX12_fits_44 rfl (fun q => absurd q c21) (fun _ => ?_)
          refine g_aload_n hG dX12_fits_47 rfl ?_
          refine g_ldc hG dX12_fits_48 k_X12_189 ?_
          obtain ⟨v49, σ50, q51, h⟩ := ob_some h
          refine g_cV hG dX12_fits_50 (c_M_errs q51) b_X12_errs v_X12_46 rfl (k := 0) rfl rfl ⟨Nat.le_of_ble_eq_true rfl, Nat.le_of_ble_eq_true rfl⟩ ⟨rfl, rfl⟩ ⟨Nat.zero_le _, Nat.zero_le _⟩ _ rfl (Nat.le_of_ble_eq_true rfl) ?_
          cases h
          exact K _ _ dX12_fits_53
def M_paid (x1 : Int32) (σ : RS) : Option (Int32 × RS) := (ob (M_in x1 (0 : Int32) (60 : Int32) σ) fun v1 σ2 => (if v1 = 0 then (ob (M_errs (-1000000001 : Int32) σ2) fun v5 σ6 => (some (v5, σ6))) else (ob (M_moveAll 0 2 σ2) fun v8 σ9 => (ob (M_passes x1 σ9) fun v11 σ12 => (lt ((σ12.2 0 9) - (σ12.2 2 9)) fun v14 => (ob (M_moveAll 2 0 σ12) fun v16 σ17 => (some (v14, σ17))))))))
set_option maxRecDepth 100000 in
set_option maxHeartbeats 4000000 in
theorem c_M_paid {g : GP} {l : Launch} {r : Nat → Nat} {X : va_W} {v9 : Int32} {s9 : RS} {x1 : Int32} {σ : RS} (h : M_paid x1 σ = some (v9, s9)) : CI g l yX12_paid cX12_paid 3 (some .int) { frames := 59, cells := 0, slots := 0, locals := 1341 } [.ref (r 25), .int x1] (wR g r σ X) (fun r0 w => r0 = v9 ∧ w = wR g r s9 X) := by
  refine CI.mk (by decide) (Nat.le_of_ble_eq_true rfl) (fun G hG hret => ?_)
  have K : ∀ L pc, decode cX12_paid pc = .ok (.ireturn, 1) → G 0 0 (wR g r s9 X) L pc [.int v9] := fun L pc d => hret _ L pc v9 d rfl ⟨rfl, rfl⟩
  unfold M_paid at h
  refine g_iload_n hG dX12_paid_0 rfl ?_
  refine g_iconstv hG dX12_paid_1 ki_0 ?_
  refine g_bipushv hG dX12_paid_2 kb_60 ?_
  obtain ⟨v1, σ2, q3, h⟩ := ob_some h
  refine g_cS hG dX12_paid_4 (c_M_in q3) b_X12_in v_X12_41 rfl ⟨Nat.le_of_ble_eq_true rfl, Nat.le_of_ble_eq_true rfl⟩ ⟨rfl, rfl⟩ ⟨Nat.zero_le _, Nat.zero_le _⟩ _ rfl (Nat.le_of_ble_eq_true rfl) ?_
  rcases if_some h with ⟨c4, h⟩ | ⟨c4, h⟩
  · refine g_if_ne (tgt := 17) hG dX12_paid_7 rfl (fun q => absurd c4 q) (fun _ => ?_)
    refine g_aload_n hG dX12_paid_10 rfl ?_
    refine g_ldc hG dX12_paid_11 k_X12_45 ?_
    obtain ⟨v5, σ6, q7, h⟩ := ob_some h
    refine g_cV hG dX12_paid_13 (c_M_errs q7) b_X12_errs v_X12_46 rfl (k := 0) rfl rfl ⟨Nat.le_of_ble_eq_true rfl, Nat.le_of_ble_eq_true rfl⟩ ⟨rfl, rfl⟩ ⟨Nat.zero_le _, Nat.zero_le _⟩ _ rfl (Nat.le_of_ble_eq_true rfl) ?_
    cases h
    exact K _ _ dX12_paid_16
  · refine g_if_ne (tgt := 17) hG dX12_paid_7 rfl (fun _ => ?_) (fun q => absurd q c4)
    refine g_aload_n hG dX12_paid_17 rfl ?_
    refine g_aload_n hG dX12_paid_18 rfl ?_
    refine r_get 0 hG dX12_paid_19 f_X12_7 (by decide) rfl ?_
    refine g_aload_n hG dX12_paid_22 rfl ?_
    refine r_get 2 hG dX12_paid_23 f_X12_16 (by decide) rfl ?_
    obtain ⟨v8, σ9, q10, h⟩ := ob_some h
    refine g_cVv hG dX12_paid_26 (c_M_moveAll (by decide) (by decide) (by decide) q10) b_X12_moveAll v_X12_150 rfl (k := 0) rfl rfl ⟨Nat.le_of_ble_eq_true rfl, Nat.le_of_ble_eq_true rfl⟩ ⟨rfl, rfl⟩ ⟨Nat.zero_le _, Nat.zero_le _⟩ _ rfl (Nat.le_of_ble_eq_true rfl) ?_
    refine g_aload_n hG dX12_paid_29 rfl ?_
    refine g_iload_n hG dX12_paid_30 rfl ?_
    obtain ⟨v11, σ12, q13, h⟩ := ob_some h
    refine g_cVv hG dX12_paid_31 (c_M_passes q13) b_X12_passes v_X12_175 rfl (k := 0) rfl rfl ⟨Nat.le_of_ble_eq_true rfl, Nat.le_of_ble_eq_true rfl⟩ ⟨rfl, rfl⟩ ⟨Nat.zero_le _, Nat.zero_le _⟩ _ rfl (Nat.le_of_ble_eq_true rfl) ?_
    refine g_aload_n hG dX12_paid_34 rfl ?_
    refine r_get 0 hG dX12_paid_35 f_X12_7 (by decide) rfl ?_
    refine g_bipushv hG dX12_paid_38 kb_9 ?_
    refine r_iald 1 0 240 hG dX12_paid_40 rfl (by decide) (by decide : Int32.toNatClampNeg (9 : Int32) = 9) ?_
    refine g_aload_n hG dX12_paid_41 rfl ?_
    refine r_get 2 hG dX12_paid_42 f_X12_16 (by decide) rfl ?_
    refine g_bipushv hG dX12_paid_45 kb_9 ?_
    refine r_iald 3 2 240 hG dX12_paid_47 rfl (by decide) (by decide : Int32.toNatClampNeg (9 : Int32) = 9) ?_
    refine g_isub hG dX12_paid_48 ?_
    obtain ⟨v14, e15, h⟩ := lt_ex h
    refine g_nam e15 ?_
    refine g_istore_n hG dX12_paid_49 (by decide) ?_
    refine g_aload_n hG dX12_paid_50 rfl ?_
    refine g_aload_n hG dX12_paid_51 rfl ?_
    refine r_get 2 hG dX12_paid_52 f_X12_16 (by decide) rfl ?_
    refine g_aload_n hG dX12_paid_55 rfl ?_
    refine r_get 0 hG dX12_paid_56 f_X12_7 (by decide) rfl ?_
    obtain ⟨v16, σ17, q18, h⟩ := ob_some h
    refine g_cVv hG dX12_paid_59 (c_M_moveAll (by decide) (by decide) (by decide) q18) b_X12_moveAll v_X12_150 rfl (k := 0) rfl rfl ⟨Nat.le_of_ble_eq_true rfl, Nat.le_of_ble_eq_true rfl⟩ ⟨rfl, rfl⟩ ⟨Nat.zero_le _, Nat.zero_le _⟩ _ rfl (Nat.le_of_ble_eq_true rfl) ?_
    refine g_iload_n hG dX12_paid_62 rfl ?_
    cases h
    exact K _ _ dX12_paid_63
def M_bell_b53 : Nat → Int32 → Int32 → Int32 → RS → Option (Int32 × RS)
  | 0, _, _, _, _ => none
  | n + 1, x1, x2, x3, σ => (if (σ.2 0 2) ≤ x3 then (ob (M_passes x1 σ) fun v21 σ22 => (ob (M_allDirt  σ22) fun v24 σ25 => (lt (x2 - v24) fun v27 => (ob (M_moveAll 2 0 σ25) fun v29 σ30 => (some (v27, σ30)))))) else (ob (M_gets x3 (3 : Int32) (0 : Int32) σ) fun v32 σ33 => ((M_bell_b53  n) x1 x2 (x3 + (1 : Int32)) σ33)))
set_option maxRecDepth 100000 in
set_option maxHeartbeats 4000000 in
theorem s_M_bell_b53 {g : GP} {l : Launch} {r : Nat → Nat} {X : va_W} {G : GT} {v9 : Int32} {s9 : RS} (hG : IsG g l yX12_bell cX12_bell 4 { frames := 59, cells := 0, slots := 0, locals := 1341 } G) (K : ∀ L pc, decode cX12_bell pc = .ok (.ireturn, 1) → G 0 0 (wR g r s9 X) L pc [.int v9]) : ∀ (n : Nat) (x1 : Int32) (x2 : Int32) (x3 : Int32) (σ : RS) (h : M_bell_b53  n x1 x2 x3 σ = some (v9, s9)), G 0 0 (wR g r σ X) [(0, .ref (r 25)), (1, .int x1), (2, .int x2), (3, .int x3)] 53 [] := by
  intro n
  induction n with
  | zero => intro _ _ _ σ h; cases h
  | succ n ih =>
    intro x1 x2 x3 σ h
    unfold M_bell_b53 at h
    refine g_iload_n hG dX12_bell_53 rfl ?_
    refine g_aload_n hG dX12_bell_54 rfl ?_
    refine r_get 0 hG dX12_bell_55 f_X12_7 (by decide) rfl ?_
    refine g_iconstv hG dX12_bell_58 ki_2 ?_
    refine r_iald 1 0 240 hG dX12_bell_59 rfl (by decide) (by decide : Int32.toNatClampNeg (2 : Int32) = 2) ?_
    rcases if_some h with ⟨c20, h⟩ | ⟨c20, h⟩
    · refine g_icmp_ge (tgt := 76) hG dX12_bell_60 rfl (fun _ => ?_) (fun q => absurd c20 q)
      refine g_aload_n hG dX12_bell_76 rfl ?_
      refine g_iload_n hG dX12_bell_77 rfl ?_
      obtain ⟨v21, σ22, q23, h⟩ := ob_some h
      refine g_cVv hG dX12_bell_78 (c_M_passes q23) b_X12_passes v_X12_175 rfl (k := 0) rfl rfl ⟨Nat.le_of_ble_eq_true rfl, Nat.le_of_ble_eq_true rfl⟩ ⟨rfl, rfl⟩ ⟨Nat.zero_le _, Nat.zero_le _⟩ _ rfl (Nat.le_of_ble_eq_true rfl) ?_
      refine g_iload_n hG dX12_bell_81 rfl ?_
      refine g_aload_n hG dX12_bell_82 rfl ?_
      obtain ⟨v24, σ25, q26, h⟩ := ob_some h
      refine g_cV hG dX12_bell_83 (c_M_allDirt q26) b_X12_allDirt v_X12_179 rfl (k := 0) rfl rfl ⟨Nat.le_of_ble_eq_true rfl, Nat.le_of_ble_eq_true rfl⟩ ⟨rfl, rfl⟩ ⟨Nat.zero_le _, Nat.zero_le _⟩ _ rfl (Nat.le_of_ble_eq_true rfl) ?_
      refine g_isub hG dX12_bell_86 ?_
      obtain ⟨v27, e28, h⟩ := lt_ex h
      refine g_nam e28 ?_
      refine g_istore_n hG dX12_bell_87 (by decide) ?_
      refine g_aload_n hG dX12_bell_88 rfl ?_
      refine g_aload_n hG dX12_bell_89 rfl ?_
      refine r_get 2 hG dX12_bell_90 f_X12_16 (by decide) rfl ?_
      refine g_aload_n hG dX12_bell_93 rfl ?_
      refine r_get 0 hG dX12_bell_94 f_X12_7 (by decide) rfl ?_
      obtain ⟨v29, σ30, q31, h⟩ := ob_some h
      refine g_cVv hG dX12_bell_97 (c_M_moveAll (by decide) (by decide) (by decide) q31) b_X12_moveAll v_X12_150 rfl (k := 0) rfl rfl ⟨Nat.le_of_ble_eq_true rfl, Nat.le_of_ble_eq_true rfl⟩ ⟨rfl, rfl⟩ ⟨Nat.zero_le _, Nat.zero_le _⟩ _ rfl (Nat.le_of_ble_eq_true rfl) ?_
      refine g_iload_n hG dX12_bell_100 rfl ?_
      cases h
      exact K _ _ dX12_bell_101
    · refine g_icmp_ge (tgt := 76) hG dX12_bell_60 rfl (fun q => absurd q c20) (fun _ => ?_)
      refine g_aload_n hG dX12_bell_63 rfl ?_
      refine g_iload_n hG dX12_bell_64 rfl ?_
      refine g_iconstv hG dX12_bell_65 ki_3 ?_
      refine g_iconstv hG dX12_bell_66 ki_0 ?_
      obtain ⟨v32, σ33, q34, h⟩ := ob_some h
      refine g_cVv hG dX12_bell_67 (c_M_gets q34) b_X12_gets v_X12_51 rfl (k := 0) rfl rfl ⟨Nat.le_of_ble_eq_true rfl, Nat.le_of_ble_eq_true rfl⟩ ⟨rfl, rfl⟩ ⟨Nat.zero_le _, Nat.zero_le _⟩ _ rfl (Nat.le_of_ble_eq_true rfl) ?_
      refine g_iincv (c := (1 : Int32)) hG dX12_bell_70 rfl (by decide) (by decide) ?_
      refine g_goto (tgt := 53) hG dX12_bell_73 rfl ?_
      refine g_loc hG [(0, .ref (r 25)), (1, .int x1), (2, .int x2), (3, .int (x3 + (1 : Int32)))] ⟨rfl, rfl, rfl, rfl, trivial⟩ ?_
      exact ih _ _ _ _ h
def M_bell (x1 : Int32) (σ : RS) : Option (Int32 × RS) := (ob (M_in x1 (0 : Int32) (60 : Int32) σ) fun v1 σ2 => (if v1 = 0 then (ob (M_errs (-1000000001 : Int32) σ2) fun v5 σ6 => (some (v5, σ6))) else (ob (M_moveAll 0 2 σ2) fun v8 σ9 => (ob (M_passes x1 σ9) fun v11 σ12 => (ob (M_allDirt  σ12) fun v14 σ15 => (ob (M_moveAll 2 0 σ15) fun v17 σ18 => (M_bell_b53  FU x1 v14 (0 : Int32) σ18)))))))
set_option maxRecDepth 100000 in
set_option maxHeartbeats 4000000 in
theorem c_M_bell {g : GP} {l : Launch} {r : Nat → Nat} {X : va_W} {v9 : Int32} {s9 : RS} {x1 : Int32} {σ : RS} (h : M_bell x1 σ = some (v9, s9)) : CI g l yX12_bell cX12_bell 4 (some .int) { frames := 59, cells := 0, slots := 0, locals := 1341 } [.ref (r 25), .int x1] (wR g r σ X) (fun r0 w => r0 = v9 ∧ w = wR g r s9 X) := by
  refine CI.mk (by decide) (Nat.le_of_ble_eq_true rfl) (fun G hG hret => ?_)
  have K : ∀ L pc, decode cX12_bell pc = .ok (.ireturn, 1) → G 0 0 (wR g r s9 X) L pc [.int v9] := fun L pc d => hret _ L pc v9 d rfl ⟨rfl, rfl⟩
  unfold M_bell at h
  refine g_iload_n hG dX12_bell_0 rfl ?_
  refine g_iconstv hG dX12_bell_1 ki_0 ?_
  refine g_bipushv hG dX12_bell_2 kb_60 ?_
  obtain ⟨v1, σ2, q3, h⟩ := ob_some h
  refine g_cS hG dX12_bell_4 (c_M_in q3) b_X12_in v_X12_41 rfl ⟨Nat.le_of_ble_eq_true rfl, Nat.le_of_ble_eq_true rfl⟩ ⟨rfl, rfl⟩ ⟨Nat.zero_le _, Nat.zero_le _⟩ _ rfl (Nat.le_of_ble_eq_true rfl) ?_
  rcases if_some h with ⟨c4, h⟩ | ⟨c4, h⟩
  · refine g_if_ne (tgt := 17) hG dX12_bell_7 rfl (fun q => absurd c4 q) (fun _ => ?_)
    refine g_aload_n hG dX12_bell_10 rfl ?_
    refine g_ldc hG dX12_bell_11 k_X12_45 ?_
    obtain ⟨v5, σ6, q7, h⟩ := ob_some h
    refine g_cV hG dX12_bell_13 (c_M_errs q7) b_X12_errs v_X12_46 rfl (k := 0) rfl rfl ⟨Nat.le_of_ble_eq_true rfl, Nat.le_of_ble_eq_true rfl⟩ ⟨rfl, rfl⟩ ⟨Nat.zero_le _, Nat.zero_le _⟩ _ rfl (Nat.le_of_ble_eq_true rfl) ?_
    cases h
    exact K _ _ dX12_bell_16
  · refine g_if_ne (tgt := 17) hG dX12_bell_7 rfl (fun _ => ?_) (fun q => absurd q c4)
    refine g_aload_n hG dX12_bell_17 rfl ?_
    refine g_aload_n hG dX12_bell_18 rfl ?_
    refine r_get 0 hG dX12_bell_19 f_X12_7 (by decide) rfl ?_
    refine g_aload_n hG dX12_bell_22 rfl ?_
    refine r_get 2 hG dX12_bell_23 f_X12_16 (by decide) rfl ?_
    obtain ⟨v8, σ9, q10, h⟩ := ob_some h
    refine g_cVv hG dX12_bell_26 (c_M_moveAll (by decide) (by decide) (by decide) q10) b_X12_moveAll v_X12_150 rfl (k := 0) rfl rfl ⟨Nat.le_of_ble_eq_true rfl, Nat.le_of_ble_eq_true rfl⟩ ⟨rfl, rfl⟩ ⟨Nat.zero_le _, Nat.zero_le _⟩ _ rfl (Nat.le_of_ble_eq_true rfl) ?_
    refine g_aload_n hG dX12_bell_29 rfl ?_
    refine g_iload_n hG dX12_bell_30 rfl ?_
    obtain ⟨v11, σ12, q13, h⟩ := ob_some h
    refine g_cVv hG dX12_bell_31 (c_M_passes q13) b_X12_passes v_X12_175 rfl (k := 0) rfl rfl ⟨Nat.le_of_ble_eq_true rfl, Nat.le_of_ble_eq_true rfl⟩ ⟨rfl, rfl⟩ ⟨Nat.zero_le _, Nat.zero_le _⟩ _ rfl (Nat.le_of_ble_eq_true rfl) ?_
    refine g_aload_n hG dX12_bell_34 rfl ?_
    obtain ⟨v14, σ15, q16, h⟩ := ob_some h
    refine g_cV hG dX12_bell_35 (c_M_allDirt q16) b_X12_allDirt v_X12_179 rfl (k := 0) rfl rfl ⟨Nat.le_of_ble_eq_true rfl, Nat.le_of_ble_eq_true rfl⟩ ⟨rfl, rfl⟩ ⟨Nat.zero_le _, Nat.zero_le _⟩ _ rfl (Nat.le_of_ble_eq_true rfl) ?_
    refine g_istore_n hG dX12_bell_38 (by decide) ?_
    refine g_aload_n hG dX12_bell_39 rfl ?_
    refine g_aload_n hG dX12_bell_40 rfl ?_
    refine r_get 2 hG dX12_bell_41 f_X12_16 (by decide) rfl ?_
    refine g_aload_n hG dX12_bell_44 rfl ?_
    refine r_get 0 hG dX12_bell_45 f_X12_7 (by decide) rfl ?_
    obtain ⟨v17, σ18, q19, h⟩ := ob_some h
    refine g_cVv hG dX12_bell_48 (c_M_moveAll (by decide) (by decide) (by decide) q19) b_X12_moveAll v_X12_150 rfl (k := 0) rfl rfl ⟨Nat.le_of_ble_eq_true rfl, Nat.le_of_ble_eq_true rfl⟩ ⟨rfl, rfl⟩ ⟨Nat.zero_le _, Nat.zero_le _⟩ _ rfl (Nat.le_of_ble_eq_true rfl) ?_
    refine g_iconstv hG dX12_bell_51 ki_0 ?_
    refine g_istore_n hG dX12_bell_52 (by decide) ?_
    refine g_loc hG [(0, .ref (r 25)), (1, .int x1), (2, .int v14), (3, .int (0 : Int32))] ⟨rfl, rfl, rfl, rfl, trivial⟩ ?_
    exact s_M_bell_b53  hG K FU _ _ _ _ h
def M_divisor_b4 : Nat → Int32 → Int32 → RS → Option (Int32 × RS)
  | 0, _, _, _ => none
  | n + 1, x2, x3, σ => (if x3 = 0 then (some (x2, σ)) else (gd (nz x3) (lt (irm x2 x3) fun v3 => ((M_divisor_b4  n) x3 v3 σ))))
set_option maxRecDepth 100000 in
set_option maxHeartbeats 4000000 in
theorem s_M_divisor_b4 {g : GP} {l : Launch} {r : Nat → Nat} {X : va_W} {G : GT} {v9 : Int32} {s9 : RS} (hG : IsG g l yX12_divisor cX12_divisor 5 { frames := 0, cells := 0, slots := 0, locals := 0 } G) (K : ∀ L pc, decode cX12_divisor pc = .ok (.ireturn, 1) → G 0 0 (wR g r s9 X) L pc [.int v9]) : ∀ (n : Nat) (x2 : Int32) (x3 : Int32) (σ : RS) (h : M_divisor_b4  n x2 x3 σ = some (v9, s9)), G 0 0 (wR g r σ X) [(2, .int x2), (3, .int x3)] 4 [] := by
  intro n
  induction n with
  | zero => intro _ _ σ h; cases h
  | succ n ih =>
    intro x2 x3 σ h
    unfold M_divisor_b4 at h
    refine g_iload_n hG dX12_divisor_4 rfl ?_
    rcases if_some h with ⟨c1, h⟩ | ⟨c1, h⟩
    · refine g_if_eq (tgt := 21) hG dX12_divisor_5 rfl (fun _ => ?_) (fun q => absurd c1 q)
      refine g_iload_n hG dX12_divisor_21 rfl ?_
      cases h
      exact K _ _ dX12_divisor_22
    · refine g_if_eq (tgt := 21) hG dX12_divisor_5 rfl (fun q => absurd q c1) (fun _ => ?_)
      refine g_iload_n hG dX12_divisor_8 rfl ?_
      refine g_iload_n hG dX12_divisor_9 rfl ?_
      obtain ⟨b2, h⟩ := gd_some h
      refine g_irm hG dX12_divisor_10 (nz_ne b2) ?_
      obtain ⟨v3, e4, h⟩ := lt_ex h
      refine g_nam e4 ?_
      refine g_istore hG dX12_divisor_11 (by decide) ?_
      refine g_iload_n hG dX12_divisor_13 rfl ?_
      refine g_istore_n hG dX12_divisor_14 (by decide) ?_
      refine g_iload hG dX12_divisor_15 rfl ?_
      refine g_istore_n hG dX12_divisor_17 (by decide) ?_
      refine g_goto (tgt := 4) hG dX12_divisor_18 rfl ?_
      refine g_loc hG [(2, .int x3), (3, .int v3)] ⟨rfl, rfl, trivial⟩ ?_
      exact ih _ _ _ h
def M_divisor (x0 : Int32) (x1 : Int32) (σ : RS) : Option (Int32 × RS) := (M_divisor_b4  FU x0 x1 σ)
set_option maxRecDepth 100000 in
set_option maxHeartbeats 4000000 in
theorem c_M_divisor {g : GP} {l : Launch} {r : Nat → Nat} {X : va_W} {v9 : Int32} {s9 : RS} {x0 : Int32} {x1 : Int32} {σ : RS} (h : M_divisor x0 x1 σ = some (v9, s9)) : CI g l yX12_divisor cX12_divisor 5 (some .int) { frames := 0, cells := 0, slots := 0, locals := 0 } [.int x0, .int x1] (wR g r σ X) (fun r0 w => r0 = v9 ∧ w = wR g r s9 X) := by
  refine CI.mk (by decide) (Nat.le_of_ble_eq_true rfl) (fun G hG hret => ?_)
  have K : ∀ L pc, decode cX12_divisor pc = .ok (.ireturn, 1) → G 0 0 (wR g r s9 X) L pc [.int v9] := fun L pc d => hret _ L pc v9 d rfl ⟨rfl, rfl⟩
  unfold M_divisor at h
  refine g_iload_n hG dX12_divisor_0 rfl ?_
  refine g_istore_n hG dX12_divisor_1 (by decide) ?_
  refine g_iload_n hG dX12_divisor_2 rfl ?_
  refine g_istore_n hG dX12_divisor_3 (by decide) ?_
  refine g_loc hG [(2, .int x0), (3, .int x1)] ⟨rfl, rfl, trivial⟩ ?_
  exact s_M_divisor_b4  hG K FU _ _ _ h
def M_odds_b64 : Nat → Int32 → Int32 → Int32 → Int32 → Int32 → Int32 → RS → Option (Int32 × RS)
  | 0, _, _, _, _, _, _, _ => none
  | n + 1, x1, x2, x3, x4, x5, x6, σ => (if (10 : Int32) ≤ x6 then (ob (M_divisor x5 (10 : Int32) σ) fun v33 σ34 => (if x4 = 0 then (gd (nz v33) (some ((x5 / v33), σ34))) else (gd (nz v33) (some (((10 : Int32) / v33), σ34))))) else (lt (ra σ 0 (upd (σ.2 0) 7 x6)) fun σ39 => (ob (M_passes x3 σ39) fun v41 σ42 => (ob (M_its x1 (2 : Int32) σ42) fun v44 σ45 => (lt (x5 + (if x2 ≤ v44 then (0 : Int32) else (1 : Int32))) fun v49 => (ob (M_moveAll 2 0 σ45) fun v51 σ52 => ((M_odds_b64  n) x1 x2 x3 x4 v49 (x6 + (1 : Int32)) σ52)))))))
set_option maxRecDepth 100000 in
set_option maxHeartbeats 4000000 in
theorem s_M_odds_b64 {g : GP} {l : Launch} {r : Nat → Nat} {X : va_W} {G : GT} {v9 : Int32} {s9 : RS} (hG : IsG g l yX12_odds cX12_odds 7 { frames := 59, cells := 0, slots := 0, locals := 1341 } G) (K : ∀ L pc, decode cX12_odds pc = .ok (.ireturn, 1) → G 0 0 (wR g r s9 X) L pc [.int v9]) : ∀ (n : Nat) (x1 : Int32) (x2 : Int32) (x3 : Int32) (x4 : Int32) (x5 : Int32) (x6 : Int32) (σ : RS) (h : M_odds_b64  n x1 x2 x3 x4 x5 x6 σ = some (v9, s9)), G 0 0 (wR g r σ X) [(0, .ref (r 25)), (1, .int x1), (2, .int x2), (3, .int x3), (4, .int x4), (5, .int x5), (6, .int x6)] 64 [] := by
  intro n
  induction n with
  | zero => intro _ _ _ _ _ _ σ h; cases h
  | succ n ih =>
    intro x1 x2 x3 x4 x5 x6 σ h
    unfold M_odds_b64 at h
    refine g_iload hG dX12_odds_64 rfl ?_
    refine g_bipushv hG dX12_odds_66 kb_10 ?_
    rcases if_some h with ⟨c32, h⟩ | ⟨c32, h⟩
    · refine g_icmp_ge (tgt := 123) hG dX12_odds_68 rfl (fun _ => ?_) (fun q => absurd c32 q)
      refine g_iload hG dX12_odds_123 rfl ?_
      refine g_bipushv hG dX12_odds_125 kb_10 ?_
      obtain ⟨v33, σ34, q35, h⟩ := ob_some h
      refine g_cS hG dX12_odds_127 (c_M_divisor q35) b_X12_divisor v_X12_209 rfl ⟨Nat.le_of_ble_eq_true rfl, Nat.le_of_ble_eq_true rfl⟩ ⟨rfl, rfl⟩ ⟨Nat.zero_le _, Nat.zero_le _⟩ _ rfl (Nat.le_of_ble_eq_true rfl) ?_
      refine g_istore hG dX12_odds_130 (by decide) ?_
      refine g_iload hG dX12_odds_132 rfl ?_
      rcases if_some h with ⟨c36, h⟩ | ⟨c36, h⟩
      · refine g_if_ne (tgt := 145) hG dX12_odds_134 rfl (fun q => absurd c36 q) (fun _ => ?_)
        refine g_iload hG dX12_odds_137 rfl ?_
        refine g_iload hG dX12_odds_139 rfl ?_
        obtain ⟨b37, h⟩ := gd_some h
        refine g_idiv hG dX12_odds_141 (nz_ne b37) ?_
        refine g_goto (tgt := 150) hG dX12_odds_142 rfl ?_
        cases h
        exact K _ _ dX12_odds_150
      · refine g_if_ne (tgt := 145) hG dX12_odds_134 rfl (fun _ => ?_) (fun q => absurd q c36)
        refine g_bipushv hG dX12_odds_145 kb_10 ?_
        refine g_iload hG dX12_odds_147 rfl ?_
        obtain ⟨b38, h⟩ := gd_some h
        refine g_idiv hG dX12_odds_149 (nz_ne b38) ?_
        cases h
        exact K _ _ dX12_odds_150
    · refine g_icmp_ge (tgt := 123) hG dX12_odds_68 rfl (fun q => absurd q c32) (fun _ => ?_)
      refine g_aload_n hG dX12_odds_71 rfl ?_
      refine r_get 0 hG dX12_odds_72 f_X12_7 (by decide) rfl ?_
      refine g_bipushv hG dX12_odds_75 kb_7 ?_
      refine g_iload hG dX12_odds_77 rfl ?_
      obtain ⟨σ39, e40, h⟩ := lt_ex h
      refine r_iast 1 0 240 hG e40 dX12_odds_79 rfl (by decide) (by decide : Int32.toNatClampNeg (7 : Int32) = 7) rfl ?_
      refine g_aload_n hG dX12_odds_80 rfl ?_
      refine g_iload_n hG dX12_odds_81 rfl ?_
      obtain ⟨v41, σ42, q43, h⟩ := ob_some h
      refine g_cVv hG dX12_odds_82 (c_M_passes q43) b_X12_passes v_X12_175 rfl (k := 0) rfl rfl ⟨Nat.le_of_ble_eq_true rfl, Nat.le_of_ble_eq_true rfl⟩ ⟨rfl, rfl⟩ ⟨Nat.zero_le _, Nat.zero_le _⟩ _ rfl (Nat.le_of_ble_eq_true rfl) ?_
      refine g_iload hG dX12_odds_85 rfl ?_
      refine g_aload_n hG dX12_odds_87 rfl ?_
      refine g_iload_n hG dX12_odds_88 rfl ?_
      refine g_iconstv hG dX12_odds_89 ki_2 ?_
      obtain ⟨v44, σ45, q46, h⟩ := ob_some h
      refine g_cV hG dX12_odds_90 (c_M_its q46) b_X12_its v_X12_59 rfl (k := 0) rfl rfl ⟨Nat.le_of_ble_eq_true rfl, Nat.le_of_ble_eq_true rfl⟩ ⟨rfl, rfl⟩ ⟨Nat.zero_le _, Nat.zero_le _⟩ _ rfl (Nat.le_of_ble_eq_true rfl) ?_
      refine g_iload_n hG dX12_odds_93 rfl ?_
      refine g_dia2 (if x2 ≤ v44 then (0 : Int32) else (1 : Int32)) 102 (fun J47 => ?_) ?_
      · by_cases c48 : x2 ≤ v44
        · refine g_icmp_ge (tgt := 101) hG dX12_odds_94 rfl (fun _ => ?_) (fun q => absurd c48 q)
          refine g_iconstv hG dX12_odds_101 ki_0 ?_
          rw [if_pos c48] at J47
          exact J47
        · refine g_icmp_ge (tgt := 101) hG dX12_odds_94 rfl (fun q => absurd q c48) (fun _ => ?_)
          refine g_iconstv hG dX12_odds_97 ki_1 ?_
          refine g_goto (tgt := 102) hG dX12_odds_98 rfl ?_
          rw [if_neg c48] at J47
          exact J47
      refine g_iadd hG dX12_odds_102 ?_
      obtain ⟨v49, e50, h⟩ := lt_ex h
      refine g_nam e50 ?_
      refine g_istore hG dX12_odds_103 (by decide) ?_
      refine g_aload_n hG dX12_odds_105 rfl ?_
      refine g_aload_n hG dX12_odds_106 rfl ?_
      refine r_get 2 hG dX12_odds_107 f_X12_16 (by decide) rfl ?_
      refine g_aload_n hG dX12_odds_110 rfl ?_
      refine r_get 0 hG dX12_odds_111 f_X12_7 (by decide) rfl ?_
      obtain ⟨v51, σ52, q53, h⟩ := ob_some h
      refine g_cVv hG dX12_odds_114 (c_M_moveAll (by decide) (by decide) (by decide) q53) b_X12_moveAll v_X12_150 rfl (k := 0) rfl rfl ⟨Nat.le_of_ble_eq_true rfl, Nat.le_of_ble_eq_true rfl⟩ ⟨rfl, rfl⟩ ⟨Nat.zero_le _, Nat.zero_le _⟩ _ rfl (Nat.le_of_ble_eq_true rfl) ?_
      refine g_iincv (c := (1 : Int32)) hG dX12_odds_117 rfl (by decide) (by decide) ?_
      refine g_goto (tgt := 64) hG dX12_odds_120 rfl ?_
      refine g_loc hG [(0, .ref (r 25)), (1, .int x1), (2, .int x2), (3, .int x3), (4, .int x4), (5, .int v49), (6, .int (x6 + (1 : Int32)))] ⟨rfl, rfl, rfl, rfl, rfl, rfl, rfl, trivial⟩ ?_
      exact ih _ _ _ _ _ _ _ h
def M_odds (x1 : Int32) (x2 : Int32) (x3 : Int32) (x4 : Int32) (σ : RS) : Option (Int32 × RS) := (ob (M_isYard x1 σ) fun v1 σ2 => (if v1 = 0 then (ob (M_errs (-1000000001 : Int32) σ2) fun v5 σ6 => (some (v5, σ6))) else (ob (M_in x2 (1 : Int32) (999 : Int32) σ2) fun v8 σ9 => (if v8 = 0 then (ob (M_errs (-1000000001 : Int32) σ9) fun v12 σ13 => (some (v12, σ13))) else (ob (M_in x3 (0 : Int32) (60 : Int32) σ9) fun v15 σ16 => (if v15 = 0 then (ob (M_errs (-1000000001 : Int32) σ16) fun v19 σ20 => (some (v19, σ20))) else (ob (M_in x4 (0 : Int32) (1 : Int32) σ16) fun v22 σ23 => (if v22 = 0 then (ob (M_errs (-1000000001 : Int32) σ23) fun v26 σ27 => (some (v26, σ27))) else (ob (M_moveAll 0 2 σ23) fun v29 σ30 => (M_odds_b64  FU x1 x2 x3 x4 (0 : Int32) (0 : Int32) σ30))))))))))
set_option maxRecDepth 100000 in
set_option maxHeartbeats 4000000 in
theorem c_M_odds {g : GP} {l : Launch} {r : Nat → Nat} {X : va_W} {v9 : Int32} {s9 : RS} {x1 : Int32} {x2 : Int32} {x3 : Int32} {x4 : Int32} {σ : RS} (h : M_odds x1 x2 x3 x4 σ = some (v9, s9)) : CI g l yX12_odds cX12_odds 7 (some .int) { frames := 59, cells := 0, slots := 0, locals := 1341 } [.ref (r 25), .int x1, .int x2, .int x3, .int x4] (wR g r σ X) (fun r0 w => r0 = v9 ∧ w = wR g r s9 X) := by
  refine CI.mk (by decide) (Nat.le_of_ble_eq_true rfl) (fun G hG hret => ?_)
  have K : ∀ L pc, decode cX12_odds pc = .ok (.ireturn, 1) → G 0 0 (wR g r s9 X) L pc [.int v9] := fun L pc d => hret _ L pc v9 d rfl ⟨rfl, rfl⟩
  unfold M_odds at h
  refine g_aload_n hG dX12_odds_0 rfl ?_
  refine g_iload_n hG dX12_odds_1 rfl ?_
  obtain ⟨v1, σ2, q3, h⟩ := ob_some h
  refine g_cV hG dX12_odds_2 (c_M_isYard q3) b_X12_isYard v_X12_55 rfl (k := 0) rfl rfl ⟨Nat.le_of_ble_eq_true rfl, Nat.le_of_ble_eq_true rfl⟩ ⟨rfl, rfl⟩ ⟨Nat.zero_le _, Nat.zero_le _⟩ _ rfl (Nat.le_of_ble_eq_true rfl) ?_
  rcases if_some h with ⟨c4, h⟩ | ⟨c4, h⟩
  · refine g_if_eq (tgt := 39) hG dX12_odds_5 rfl (fun _ => ?_) (fun q => absurd c4 q)
    refine g_aload_n hG dX12_odds_39 rfl ?_
    refine g_ldc hG dX12_odds_40 k_X12_45 ?_
    obtain ⟨v5, σ6, q7, h⟩ := ob_some h
    refine g_cV hG dX12_odds_42 (c_M_errs q7) b_X12_errs v_X12_46 rfl (k := 0) rfl rfl ⟨Nat.le_of_ble_eq_true rfl, Nat.le_of_ble_eq_true rfl⟩ ⟨rfl, rfl⟩ ⟨Nat.zero_le _, Nat.zero_le _⟩ _ rfl (Nat.le_of_ble_eq_true rfl) ?_
    cases h
    exact K _ _ dX12_odds_45
  · refine g_if_eq (tgt := 39) hG dX12_odds_5 rfl (fun q => absurd q c4) (fun _ => ?_)
    refine g_iload_n hG dX12_odds_8 rfl ?_
    refine g_iconstv hG dX12_odds_9 ki_1 ?_
    refine g_sipushv hG dX12_odds_10 ks_999 ?_
    obtain ⟨v8, σ9, q10, h⟩ := ob_some h
    refine g_cS hG dX12_odds_13 (c_M_in q10) b_X12_in v_X12_41 rfl ⟨Nat.le_of_ble_eq_true rfl, Nat.le_of_ble_eq_true rfl⟩ ⟨rfl, rfl⟩ ⟨Nat.zero_le _, Nat.zero_le _⟩ _ rfl (Nat.le_of_ble_eq_true rfl) ?_
    rcases if_some h with ⟨c11, h⟩ | ⟨c11, h⟩
    · refine g_if_eq (tgt := 39) hG dX12_odds_16 rfl (fun _ => ?_) (fun q => absurd c11 q)
      refine g_aload_n hG dX12_odds_39 rfl ?_
      refine g_ldc hG dX12_odds_40 k_X12_45 ?_
      obtain ⟨v12, σ13, q14, h⟩ := ob_some h
      refine g_cV hG dX12_odds_42 (c_M_errs q14) b_X12_errs v_X12_46 rfl (k := 0) rfl rfl ⟨Nat.le_of_ble_eq_true rfl, Nat.le_of_ble_eq_true rfl⟩ ⟨rfl, rfl⟩ ⟨Nat.zero_le _, Nat.zero_le _⟩ _ rfl (Nat.le_of_ble_eq_true rfl) ?_
      cases h
      exact K _ _ dX12_odds_45
    · refine g_if_eq (tgt := 39) hG dX12_odds_16 rfl (fun q => absurd q c11) (fun _ => ?_)
      refine g_iload_n hG dX12_odds_19 rfl ?_
      refine g_iconstv hG dX12_odds_20 ki_0 ?_
      refine g_bipushv hG dX12_odds_21 kb_60 ?_
      obtain ⟨v15, σ16, q17, h⟩ := ob_some h
      refine g_cS hG dX12_odds_23 (c_M_in q17) b_X12_in v_X12_41 rfl ⟨Nat.le_of_ble_eq_true rfl, Nat.le_of_ble_eq_true rfl⟩ ⟨rfl, rfl⟩ ⟨Nat.zero_le _, Nat.zero_le _⟩ _ rfl (Nat.le_of_ble_eq_true rfl) ?_
      rcases if_some h with ⟨c18, h⟩ | ⟨c18, h⟩
      · refine g_if_eq (tgt := 39) hG dX12_odds_26 rfl (fun _ => ?_) (fun q => absurd c18 q)
        refine g_aload_n hG dX12_odds_39 rfl ?_
        refine g_ldc hG dX12_odds_40 k_X12_45 ?_
        obtain ⟨v19, σ20, q21, h⟩ := ob_some h
        refine g_cV hG dX12_odds_42 (c_M_errs q21) b_X12_errs v_X12_46 rfl (k := 0) rfl rfl ⟨Nat.le_of_ble_eq_true rfl, Nat.le_of_ble_eq_true rfl⟩ ⟨rfl, rfl⟩ ⟨Nat.zero_le _, Nat.zero_le _⟩ _ rfl (Nat.le_of_ble_eq_true rfl) ?_
        cases h
        exact K _ _ dX12_odds_45
      · refine g_if_eq (tgt := 39) hG dX12_odds_26 rfl (fun q => absurd q c18) (fun _ => ?_)
        refine g_iload hG dX12_odds_29 rfl ?_
        refine g_iconstv hG dX12_odds_31 ki_0 ?_
        refine g_iconstv hG dX12_odds_32 ki_1 ?_
        obtain ⟨v22, σ23, q24, h⟩ := ob_some h
        refine g_cS hG dX12_odds_33 (c_M_in q24) b_X12_in v_X12_41 rfl ⟨Nat.le_of_ble_eq_true rfl, Nat.le_of_ble_eq_true rfl⟩ ⟨rfl, rfl⟩ ⟨Nat.zero_le _, Nat.zero_le _⟩ _ rfl (Nat.le_of_ble_eq_true rfl) ?_
        rcases if_some h with ⟨c25, h⟩ | ⟨c25, h⟩
        · refine g_if_ne (tgt := 46) hG dX12_odds_36 rfl (fun q => absurd c25 q) (fun _ => ?_)
          refine g_aload_n hG dX12_odds_39 rfl ?_
          refine g_ldc hG dX12_odds_40 k_X12_45 ?_
          obtain ⟨v26, σ27, q28, h⟩ := ob_some h
          refine g_cV hG dX12_odds_42 (c_M_errs q28) b_X12_errs v_X12_46 rfl (k := 0) rfl rfl ⟨Nat.le_of_ble_eq_true rfl, Nat.le_of_ble_eq_true rfl⟩ ⟨rfl, rfl⟩ ⟨Nat.zero_le _, Nat.zero_le _⟩ _ rfl (Nat.le_of_ble_eq_true rfl) ?_
          cases h
          exact K _ _ dX12_odds_45
        · refine g_if_ne (tgt := 46) hG dX12_odds_36 rfl (fun _ => ?_) (fun q => absurd q c25)
          refine g_iconstv hG dX12_odds_46 ki_0 ?_
          refine g_istore hG dX12_odds_47 (by decide) ?_
          refine g_aload_n hG dX12_odds_49 rfl ?_
          refine g_aload_n hG dX12_odds_50 rfl ?_
          refine r_get 0 hG dX12_odds_51 f_X12_7 (by decide) rfl ?_
          refine g_aload_n hG dX12_odds_54 rfl ?_
          refine r_get 2 hG dX12_odds_55 f_X12_16 (by decide) rfl ?_
          obtain ⟨v29, σ30, q31, h⟩ := ob_some h
          refine g_cVv hG dX12_odds_58 (c_M_moveAll (by decide) (by decide) (by decide) q31) b_X12_moveAll v_X12_150 rfl (k := 0) rfl rfl ⟨Nat.le_of_ble_eq_true rfl, Nat.le_of_ble_eq_true rfl⟩ ⟨rfl, rfl⟩ ⟨Nat.zero_le _, Nat.zero_le _⟩ _ rfl (Nat.le_of_ble_eq_true rfl) ?_
          refine g_iconstv hG dX12_odds_61 ki_0 ?_
          refine g_istore hG dX12_odds_62 (by decide) ?_
          refine g_loc hG [(0, .ref (r 25)), (1, .int x1), (2, .int x2), (3, .int x3), (4, .int x4), (5, .int (0 : Int32)), (6, .int (0 : Int32))] ⟨rfl, rfl, rfl, rfl, rfl, rfl, rfl, trivial⟩ ?_
          exact s_M_odds_b64  hG K FU _ _ _ _ _ _ _ h
def M_seed (x1 : Int32) (σ : RS) : Option (Int32 × RS) := (lt (σ.2 0 1) fun v1 => (lt (ra σ 0 (upd (σ.2 0) 1 x1)) fun σ3 => (some (v1, σ3))))
set_option maxRecDepth 100000 in
set_option maxHeartbeats 4000000 in
theorem c_M_seed {g : GP} {l : Launch} {r : Nat → Nat} {X : va_W} {v9 : Int32} {s9 : RS} {x1 : Int32} {σ : RS} (h : M_seed x1 σ = some (v9, s9)) : CI g l yX12_seed cX12_seed 3 (some .int) { frames := 0, cells := 0, slots := 0, locals := 0 } [.ref (r 25), .int x1] (wR g r σ X) (fun r0 w => r0 = v9 ∧ w = wR g r s9 X) := by
  refine CI.mk (by decide) (Nat.le_of_ble_eq_true rfl) (fun G hG hret => ?_)
  have K : ∀ L pc, decode cX12_seed pc = .ok (.ireturn, 1) → G 0 0 (wR g r s9 X) L pc [.int v9] := fun L pc d => hret _ L pc v9 d rfl ⟨rfl, rfl⟩
  unfold M_seed at h
  refine g_aload_n hG dX12_seed_0 rfl ?_
  refine r_get 0 hG dX12_seed_1 f_X12_7 (by decide) rfl ?_
  refine g_iconstv hG dX12_seed_4 ki_1 ?_
  refine r_iald 1 0 240 hG dX12_seed_5 rfl (by decide) (by decide : Int32.toNatClampNeg (1 : Int32) = 1) ?_
  obtain ⟨v1, e2, h⟩ := lt_ex h
  refine g_nam e2 ?_
  refine g_istore_n hG dX12_seed_6 (by decide) ?_
  refine g_aload_n hG dX12_seed_7 rfl ?_
  refine r_get 0 hG dX12_seed_8 f_X12_7 (by decide) rfl ?_
  refine g_iconstv hG dX12_seed_11 ki_1 ?_
  refine g_iload_n hG dX12_seed_12 rfl ?_
  obtain ⟨σ3, e4, h⟩ := lt_ex h
  refine r_iast 1 0 240 hG e4 dX12_seed_13 rfl (by decide) (by decide : Int32.toNatClampNeg (1 : Int32) = 1) rfl ?_
  refine g_iload_n hG dX12_seed_14 rfl ?_
  cases h
  exact K _ _ dX12_seed_15
