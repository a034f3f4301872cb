def M_falling_b158 (x3 : Int32) (σ : RS) : Option (Int32 × RS) := (some ((if 0 ≤ x3 then x3 else (0 : Int32)), σ))
set_option maxRecDepth 100000 in
set_option maxHeartbeats 4000000 in
theorem s_M_falling_b158 {g : GP} {l : Launch} {r : Nat → Nat} {X : va_W} {G : GT} {v9 : Int32} {s9 : RS} (hG : IsG g l yX12_falling cX12_falling 4 { frames := 56, cells := 0, slots := 0, locals := 1274 } G) (K : ∀ L pc, decode cX12_falling pc = .ok (.ireturn, 1) → G 0 0 (wR g r s9 X) L pc [.int v9]) {x3 : Int32} {σ : RS} (h : M_falling_b158  x3 σ = some (v9, s9)) : G 0 0 (wR g r σ X) [(3, .int x3)] 158 [] := by
  unfold M_falling_b158 at h
  refine g_iload_n hG dX12_falling_158 rfl ?_
  refine g_dia1 (if 0 ≤ x3 then x3 else (0 : Int32)) 167 (fun J16 => ?_) ?_
  · by_cases c17 : 0 ≤ x3
    · refine g_if_ge (tgt := 166) hG dX12_falling_159 rfl (fun _ => ?_) (fun q => absurd c17 q)
      refine g_iload_n hG dX12_falling_166 rfl ?_
      rw [if_pos c17] at J16
      exact J16
    · refine g_if_ge (tgt := 166) hG dX12_falling_159 rfl (fun q => absurd q c17) (fun _ => ?_)
      refine g_iconstv hG dX12_falling_162 ki_0 ?_
      refine g_goto (tgt := 167) hG dX12_falling_163 rfl ?_
      rw [if_neg c17] at J16
      exact J16
  cases h
  exact K _ _ dX12_falling_167
def M_falling_b122 (s0 : Int32) (σ : RS) : Option (Int32 × RS) := (M_falling_b158  s0 σ)
set_option maxRecDepth 100000 in
set_option maxHeartbeats 4000000 in
theorem s_M_falling_b122 {g : GP} {l : Launch} {r : Nat → Nat} {X : va_W} {G : GT} {v9 : Int32} {s9 : RS} (hG : IsG g l yX12_falling cX12_falling 4 { frames := 56, cells := 0, slots := 0, locals := 1274 } G) (K : ∀ L pc, decode cX12_falling pc = .ok (.ireturn, 1) → G 0 0 (wR g r s9 X) L pc [.int v9]) {s0 : Int32} {σ : RS} (h : M_falling_b122  s0 σ = some (v9, s9)) : G 0 0 (wR g r σ X) [] 122 [.int s0] := by
  unfold M_falling_b122 at h
  refine g_istore_n hG dX12_falling_122 (by decide) ?_
  refine g_goto (tgt := 158) hG dX12_falling_123 rfl ?_
  refine g_loc hG [(3, .int s0)] ⟨rfl, trivial⟩ ?_
  exact s_M_falling_b158  hG K  h
def M_falling (x1 : Int32) (σ : RS) : Option (Int32 × RS) := (ob (M_its x1 (1 : Int32) σ) fun v1 σ2 => (ob (M_its x1 (2 : Int32) σ2) fun v4 σ5 => (ob (M_lawOf (0 : Int32) x1 (irm (σ2.2 0 0) (30 : Int32)) v4 σ5) fun v7 σ8 => (ob (M_its x1 (0 : Int32) σ8) fun v10 σ11 => (if v10 = (1 : Int32) then (lt (v7 - (irm v1 (3 : Int32))) fun v14 => (M_falling_b158  v14 σ11)) else (if v10 = (2 : Int32) then (lt (v7 / (2 : Int32)) fun v19 => (M_falling_b158  v19 σ11)) else (if v10 = (3 : Int32) then (ob (M_its x1 (3 : Int32) σ11) fun v22 σ23 => (lt (v7 + v22) fun v25 => (M_falling_b158  v25 σ23))) else (if v10 = (4 : Int32) then (lt ((2 : Int32) * (v7 - (irm v1 (3 : Int32)))) fun v28 => (M_falling_b158  v28 σ11)) else (if v10 = (5 : Int32) then (if (irm (σ11.2 0 0) (7 : Int32)) = 0 then (M_falling_b122  ((v7 / (2 : Int32)) + v1) σ11) else (M_falling_b122  (v7 / (2 : Int32)) σ11)) else (if v10 = (6 : Int32) then (ob (M_its x1 (3 : Int32) σ11) fun v33 σ34 => (lt (v7 + (v33 + (σ34.2 0 7))) fun v36 => (M_falling_b158  v36 σ34))) else (M_falling_b158  v7 σ11)))))))))))
set_option maxRecDepth 100000 in
set_option maxHeartbeats 4000000 in
theorem c_M_falling {g : GP} {l : Launch} {r : Nat → Nat} {X : va_W} {v9 : Int32} {s9 : RS} {x1 : Int32} {σ : RS} (h : M_falling x1 σ = some (v9, s9)) : CI g l yX12_falling cX12_falling 4 (some .int) { frames := 56, cells := 0, slots := 0, locals := 1274 } [.ref (r 25), .int x1] (wR g r σ X) (fun r0 w => r0 = v9 ∧ w = wR g r s9 X) := by
  refine CI.mk (by decide) (Nat.le_of_ble_eq_true rfl) (fun G hG hret => ?_)
  have K : ∀ L pc, decode cX12_falling pc = .ok (.ireturn, 1) → G 0 0 (wR g r s9 X) L pc [.int v9] := fun L pc d => hret _ L pc v9 d rfl ⟨rfl, rfl⟩
  unfold M_falling at h
  refine g_aload_n hG dX12_falling_0 rfl ?_
  refine g_iload_n hG dX12_falling_1 rfl ?_
  refine g_iconstv hG dX12_falling_2 ki_1 ?_
  obtain ⟨v1, σ2, q3, h⟩ := ob_some h
  refine g_cV hG dX12_falling_3 (c_M_its q3) b_X12_its v_X12_59 rfl (k := 0) rfl rfl ⟨Nat.le_of_ble_eq_true rfl, Nat.le_of_ble_eq_true rfl⟩ ⟨rfl, rfl⟩ ⟨Nat.zero_le _, Nat.zero_le _⟩ _ rfl (Nat.le_of_ble_eq_true rfl) ?_
  refine g_istore_n hG dX12_falling_6 (by decide) ?_
  refine g_aload_n hG dX12_falling_7 rfl ?_
  refine g_iconstv hG dX12_falling_8 ki_0 ?_
  refine g_iload_n hG dX12_falling_9 rfl ?_
  refine g_aload_n hG dX12_falling_10 rfl ?_
  refine r_get 0 hG dX12_falling_11 f_X12_7 (by decide) rfl ?_
  refine g_iconstv hG dX12_falling_14 ki_0 ?_
  refine r_iald 1 0 240 hG dX12_falling_15 rfl (by decide) (by decide : Int32.toNatClampNeg (0 : Int32) = 0) ?_
  refine g_bipushv hG dX12_falling_16 kb_30 ?_
  refine g_irm hG dX12_falling_18 (by decide) ?_
  refine g_aload_n hG dX12_falling_19 rfl ?_
  refine g_iload_n hG dX12_falling_20 rfl ?_
  refine g_iconstv hG dX12_falling_21 ki_2 ?_
  obtain ⟨v4, σ5, q6, h⟩ := ob_some h
  refine g_cV hG dX12_falling_22 (c_M_its q6) b_X12_its v_X12_59 rfl (k := 0) rfl rfl ⟨Nat.le_of_ble_eq_true rfl, Nat.le_of_ble_eq_true rfl⟩ ⟨rfl, rfl⟩ ⟨Nat.zero_le _, Nat.zero_le _⟩ _ rfl (Nat.le_of_ble_eq_true rfl) ?_
  obtain ⟨v7, σ8, q9, h⟩ := ob_some h
  refine g_cV hG dX12_falling_25 (c_M_lawOf q9) b_X12_lawOf v_X12_145 rfl (k := 0) rfl rfl ⟨Nat.le_of_ble_eq_true rfl, Nat.le_of_ble_eq_true rfl⟩ ⟨rfl, rfl⟩ ⟨Nat.zero_le _, Nat.zero_le _⟩ _ rfl (Nat.le_of_ble_eq_true rfl) ?_
  refine g_istore_n hG dX12_falling_28 (by decide) ?_
  refine g_aload_n hG dX12_falling_29 rfl ?_
  refine g_iload_n hG dX12_falling_30 rfl ?_
  refine g_iconstv hG dX12_falling_31 ki_0 ?_
  obtain ⟨v10, σ11, q12, h⟩ := ob_some h
  refine g_cV hG dX12_falling_32 (c_M_its q12) b_X12_its v_X12_59 rfl (k := 0) rfl rfl ⟨Nat.le_of_ble_eq_true rfl, Nat.le_of_ble_eq_true rfl⟩ ⟨rfl, rfl⟩ ⟨Nat.zero_le _, Nat.zero_le _⟩ _ rfl (Nat.le_of_ble_eq_true rfl) ?_
  rcases if_some h with ⟨c13, h⟩ | ⟨c13, h⟩
  · refine g_tabC (tgt := 72) (c := (1 : Int32)) hG c13 dX12_falling_35 (by decide) (by decide) rfl rfl ?_
    refine g_iload_n hG dX12_falling_72 rfl ?_
    refine g_iload_n hG dX12_falling_73 rfl ?_
    refine g_iconstv hG dX12_falling_74 ki_3 ?_
    refine g_irm hG dX12_falling_75 (by decide) ?_
    refine g_isub hG dX12_falling_76 ?_
    obtain ⟨v14, e15, h⟩ := lt_ex h
    refine g_nam e15 ?_
    refine g_istore_n hG dX12_falling_77 (by decide) ?_
    refine g_goto (tgt := 158) hG dX12_falling_78 rfl ?_
    refine g_loc hG [(3, .int v14)] ⟨rfl, trivial⟩ ?_
    exact s_M_falling_b158  hG K  h
  ·
    rcases if_some h with ⟨c18, h⟩ | ⟨c18, h⟩
    · refine g_tabC (tgt := 92) (c := (2 : Int32)) hG c18 dX12_falling_35 (by decide) (by decide) rfl rfl ?_
      refine g_iload_n hG dX12_falling_92 rfl ?_
      refine g_iconstv hG dX12_falling_93 ki_2 ?_
      refine g_idiv hG dX12_falling_94 (by decide) ?_
      obtain ⟨v19, e20, h⟩ := lt_ex h
      refine g_nam e20 ?_
      refine g_istore_n hG dX12_falling_95 (by decide) ?_
      refine g_goto (tgt := 158) hG dX12_falling_96 rfl ?_
      refine g_loc hG [(3, .int v19)] ⟨rfl, trivial⟩ ?_
      exact s_M_falling_b158  hG K  h
    ·
      rcases if_some h with ⟨c21, h⟩ | ⟨c21, h⟩
      · refine g_tabC (tgt := 126) (c := (3 : Int32)) hG c21 dX12_falling_35 (by decide) (by decide) rfl rfl ?_
        refine g_iload_n hG dX12_falling_126 rfl ?_
        refine g_aload_n hG dX12_falling_127 rfl ?_
        refine g_iload_n hG dX12_falling_128 rfl ?_
        refine g_iconstv hG dX12_falling_129 ki_3 ?_
        obtain ⟨v22, σ23, q24, h⟩ := ob_some h
        refine g_cV hG dX12_falling_130 (c_M_its q24) b_X12_its v_X12_59 rfl (k := 0) rfl rfl ⟨Nat.le_of_ble_eq_true rfl, Nat.le_of_ble_eq_true rfl⟩ ⟨rfl, rfl⟩ ⟨Nat.zero_le _, Nat.zero_le _⟩ _ rfl (Nat.le_of_ble_eq_true rfl) ?_
        refine g_iadd hG dX12_falling_133 ?_
        obtain ⟨v25, e26, h⟩ := lt_ex h
        refine g_nam e26 ?_
        refine g_istore_n hG dX12_falling_134 (by decide) ?_
        refine g_goto (tgt := 158) hG dX12_falling_135 rfl ?_
        refine g_loc hG [(3, .int v25)] ⟨rfl, trivial⟩ ?_
        exact s_M_falling_b158  hG K  h
      ·
        rcases if_some h with ⟨c27, h⟩ | ⟨c27, h⟩
        · refine g_tabC (tgt := 81) (c := (4 : Int32)) hG c27 dX12_falling_35 (by decide) (by decide) rfl rfl ?_
          refine g_iconstv hG dX12_falling_81 ki_2 ?_
          refine g_iload_n hG dX12_falling_82 rfl ?_
          refine g_iload_n hG dX12_falling_83 rfl ?_
          refine g_iconstv hG dX12_falling_84 ki_3 ?_
          refine g_irm hG dX12_falling_85 (by decide) ?_
          refine g_isub hG dX12_falling_86 ?_
          refine g_imul hG dX12_falling_87 ?_
          obtain ⟨v28, e29, h⟩ := lt_ex h
          refine g_nam e29 ?_
          refine g_istore_n hG dX12_falling_88 (by decide) ?_
          refine g_goto (tgt := 158) hG dX12_falling_89 rfl ?_
          refine g_loc hG [(3, .int v28)] ⟨rfl, trivial⟩ ?_
          exact s_M_falling_b158  hG K  h
        ·
          rcases if_some h with ⟨c30, h⟩ | ⟨c30, h⟩
          · refine g_tabC (tgt := 99) (c := (5 : Int32)) hG c30 dX12_falling_35 (by decide) (by decide) rfl rfl ?_
            refine g_aload_n hG dX12_falling_99 rfl ?_
            refine r_get 0 hG dX12_falling_100 f_X12_7 (by decide) rfl ?_
            refine g_iconstv hG dX12_falling_103 ki_0 ?_
            refine r_iald 1 0 240 hG dX12_falling_104 rfl (by decide) (by decide : Int32.toNatClampNeg (0 : Int32) = 0) ?_
            refine g_bipushv hG dX12_falling_105 kb_7 ?_
            refine g_irm hG dX12_falling_107 (by decide) ?_
            rcases if_some h with ⟨c31, h⟩ | ⟨c31, h⟩
            · refine g_if_ne (tgt := 119) hG dX12_falling_108 rfl (fun q => absurd c31 q) (fun _ => ?_)
              refine g_iload_n hG dX12_falling_111 rfl ?_
              refine g_iconstv hG dX12_falling_112 ki_2 ?_
              refine g_idiv hG dX12_falling_113 (by decide) ?_
              refine g_iload_n hG dX12_falling_114 rfl ?_
              refine g_iadd hG dX12_falling_115 ?_
              refine g_goto (tgt := 122) hG dX12_falling_116 rfl ?_
              refine g_loc hG [] trivial ?_
              exact s_M_falling_b122  hG K  h
            · refine g_if_ne (tgt := 119) hG dX12_falling_108 rfl (fun _ => ?_) (fun q => absurd q c31)
              refine g_iload_n hG dX12_falling_119 rfl ?_
              refine g_iconstv hG dX12_falling_120 ki_2 ?_
              refine g_idiv hG dX12_falling_121 (by decide) ?_
              refine g_loc hG [] trivial ?_
              exact s_M_falling_b122  hG K  h
          ·
            rcases if_some h with ⟨c32, h⟩ | ⟨c32, h⟩
            · refine g_tabC (tgt := 138) (c := (6 : Int32)) hG c32 dX12_falling_35 (by decide) (by decide) rfl rfl ?_
              refine g_iload_n hG dX12_falling_138 rfl ?_
              refine g_aload_n hG dX12_falling_139 rfl ?_
              refine g_iload_n hG dX12_falling_140 rfl ?_
              refine g_iconstv hG dX12_falling_141 ki_3 ?_
              obtain ⟨v33, σ34, q35, h⟩ := ob_some h
              refine g_cV hG dX12_falling_142 (c_M_its q35) b_X12_its v_X12_59 rfl (k := 0) rfl rfl ⟨Nat.le_of_ble_eq_true rfl, Nat.le_of_ble_eq_true rfl⟩ ⟨rfl, rfl⟩ ⟨Nat.zero_le _, Nat.zero_le _⟩ _ rfl (Nat.le_of_ble_eq_true rfl) ?_
              refine g_aload_n hG dX12_falling_145 rfl ?_
              refine r_get 0 hG dX12_falling_146 f_X12_7 (by decide) rfl ?_
              refine g_bipushv hG dX12_falling_149 kb_7 ?_
              refine r_iald 1 0 240 hG dX12_falling_151 rfl (by decide) (by decide : Int32.toNatClampNeg (7 : Int32) = 7) ?_
              refine g_iadd hG dX12_falling_152 ?_
              refine g_iadd hG dX12_falling_153 ?_
              obtain ⟨v36, e37, h⟩ := lt_ex h
              refine g_nam e37 ?_
              refine g_istore_n hG dX12_falling_154 (by decide) ?_
              refine g_goto (tgt := 158) hG dX12_falling_155 rfl ?_
              refine g_loc hG [(3, .int v36)] ⟨rfl, trivial⟩ ?_
              exact s_M_falling_b158  hG K  h
            ·
              refine g_tableOut (tgt := 158) hG dX12_falling_35 (by have n0 := i32ne c13 (n := 1) (by decide); have n1 := i32ne c18 (n := 2) (by decide); have n2 := i32ne c21 (n := 3) (by decide); have n3 := i32ne c27 (n := 4) (by decide); have n4 := i32ne c30 (n := 5) (by decide); have n5 := i32ne c32 (n := 6) (by decide); omega) rfl ?_
              refine g_loc hG [(3, .int v7)] ⟨rfl, trivial⟩ ?_
              exact s_M_falling_b158  hG K  h
def M_taken_b96 (x2 : Int32) (σ : RS) : Option (Int32 × RS) := (some ((if (50 : Int32) ≤ x2 then (50 : Int32) else x2), σ))
set_option maxRecDepth 100000 in
set_option maxHeartbeats 4000000 in
theorem s_M_taken_b96 {g : GP} {l : Launch} {r : Nat → Nat} {X : va_W} {G : GT} {v9 : Int32} {s9 : RS} (hG : IsG g l yX12_taken cX12_taken 4 { frames := 1, cells := 0, slots := 0, locals := 22 } G) (K : ∀ L pc, decode cX12_taken pc = .ok (.ireturn, 1) → G 0 0 (wR g r s9 X) L pc [.int v9]) {x2 : Int32} {σ : RS} (h : M_taken_b96  x2 σ = some (v9, s9)) : G 0 0 (wR g r σ X) [(2, .int x2)] 96 [] := by
  unfold M_taken_b96 at h
  refine g_iload_n hG dX12_taken_96 rfl ?_
  refine g_bipushv hG dX12_taken_97 kb_50 ?_
  refine g_dia2 (if (50 : Int32) ≤ x2 then (50 : Int32) else x2) 108 (fun J12 => ?_) ?_
  · by_cases c13 : (50 : Int32) ≤ x2
    · refine g_icmp_ge (tgt := 106) hG dX12_taken_99 rfl (fun _ => ?_) (fun q => absurd c13 q)
      refine g_bipushv hG dX12_taken_106 kb_50 ?_
      rw [if_pos c13] at J12
      exact J12
    · refine g_icmp_ge (tgt := 106) hG dX12_taken_99 rfl (fun q => absurd q c13) (fun _ => ?_)
      refine g_iload_n hG dX12_taken_102 rfl ?_
      refine g_goto (tgt := 108) hG dX12_taken_103 rfl ?_
      rw [if_neg c13] at J12
      exact J12
  cases h
  exact K _ _ dX12_taken_108
def M_taken (x1 : Int32) (σ : RS) : Option (Int32 × RS) := (ob (M_its x1 (2 : Int32) σ) fun v1 σ2 => (lt (v1 - (irm v1 (2 : Int32))) fun v4 => (ob (M_its x1 (0 : Int32) σ2) fun v6 σ7 => (if v6 = (1 : Int32) then (some (v4, σ7)) else (if v6 = (2 : Int32) then (some ((v1 / (2 : Int32)), σ7)) else (if v6 = (3 : Int32) then (M_taken_b96  v1 σ7) else (if v6 = (4 : Int32) then (some ((if (99 : Int32) ≤ v4 then (99 : Int32) else v4), σ7)) else (if v6 = (5 : Int32) then (if v1 ≤ ((v1 / (2 : Int32)) + (10 : Int32)) then (some (v1, σ7)) else (some (((v1 / (2 : Int32)) + (10 : Int32)), σ7))) else (if v6 = (6 : Int32) then (M_taken_b96  v1 σ7) else (some (v1, σ7)))))))))))
set_option maxRecDepth 100000 in
set_option maxHeartbeats 4000000 in
theorem c_M_taken {g : GP} {l : Launch} {r : Nat → Nat} {X : va_W} {v9 : Int32} {s9 : RS} {x1 : Int32} {σ : RS} (h : M_taken x1 σ = some (v9, s9)) : CI g l yX12_taken cX12_taken 4 (some .int) { frames := 1, cells := 0, slots := 0, locals := 22 } [.ref (r 25), .int x1] (wR g r σ X) (fun r0 w => r0 = v9 ∧ w = wR g r s9 X) := by
  refine CI.mk (by decide) (Nat.le_of_ble_eq_true rfl) (fun G hG hret => ?_)
  have K : ∀ L pc, decode cX12_taken pc = .ok (.ireturn, 1) → G 0 0 (wR g r s9 X) L pc [.int v9] := fun L pc d => hret _ L pc v9 d rfl ⟨rfl, rfl⟩
  unfold M_taken at h
  refine g_aload_n hG dX12_taken_0 rfl ?_
  refine g_iload_n hG dX12_taken_1 rfl ?_
  refine g_iconstv hG dX12_taken_2 ki_2 ?_
  obtain ⟨v1, σ2, q3, h⟩ := ob_some h
  refine g_cV hG dX12_taken_3 (c_M_its q3) b_X12_its v_X12_59 rfl (k := 0) rfl rfl ⟨Nat.le_of_ble_eq_true rfl, Nat.le_of_ble_eq_true rfl⟩ ⟨rfl, rfl⟩ ⟨Nat.zero_le _, Nat.zero_le _⟩ _ rfl (Nat.le_of_ble_eq_true rfl) ?_
  refine g_istore_n hG dX12_taken_6 (by decide) ?_
  refine g_iload_n hG dX12_taken_7 rfl ?_
  refine g_iload_n hG dX12_taken_8 rfl ?_
  refine g_iconstv hG dX12_taken_9 ki_2 ?_
  refine g_irm hG dX12_taken_10 (by decide) ?_
  refine g_isub hG dX12_taken_11 ?_
  obtain ⟨v4, e5, h⟩ := lt_ex h
  refine g_nam e5 ?_
  refine g_istore_n hG dX12_taken_12 (by decide) ?_
  refine g_aload_n hG dX12_taken_13 rfl ?_
  refine g_iload_n hG dX12_taken_14 rfl ?_
  refine g_iconstv hG dX12_taken_15 ki_0 ?_
  obtain ⟨v6, σ7, q8, h⟩ := ob_some h
  refine g_cV hG dX12_taken_16 (c_M_its q8) b_X12_its v_X12_59 rfl (k := 0) rfl rfl ⟨Nat.le_of_ble_eq_true rfl, Nat.le_of_ble_eq_true rfl⟩ ⟨rfl, rfl⟩ ⟨Nat.zero_le _, Nat.zero_le _⟩ _ rfl (Nat.le_of_ble_eq_true rfl) ?_
  rcases if_some h with ⟨c9, h⟩ | ⟨c9, h⟩
  · refine g_tabC (tgt := 56) (c := (1 : Int32)) hG c9 dX12_taken_19 (by decide) (by decide) rfl rfl ?_
    refine g_iload_n hG dX12_taken_56 rfl ?_
    cases h
    exact K _ _ dX12_taken_57
  ·
    rcases if_some h with ⟨c10, h⟩ | ⟨c10, h⟩
    · refine g_tabC (tgt := 71) (c := (2 : Int32)) hG c10 dX12_taken_19 (by decide) (by decide) rfl rfl ?_
      refine g_iload_n hG dX12_taken_71 rfl ?_
      refine g_iconstv hG dX12_taken_72 ki_2 ?_
      refine g_idiv hG dX12_taken_73 (by decide) ?_
      cases h
      exact K _ _ dX12_taken_74
    ·
      rcases if_some h with ⟨c11, h⟩ | ⟨c11, h⟩
      · refine g_tabC (tgt := 96) (c := (3 : Int32)) hG c11 dX12_taken_19 (by decide) (by decide) rfl rfl ?_
        refine g_loc hG [(2, .int v1)] ⟨rfl, trivial⟩ ?_
        exact s_M_taken_b96  hG K  h
      ·
        rcases if_some h with ⟨c14, h⟩ | ⟨c14, h⟩
        · refine g_tabC (tgt := 58) (c := (4 : Int32)) hG c14 dX12_taken_19 (by decide) (by decide) rfl rfl ?_
          refine g_iload_n hG dX12_taken_58 rfl ?_
          refine g_bipushv hG dX12_taken_59 kb_99 ?_
          refine g_dia2 (if (99 : Int32) ≤ v4 then (99 : Int32) else v4) 70 (fun J15 => ?_) ?_
          · by_cases c16 : (99 : Int32) ≤ v4
            · refine g_icmp_ge (tgt := 68) hG dX12_taken_61 rfl (fun _ => ?_) (fun q => absurd c16 q)
              refine g_bipushv hG dX12_taken_68 kb_99 ?_
              rw [if_pos c16] at J15
              exact J15
            · refine g_icmp_ge (tgt := 68) hG dX12_taken_61 rfl (fun q => absurd q c16) (fun _ => ?_)
              refine g_iload_n hG dX12_taken_64 rfl ?_
              refine g_goto (tgt := 70) hG dX12_taken_65 rfl ?_
              rw [if_neg c16] at J15
              exact J15
          cases h
          exact K _ _ dX12_taken_70
        ·
          rcases if_some h with ⟨c17, h⟩ | ⟨c17, h⟩
          · refine g_tabC (tgt := 75) (c := (5 : Int32)) hG c17 dX12_taken_19 (by decide) (by decide) rfl rfl ?_
            refine g_iload_n hG dX12_taken_75 rfl ?_
            refine g_iconstv hG dX12_taken_76 ki_2 ?_
            refine g_idiv hG dX12_taken_77 (by decide) ?_
            refine g_bipushv hG dX12_taken_78 kb_10 ?_
            refine g_iadd hG dX12_taken_80 ?_
            refine g_iload_n hG dX12_taken_81 rfl ?_
            rcases if_some h with ⟨c18, h⟩ | ⟨c18, h⟩
            · refine g_icmp_ge (tgt := 94) hG dX12_taken_82 rfl (fun _ => ?_) (fun q => absurd c18 q)
              refine g_iload_n hG dX12_taken_94 rfl ?_
              cases h
              exact K _ _ dX12_taken_95
            · refine g_icmp_ge (tgt := 94) hG dX12_taken_82 rfl (fun q => absurd q c18) (fun _ => ?_)
              refine g_iload_n hG dX12_taken_85 rfl ?_
              refine g_iconstv hG dX12_taken_86 ki_2 ?_
              refine g_idiv hG dX12_taken_87 (by decide) ?_
              refine g_bipushv hG dX12_taken_88 kb_10 ?_
              refine g_iadd hG dX12_taken_90 ?_
              refine g_goto (tgt := 95) hG dX12_taken_91 rfl ?_
              cases h
              exact K _ _ dX12_taken_95
          ·
            rcases if_some h with ⟨c19, h⟩ | ⟨c19, h⟩
            · refine g_tabC (tgt := 96) (c := (6 : Int32)) hG c19 dX12_taken_19 (by decide) (by decide) rfl rfl ?_
              refine g_loc hG [(2, .int v1)] ⟨rfl, trivial⟩ ?_
              exact s_M_taken_b96  hG K  h
            ·
              refine g_tableOut (tgt := 109) hG dX12_taken_19 (by have n0 := i32ne c9 (n := 1) (by decide); have n1 := i32ne c10 (n := 2) (by decide); have n2 := i32ne c11 (n := 3) (by decide); have n3 := i32ne c14 (n := 4) (by decide); have n4 := i32ne c17 (n := 5) (by decide); have n5 := i32ne c19 (n := 6) (by decide); omega) rfl ?_
              refine g_iload_n hG dX12_taken_109 rfl ?_
              cases h
              exact K _ _ dX12_taken_110
def M_isSigned (x1 : Int32) (x2 : Int32) (σ : RS) : Option (Int32 × RS) := (if (σ.1 15) ≤ 0 then (ob (M_lawOf (1 : Int32) x1 (irm x2 (7 : Int32)) (irm x2 (30 : Int32)) σ) fun v2 σ3 => (some ((if v2 = 0 then (0 : Int32) else (1 : Int32)), σ3))) else (gd (nz (σ.1 15)) (some ((if (irm x2 (σ.1 15)) = 0 then (1 : Int32) else (0 : Int32)), σ))))
set_option maxRecDepth 100000 in
set_option maxHeartbeats 4000000 in
theorem c_M_isSigned {g : GP} {l : Launch} {r : Nat → Nat} {X : va_W} {v9 : Int32} {s9 : RS} {x1 : Int32} {x2 : Int32} {σ : RS} (h : M_isSigned x1 x2 σ = some (v9, s9)) : CI g l yX12_isSigned cX12_isSigned 3 (some .boolean) { frames := 56, cells := 0, slots := 0, locals := 1274 } [.ref (r 25), .int x1, .int x2] (wR g r σ X) (fun r0 w => r0 = v9 ∧ w = wR g r s9 X) := by
  refine CI.mk (by decide) (Nat.le_of_ble_eq_true rfl) (fun G hG hret => ?_)
  have K : ∀ L pc, decode cX12_isSigned pc = .ok (.ireturn, 1) → isb v9 = true → G 0 0 (wR g r s9 X) L pc [.int v9] := fun L pc d hz => hret _ L pc v9 d (isb_n hz) ⟨rfl, rfl⟩
  unfold M_isSigned at h
  refine g_aload_n hG dX12_isSigned_0 rfl ?_
  refine r_get 15 hG dX12_isSigned_1 f_X12_154 (by decide) rfl ?_
  rcases if_some h with ⟨c1, h⟩ | ⟨c1, h⟩
  · refine g_if_le (tgt := 24) hG dX12_isSigned_4 rfl (fun _ => ?_) (fun q => absurd c1 q)
    refine g_aload_n hG dX12_isSigned_24 rfl ?_
    refine g_iconstv hG dX12_isSigned_25 ki_1 ?_
    refine g_iload_n hG dX12_isSigned_26 rfl ?_
    refine g_iload_n hG dX12_isSigned_27 rfl ?_
    refine g_bipushv hG dX12_isSigned_28 kb_7 ?_
    refine g_irm hG dX12_isSigned_30 (by decide) ?_
    refine g_iload_n hG dX12_isSigned_31 rfl ?_
    refine g_bipushv hG dX12_isSigned_32 kb_30 ?_
    refine g_irm hG dX12_isSigned_34 (by decide) ?_
    obtain ⟨v2, σ3, q4, h⟩ := ob_some h
    refine g_cV hG dX12_isSigned_35 (c_M_lawOf q4) b_X12_lawOf v_X12_145 rfl (k := 0) rfl rfl ⟨Nat.le_of_ble_eq_true rfl, Nat.le_of_ble_eq_true rfl⟩ ⟨rfl, rfl⟩ ⟨Nat.zero_le _, Nat.zero_le _⟩ _ rfl (Nat.le_of_ble_eq_true rfl) ?_
    refine g_dia1 (if v2 = 0 then (0 : Int32) else (1 : Int32)) 46 (fun J5 => ?_) ?_
    · by_cases c6 : v2 = 0
      · refine g_if_eq (tgt := 45) hG dX12_isSigned_38 rfl (fun _ => ?_) (fun q => absurd c6 q)
        refine g_iconstv hG dX12_isSigned_45 ki_0 ?_
        rw [if_pos c6] at J5
        exact J5
      · refine g_if_eq (tgt := 45) hG dX12_isSigned_38 rfl (fun q => absurd q c6) (fun _ => ?_)
        refine g_iconstv hG dX12_isSigned_41 ki_1 ?_
        refine g_goto (tgt := 46) hG dX12_isSigned_42 rfl ?_
        rw [if_neg c6] at J5
        exact J5
    cases h
    exact K _ _ dX12_isSigned_46 (isb_ite (by decide) (by decide))
  · refine g_if_le (tgt := 24) hG dX12_isSigned_4 rfl (fun q => absurd q c1) (fun _ => ?_)
    refine g_iload_n hG dX12_isSigned_7 rfl ?_
    refine g_aload_n hG dX12_isSigned_8 rfl ?_
    refine r_get 15 hG dX12_isSigned_9 f_X12_154 (by decide) rfl ?_
    obtain ⟨b7, h⟩ := gd_some h
    refine g_irm hG dX12_isSigned_12 (nz_ne b7) ?_
    refine g_dia1 (if (irm x2 (σ.1 15)) = 0 then (1 : Int32) else (0 : Int32)) 46 (fun J8 => ?_) ?_
    · by_cases c9 : (irm x2 (σ.1 15)) = 0
      · refine g_if_ne (tgt := 20) hG dX12_isSigned_13 rfl (fun q => absurd c9 q) (fun _ => ?_)
        refine g_iconstv hG dX12_isSigned_16 ki_1 ?_
        refine g_goto (tgt := 46) hG dX12_isSigned_17 rfl ?_
        rw [if_pos c9] at J8
        exact J8
      · refine g_if_ne (tgt := 20) hG dX12_isSigned_13 rfl (fun _ => ?_) (fun q => absurd q c9)
        refine g_iconstv hG dX12_isSigned_20 ki_0 ?_
        refine g_goto (tgt := 46) hG dX12_isSigned_21 rfl ?_
        rw [if_neg c9] at J8
        exact J8
    cases h
    exact K _ _ dX12_isSigned_46 (isb_ite (by decide) (by decide))
def M_sign (x1 : Int32) (x2 : Int32) (σ : RS) : Option (Int32 × RS) := (ob (M_in x1 (0 : Int32) (1 : Int32) σ) fun v1 σ2 => (if v1 = 0 then (ob (M_errs (-1000000001 : Int32) σ2) fun v5 σ6 => (some (v5, σ6))) else (ob (M_in x2 (0 : Int32) (99 : Int32) σ2) fun v8 σ9 => (if v8 = 0 then (ob (M_errs (-1000000001 : Int32) σ9) fun v12 σ13 => (some (v12, σ13))) else (ob (M_isSigned x1 ((σ9.2 0 0) + x2) σ9) fun v15 σ16 => (some ((if v15 = 0 then (0 : Int32) else (1 : Int32)), σ16)))))))
set_option maxRecDepth 100000 in
set_option maxHeartbeats 4000000 in
theorem c_M_sign {g : GP} {l : Launch} {r : Nat → Nat} {X : va_W} {v9 : Int32} {s9 : RS} {x1 : Int32} {x2 : Int32} {σ : RS} (h : M_sign x1 x2 σ = some (v9, s9)) : CI g l yX12_sign cX12_sign 3 (some .int) { frames := 57, cells := 0, slots := 0, locals := 1296 } [.ref (r 25), .int x1, .int x2] (wR g r σ X) (fun r0 w => r0 = v9 ∧ w = wR g r s9 X) := by
  refine CI.mk (by decide) (Nat.le_of_ble_eq_true rfl) (fun G hG hret => ?_)
  have K : ∀ L pc, decode cX12_sign pc = .ok (.ireturn, 1) → G 0 0 (wR g r s9 X) L pc [.int v9] := fun L pc d => hret _ L pc v9 d rfl ⟨rfl, rfl⟩
  unfold M_sign at h
  refine g_iload_n hG dX12_sign_0 rfl ?_
  refine g_iconstv hG dX12_sign_1 ki_0 ?_
  refine g_iconstv hG dX12_sign_2 ki_1 ?_
  obtain ⟨v1, σ2, q3, h⟩ := ob_some h
  refine g_cS hG dX12_sign_3 (c_M_in q3) b_X12_in v_X12_41 rfl ⟨Nat.le_of_ble_eq_true rfl, Nat.le_of_ble_eq_true rfl⟩ ⟨rfl, rfl⟩ ⟨Nat.zero_le _, Nat.zero_le _⟩ _ rfl (Nat.le_of_ble_eq_true rfl) ?_
  rcases if_some h with ⟨c4, h⟩ | ⟨c4, h⟩
  · refine g_if_eq (tgt := 19) hG dX12_sign_6 rfl (fun _ => ?_) (fun q => absurd c4 q)
    refine g_aload_n hG dX12_sign_19 rfl ?_
    refine g_ldc hG dX12_sign_20 k_X12_45 ?_
    obtain ⟨v5, σ6, q7, h⟩ := ob_some h
    refine g_cV hG dX12_sign_22 (c_M_errs q7) b_X12_errs v_X12_46 rfl (k := 0) rfl rfl ⟨Nat.le_of_ble_eq_true rfl, Nat.le_of_ble_eq_true rfl⟩ ⟨rfl, rfl⟩ ⟨Nat.zero_le _, Nat.zero_le _⟩ _ rfl (Nat.le_of_ble_eq_true rfl) ?_
    cases h
    exact K _ _ dX12_sign_25
  · refine g_if_eq (tgt := 19) hG dX12_sign_6 rfl (fun q => absurd q c4) (fun _ => ?_)
    refine g_iload_n hG dX12_sign_9 rfl ?_
    refine g_iconstv hG dX12_sign_10 ki_0 ?_
    refine g_bipushv hG dX12_sign_11 kb_99 ?_
    obtain ⟨v8, σ9, q10, h⟩ := ob_some h
    refine g_cS hG dX12_sign_13 (c_M_in q10) b_X12_in v_X12_41 rfl ⟨Nat.le_of_ble_eq_true rfl, Nat.le_of_ble_eq_true rfl⟩ ⟨rfl, rfl⟩ ⟨Nat.zero_le _, Nat.zero_le _⟩ _ rfl (Nat.le_of_ble_eq_true rfl) ?_
    rcases if_some h with ⟨c11, h⟩ | ⟨c11, h⟩
    · refine g_if_ne (tgt := 26) hG dX12_sign_16 rfl (fun q => absurd c11 q) (fun _ => ?_)
      refine g_aload_n hG dX12_sign_19 rfl ?_
      refine g_ldc hG dX12_sign_20 k_X12_45 ?_
      obtain ⟨v12, σ13, q14, h⟩ := ob_some h
      refine g_cV hG dX12_sign_22 (c_M_errs q14) b_X12_errs v_X12_46 rfl (k := 0) rfl rfl ⟨Nat.le_of_ble_eq_true rfl, Nat.le_of_ble_eq_true rfl⟩ ⟨rfl, rfl⟩ ⟨Nat.zero_le _, Nat.zero_le _⟩ _ rfl (Nat.le_of_ble_eq_true rfl) ?_
      cases h
      exact K _ _ dX12_sign_25
    · refine g_if_ne (tgt := 26) hG dX12_sign_16 rfl (fun _ => ?_) (fun q => absurd q c11)
      refine g_aload_n hG dX12_sign_26 rfl ?_
      refine g_iload_n hG dX12_sign_27 rfl ?_
      refine g_aload_n hG dX12_sign_28 rfl ?_
      refine r_get 0 hG dX12_sign_29 f_X12_7 (by decide) rfl ?_
      refine g_iconstv hG dX12_sign_32 ki_0 ?_
      refine r_iald 1 0 240 hG dX12_sign_33 rfl (by decide) (by decide : Int32.toNatClampNeg (0 : Int32) = 0) ?_
      refine g_iload_n hG dX12_sign_34 rfl ?_
      refine g_iadd hG dX12_sign_35 ?_
      obtain ⟨v15, σ16, q17, h⟩ := ob_some h
      refine g_cV hG dX12_sign_36 (c_M_isSigned q17) b_X12_isSigned v_X12_157 rfl (k := 0) rfl rfl ⟨Nat.le_of_ble_eq_true rfl, Nat.le_of_ble_eq_true rfl⟩ ⟨rfl, rfl⟩ ⟨Nat.zero_le _, Nat.zero_le _⟩ _ rfl (Nat.le_of_ble_eq_true rfl) ?_
      refine g_dia1 (if v15 = 0 then (0 : Int32) else (1 : Int32)) 47 (fun J18 => ?_) ?_
      · by_cases c19 : v15 = 0
        · refine g_if_eq (tgt := 46) hG dX12_sign_39 rfl (fun _ => ?_) (fun q => absurd c19 q)
          refine g_iconstv hG dX12_sign_46 ki_0 ?_
          rw [if_pos c19] at J18
          exact J18
        · refine g_if_eq (tgt := 46) hG dX12_sign_39 rfl (fun q => absurd q c19) (fun _ => ?_)
          refine g_iconstv hG dX12_sign_42 ki_1 ?_
          refine g_goto (tgt := 47) hG dX12_sign_43 rfl ?_
          rw [if_neg c19] at J18
          exact J18
      cases h
      exact K _ _ dX12_sign_47
def M_placesOn_b4 : Nat → Int32 → Int32 → RS → Option (Int32 × RS)
  | 0, _, _, _ => none
  | n + 1, x2, x3, σ => (if (σ.2 0 2) ≤ x3 then (some (x2, σ)) else (ob (M_its x3 (3 : Int32) σ) fun v2 σ3 => (lt (x2 + ((1 : Int32) - v2)) fun v5 => ((M_placesOn_b4  n) v5 (x3 + (2 : Int32)) σ3))))
set_option maxRecDepth 100000 in
set_option maxHeartbeats 4000000 in
theorem s_M_placesOn_b4 {g : GP} {l : Launch} {r : Nat → Nat} {X : va_W} {G : GT} {v9 : Int32} {s9 : RS} (hG : IsG g l yX12_placesOn cX12_placesOn 4 { frames := 1, cells := 0, slots := 0, locals := 22 } G) (K : ∀ L pc, decode cX12_placesOn pc = .ok (.ireturn, 1) → G 0 0 (wR g r s9 X) L pc [.int v9]) : ∀ (n : Nat) (x2 : Int32) (x3 : Int32) (σ : RS) (h : M_placesOn_b4  n x2 x3 σ = some (v9, s9)), G 0 0 (wR g r σ X) [(0, .ref (r 25)), (2, .int x2), (3, .int x3)] 4 [] := by
  intro n
  induction n with
  | zero => intro _ _ σ h; cases h
  | succ n ih =>
    intro x2 x3 σ h
    unfold M_placesOn_b4 at h
    refine g_iload_n hG dX12_placesOn_4 rfl ?_
    refine g_aload_n hG dX12_placesOn_5 rfl ?_
    refine r_get 0 hG dX12_placesOn_6 f_X12_7 (by decide) rfl ?_
    refine g_iconstv hG dX12_placesOn_9 ki_2 ?_
    refine r_iald 1 0 240 hG dX12_placesOn_10 rfl (by decide) (by decide : Int32.toNatClampNeg (2 : Int32) = 2) ?_
    rcases if_some h with ⟨c1, h⟩ | ⟨c1, h⟩
    · refine g_icmp_ge (tgt := 31) hG dX12_placesOn_11 rfl (fun _ => ?_) (fun q => absurd c1 q)
      refine g_iload_n hG dX12_placesOn_31 rfl ?_
      cases h
      exact K _ _ dX12_placesOn_32
    · refine g_icmp_ge (tgt := 31) hG dX12_placesOn_11 rfl (fun q => absurd q c1) (fun _ => ?_)
      refine g_iload_n hG dX12_placesOn_14 rfl ?_
      refine g_iconstv hG dX12_placesOn_15 ki_1 ?_
      refine g_aload_n hG dX12_placesOn_16 rfl ?_
      refine g_iload_n hG dX12_placesOn_17 rfl ?_
      refine g_iconstv hG dX12_placesOn_18 ki_3 ?_
      obtain ⟨v2, σ3, q4, h⟩ := ob_some h
      refine g_cV hG dX12_placesOn_19 (c_M_its q4) b_X12_its v_X12_59 rfl (k := 0) rfl rfl ⟨Nat.le_of_ble_eq_true rfl, Nat.le_of_ble_eq_true rfl⟩ ⟨rfl, rfl⟩ ⟨Nat.zero_le _, Nat.zero_le _⟩ _ rfl (Nat.le_of_ble_eq_true rfl) ?_
      refine g_isub hG dX12_placesOn_22 ?_
      refine g_iadd hG dX12_placesOn_23 ?_
      obtain ⟨v5, e6, h⟩ := lt_ex h
      refine g_nam e6 ?_
      refine g_istore_n hG dX12_placesOn_24 (by decide) ?_
      refine g_iincv (c := (2 : Int32)) hG dX12_placesOn_25 rfl (by decide) (by decide) ?_
      refine g_goto (tgt := 4) hG dX12_placesOn_28 rfl ?_
      refine g_loc hG [(0, .ref (r 25)), (2, .int v5), (3, .int (x3 + (2 : Int32)))] ⟨rfl, rfl, rfl, trivial⟩ ?_
      exact ih _ _ _ h
def M_placesOn (x1 : Int32) (σ : RS) : Option (Int32 × RS) := (M_placesOn_b4  FU (0 : Int32) x1 σ)
set_option maxRecDepth 100000 in
set_option maxHeartbeats 4000000 in
theorem c_M_placesOn {g : GP} {l : Launch} {r : Nat → Nat} {X : va_W} {v9 : Int32} {s9 : RS} {x1 : Int32} {σ : RS} (h : M_placesOn x1 σ = some (v9, s9)) : CI g l yX12_placesOn cX12_placesOn 4 (some .int) { frames := 1, cells := 0, slots := 0, locals := 22 } [.ref (r 25), .int x1] (wR g r σ X) (fun r0 w => r0 = v9 ∧ w = wR g r s9 X) := by
  refine CI.mk (by decide) (Nat.le_of_ble_eq_true rfl) (fun G hG hret => ?_)
  have K : ∀ L pc, decode cX12_placesOn pc = .ok (.ireturn, 1) → G 0 0 (wR g r s9 X) L pc [.int v9] := fun L pc d => hret _ L pc v9 d rfl ⟨rfl, rfl⟩
  unfold M_placesOn at h
  refine g_iconstv hG dX12_placesOn_0 ki_0 ?_
  refine g_istore_n hG dX12_placesOn_1 (by decide) ?_
  refine g_iload_n hG dX12_placesOn_2 rfl ?_
  refine g_istore_n hG dX12_placesOn_3 (by decide) ?_
  refine g_loc hG [(0, .ref (r 25)), (2, .int (0 : Int32)), (3, .int x1)] ⟨rfl, rfl, rfl, trivial⟩ ?_
  exact s_M_placesOn_b4  hG K FU _ _ _ h
def M_stayers_b56 (ag8 : Int32 → Int32 → Int32 → RS → Option (Int32 × RS)) (x3 : Int32) (x4 : Int32) (x5 : Int32) (s0 : Int32) (σ : RS) : Option (Int32 × RS) := (lt (x3 - (if s0 = 0 then (0 : Int32) else (1 : Int32))) fun v14 => (ob (M_its x5 (3 : Int32) σ) fun v16 σ17 => (lt (x4 ||| (if v16 = (1 : Int32) then (if s0 = 0 then ((1 : Int32) <<< (x5 &&& 31)) else (0 : Int32)) else (0 : Int32))) fun v22 => (ag8 v14 v22 (x5 + (2 : Int32)) σ17))))
set_option maxRecDepth 100000 in
set_option maxHeartbeats 4000000 in
theorem s_M_stayers_b56 {g : GP} {l : Launch} {r : Nat → Nat} {X : va_W} {G : GT} {v9 : Int32} {s9 : RS} (hG : IsG g l yX12_stayers cX12_stayers 7 { frames := 1, cells := 0, slots := 0, locals := 22 } G) (K : ∀ L pc, decode cX12_stayers pc = .ok (.ireturn, 1) → G 0 0 (wR g r s9 X) L pc [.int v9]) {ag8 : Int32 → Int32 → Int32 → RS → Option (Int32 × RS)} (hag8 : ∀ (x3 : Int32) (x4 : Int32) (x5 : Int32) (σ : RS), ag8 x3 x4 x5 σ = some (v9, s9) → G 0 0 (wR g r σ X) [(0, .ref (r 25)), (3, .int x3), (4, .int x4), (5, .int x5)] 8 []) {x3 : Int32} {x4 : Int32} {x5 : Int32} {s0 : Int32} {σ : RS} (h : M_stayers_b56 ag8 x3 x4 x5 s0 σ = some (v9, s9)) : G 0 0 (wR g r σ X) [(0, .ref (r 25)), (3, .int x3), (4, .int x4), (5, .int x5)] 56 [.int s0] := by
  unfold M_stayers_b56 at h
  refine g_istore hG dX12_stayers_56 (by decide) ?_
  refine g_iload_n hG dX12_stayers_58 rfl ?_
  refine g_iload hG dX12_stayers_59 rfl ?_
  refine g_dia1 (if s0 = 0 then (0 : Int32) else (1 : Int32)) 69 (fun J12 => ?_) ?_
  · by_cases c13 : s0 = 0
    · refine g_if_eq (tgt := 68) hG dX12_stayers_61 rfl (fun _ => ?_) (fun q => absurd c13 q)
      refine g_iconstv hG dX12_stayers_68 ki_0 ?_
      rw [if_pos c13] at J12
      exact J12
    · refine g_if_eq (tgt := 68) hG dX12_stayers_61 rfl (fun q => absurd q c13) (fun _ => ?_)
      refine g_iconstv hG dX12_stayers_64 ki_1 ?_
      refine g_goto (tgt := 69) hG dX12_stayers_65 rfl ?_
      rw [if_neg c13] at J12
      exact J12
  refine g_isub hG dX12_stayers_69 ?_
  obtain ⟨v14, e15, h⟩ := lt_ex h
  refine g_nam e15 ?_
  refine g_istore_n hG dX12_stayers_70 (by decide) ?_
  refine g_iload hG dX12_stayers_71 rfl ?_
  refine g_aload_n hG dX12_stayers_73 rfl ?_
  refine g_iload hG dX12_stayers_74 rfl ?_
  refine g_iconstv hG dX12_stayers_76 ki_3 ?_
  obtain ⟨v16, σ17, q18, h⟩ := ob_some h
  refine g_cV hG dX12_stayers_77 (c_M_its q18) b_X12_its v_X12_59 rfl (k := 0) rfl rfl ⟨Nat.le_of_ble_eq_true rfl, Nat.le_of_ble_eq_true rfl⟩ ⟨rfl, rfl⟩ ⟨Nat.zero_le _, Nat.zero_le _⟩ _ rfl (Nat.le_of_ble_eq_true rfl) ?_
  refine g_iconstv hG dX12_stayers_80 ki_1 ?_
  refine g_dia2 (if v16 = (1 : Int32) then (if s0 = 0 then ((1 : Int32) <<< (x5 &&& 31)) else (0 : Int32)) else (0 : Int32)) 97 (fun J19 => ?_) ?_
  · by_cases c20 : v16 = (1 : Int32)
    · refine g_icmp_ne (tgt := 96) hG dX12_stayers_81 rfl (fun q => absurd c20 q) (fun _ => ?_)
      refine g_iload hG dX12_stayers_84 rfl ?_
      by_cases c21 : s0 = 0
      · refine g_if_ne (tgt := 96) hG dX12_stayers_86 rfl (fun q => absurd c21 q) (fun _ => ?_)
        refine g_iconstv hG dX12_stayers_89 ki_1 ?_
        refine g_iload hG dX12_stayers_90 rfl ?_
        refine g_ishl hG dX12_stayers_92 ?_
        refine g_goto (tgt := 97) hG dX12_stayers_93 rfl ?_
        rw [if_pos c20, if_pos c21] at J19
        exact J19
      · refine g_if_ne (tgt := 96) hG dX12_stayers_86 rfl (fun _ => ?_) (fun q => absurd q c21)
        refine g_iconstv hG dX12_stayers_96 ki_0 ?_
        rw [if_pos c20, if_neg c21] at J19
        exact J19
    · refine g_icmp_ne (tgt := 96) hG dX12_stayers_81 rfl (fun _ => ?_) (fun q => absurd q c20)
      refine g_iconstv hG dX12_stayers_96 ki_0 ?_
      rw [if_neg c20] at J19
      exact J19
  refine g_ior hG dX12_stayers_97 ?_
  obtain ⟨v22, e23, h⟩ := lt_ex h
  refine g_nam e23 ?_
  refine g_istore hG dX12_stayers_98 (by decide) ?_
  refine g_iincv (c := (2 : Int32)) hG dX12_stayers_100 rfl (by decide) (by decide) ?_
  refine g_goto (tgt := 8) hG dX12_stayers_103 rfl ?_
  refine g_loc hG [(0, .ref (r 25)), (3, .int v14), (4, .int v22), (5, .int (x5 + (2 : Int32)))] ⟨rfl, rfl, rfl, rfl, trivial⟩ ?_
  exact hag8 _ _ _ _ h
def M_stayers_b8 : Nat → Int32 → Int32 → Int32 → RS → Option (Int32 × RS)
  | 0, _, _, _, _ => none
  | n + 1, x3, x4, x5, σ => (if (σ.2 0 2) ≤ x5 then (some (x4, σ)) else (ob (M_its x5 (3 : Int32) σ) fun v2 σ3 => (if v2 = (1 : Int32) then (ob (M_its x5 (4 : Int32) σ3) fun v6 σ7 => (M_stayers_b56 (M_stayers_b8  n) x3 x4 x5 (if (σ7.2 0 8) ≤ v6 then (0 : Int32) else (if x3 ≤ 0 then (0 : Int32) else (1 : Int32))) σ7)) else (M_stayers_b56 (M_stayers_b8  n) x3 x4 x5 (0 : Int32) σ3))))
set_option maxRecDepth 100000 in
set_option maxHeartbeats 4000000 in
theorem s_M_stayers_b8 {g : GP} {l : Launch} {r : Nat → Nat} {X : va_W} {G : GT} {v9 : Int32} {s9 : RS} (hG : IsG g l yX12_stayers cX12_stayers 7 { frames := 1, cells := 0, slots := 0, locals := 22 } G) (K : ∀ L pc, decode cX12_stayers pc = .ok (.ireturn, 1) → G 0 0 (wR g r s9 X) L pc [.int v9]) : ∀ (n : Nat) (x3 : Int32) (x4 : Int32) (x5 : Int32) (σ : RS) (h : M_stayers_b8  n x3 x4 x5 σ = some (v9, s9)), G 0 0 (wR g r σ X) [(0, .ref (r 25)), (3, .int x3), (4, .int x4), (5, .int x5)] 8 [] := by
  intro n
  induction n with
  | zero => intro _ _ _ σ h; cases h
  | succ n ih =>
    intro x3 x4 x5 σ h
    unfold M_stayers_b8 at h
    refine g_iload hG dX12_stayers_8 rfl ?_
    refine g_aload_n hG dX12_stayers_10 rfl ?_
    refine r_get 0 hG dX12_stayers_11 f_X12_7 (by decide) rfl ?_
    refine g_iconstv hG dX12_stayers_14 ki_2 ?_
    refine r_iald 1 0 240 hG dX12_stayers_15 rfl (by decide) (by decide : Int32.toNatClampNeg (2 : Int32) = 2) ?_
    rcases if_some h with ⟨c1, h⟩ | ⟨c1, h⟩
    · refine g_icmp_ge (tgt := 106) hG dX12_stayers_16 rfl (fun _ => ?_) (fun q => absurd c1 q)
      refine g_iload hG dX12_stayers_106 rfl ?_
      cases h
      exact K _ _ dX12_stayers_108
    · refine g_icmp_ge (tgt := 106) hG dX12_stayers_16 rfl (fun q => absurd q c1) (fun _ => ?_)
      refine g_aload_n hG dX12_stayers_19 rfl ?_
      refine g_iload hG dX12_stayers_20 rfl ?_
      refine g_iconstv hG dX12_stayers_22 ki_3 ?_
      obtain ⟨v2, σ3, q4, h⟩ := ob_some h
      refine g_cV hG dX12_stayers_23 (c_M_its q4) b_X12_its v_X12_59 rfl (k := 0) rfl rfl ⟨Nat.le_of_ble_eq_true rfl, Nat.le_of_ble_eq_true rfl⟩ ⟨rfl, rfl⟩ ⟨Nat.zero_le _, Nat.zero_le _⟩ _ rfl (Nat.le_of_ble_eq_true rfl) ?_
      refine g_iconstv hG dX12_stayers_26 ki_1 ?_
      rcases if_some h with ⟨c5, h⟩ | ⟨c5, h⟩
      · refine g_icmp_ne (tgt := 55) hG dX12_stayers_27 rfl (fun q => absurd c5 q) (fun _ => ?_)
        refine g_aload_n hG dX12_stayers_30 rfl ?_
        refine g_iload hG dX12_stayers_31 rfl ?_
        refine g_iconstv hG dX12_stayers_33 ki_4 ?_
        obtain ⟨v6, σ7, q8, h⟩ := ob_some h
        refine g_cV hG dX12_stayers_34 (c_M_its q8) b_X12_its v_X12_59 rfl (k := 0) rfl rfl ⟨Nat.le_of_ble_eq_true rfl, Nat.le_of_ble_eq_true rfl⟩ ⟨rfl, rfl⟩ ⟨Nat.zero_le _, Nat.zero_le _⟩ _ rfl (Nat.le_of_ble_eq_true rfl) ?_
        refine g_aload_n hG dX12_stayers_37 rfl ?_
        refine r_get 0 hG dX12_stayers_38 f_X12_7 (by decide) rfl ?_
        refine g_bipushv hG dX12_stayers_41 kb_8 ?_
        refine r_iald 1 0 240 hG dX12_stayers_43 rfl (by decide) (by decide : Int32.toNatClampNeg (8 : Int32) = 8) ?_
        refine g_dia2 (if (σ7.2 0 8) ≤ v6 then (0 : Int32) else (if x3 ≤ 0 then (0 : Int32) else (1 : Int32))) 56 (fun J9 => ?_) ?_
        · by_cases c10 : (σ7.2 0 8) ≤ v6
          · refine g_icmp_ge (tgt := 55) hG dX12_stayers_44 rfl (fun _ => ?_) (fun q => absurd c10 q)
            refine g_iconstv hG dX12_stayers_55 ki_0 ?_
            rw [if_pos c10] at J9
            exact J9
          · refine g_icmp_ge (tgt := 55) hG dX12_stayers_44 rfl (fun q => absurd q c10) (fun _ => ?_)
            refine g_iload_n hG dX12_stayers_47 rfl ?_
            by_cases c11 : x3 ≤ 0
            · refine g_if_le (tgt := 55) hG dX12_stayers_48 rfl (fun _ => ?_) (fun q => absurd c11 q)
              refine g_iconstv hG dX12_stayers_55 ki_0 ?_
              rw [if_neg c10, if_pos c11] at J9
              exact J9
            · refine g_if_le (tgt := 55) hG dX12_stayers_48 rfl (fun q => absurd q c11) (fun _ => ?_)
              refine g_iconstv hG dX12_stayers_51 ki_1 ?_
              refine g_goto (tgt := 56) hG dX12_stayers_52 rfl ?_
              rw [if_neg c10, if_neg c11] at J9
              exact J9
        refine g_loc hG [(0, .ref (r 25)), (3, .int x3), (4, .int x4), (5, .int x5)] ⟨rfl, rfl, rfl, rfl, trivial⟩ ?_
        exact s_M_stayers_b56  hG K ih h
      · refine g_icmp_ne (tgt := 55) hG dX12_stayers_27 rfl (fun _ => ?_) (fun q => absurd q c5)
        refine g_iconstv hG dX12_stayers_55 ki_0 ?_
        refine g_loc hG [(0, .ref (r 25)), (3, .int x3), (4, .int x4), (5, .int x5)] ⟨rfl, rfl, rfl, rfl, trivial⟩ ?_
        exact s_M_stayers_b56  hG K ih h
def M_stayers (x1 : Int32) (x2 : Int32) (σ : RS) : Option (Int32 × RS) := (M_stayers_b8  FU x2 (0 : Int32) x1 σ)
set_option maxRecDepth 100000 in
set_option maxHeartbeats 4000000 in
theorem c_M_stayers {g : GP} {l : Launch} {r : Nat → Nat} {X : va_W} {v9 : Int32} {s9 : RS} {x1 : Int32} {x2 : Int32} {σ : RS} (h : M_stayers x1 x2 σ = some (v9, s9)) : CI g l yX12_stayers cX12_stayers 7 (some .int) { frames := 1, cells := 0, slots := 0, locals := 22 } [.ref (r 25), .int x1, .int x2] (wR g r σ X) (fun r0 w => r0 = v9 ∧ w = wR g r s9 X) := by
  refine CI.mk (by decide) (Nat.le_of_ble_eq_true rfl) (fun G hG hret => ?_)
  have K : ∀ L pc, decode cX12_stayers pc = .ok (.ireturn, 1) → G 0 0 (wR g r s9 X) L pc [.int v9] := fun L pc d => hret _ L pc v9 d rfl ⟨rfl, rfl⟩
  unfold M_stayers at h
  refine g_iload_n hG dX12_stayers_0 rfl ?_
  refine g_istore_n hG dX12_stayers_1 (by decide) ?_
  refine g_iconstv hG dX12_stayers_2 ki_0 ?_
  refine g_istore hG dX12_stayers_3 (by decide) ?_
  refine g_iload_n hG dX12_stayers_5 rfl ?_
  refine g_istore hG dX12_stayers_6 (by decide) ?_
  refine g_loc hG [(0, .ref (r 25)), (3, .int x2), (4, .int (0 : Int32)), (5, .int x1)] ⟨rfl, rfl, rfl, rfl, trivial⟩ ?_
  exact s_M_stayers_b8  hG K FU _ _ _ _ h
def M_sweepsSide_b83 (ag10 : Int32 → Int32 → RS → Option (Int32 × RS)) (x3 : Int32) (x4 : Int32) (σ : RS) : Option (Int32 × RS) := (ag10 x3 (x4 + (2 : Int32)) σ)
set_option maxRecDepth 100000 in
set_option maxHeartbeats 4000000 in
theorem s_M_sweepsSide_b83 {g : GP} {l : Launch} {r : Nat → Nat} {X : va_W} {G : GT} {v9 : Int32} {s9 : RS} (hG : IsG g l yX12_sweepsSide cX12_sweepsSide 5 { frames := 2, cells := 0, slots := 0, locals := 48 } G) (K : ∀ L pc, decode cX12_sweepsSide pc = .ok (.return_, 1) → G 0 0 (wR g r s9 X) L pc []) {ag10 : Int32 → Int32 → RS → Option (Int32 × RS)} (hag10 : ∀ (x3 : Int32) (x4 : Int32) (σ : RS), ag10 x3 x4 σ = some (v9, s9) → G 0 0 (wR g r σ X) [(0, .ref (r 25)), (3, .int x3), (4, .int x4)] 10 []) {x3 : Int32} {x4 : Int32} {σ : RS} (h : M_sweepsSide_b83 ag10 x3 x4 σ = some (v9, s9)) : G 0 0 (wR g r σ X) [(0, .ref (r 25)), (3, .int x3), (4, .int x4)] 83 [] := by
  unfold M_sweepsSide_b83 at h
  refine g_iincv (c := (2 : Int32)) hG dX12_sweepsSide_83 rfl (by decide) (by decide) ?_
  refine g_goto (tgt := 10) hG dX12_sweepsSide_86 rfl ?_
  refine g_loc hG [(0, .ref (r 25)), (3, .int x3), (4, .int (x4 + (2 : Int32)))] ⟨rfl, rfl, rfl, trivial⟩ ?_
  exact hag10 _ _ _ h
def M_sweepsSide_b10 : Nat → Int32 → Int32 → RS → Option (Int32 × RS)
  | 0, _, _, _ => none
  | n + 1, x3, x4, σ => (if (σ.2 0 2) ≤ x4 then (some ((0 : Int32), σ)) else (if ((x3 >>> (x4 &&& 31)) &&& (1 : Int32)) = (1 : Int32) then (ob (M_held ((σ.2 0 9) + (σ.2 0 8)) (0 : Int32) (99999 : Int32) σ) fun v6 σ7 => (lt (ra σ7 0 (upd (σ7.2 0) 9 v6)) fun σ9 => (M_sweepsSide_b83 (M_sweepsSide_b10  n) x3 x4 σ9))) else (ob (M_its x4 (2 : Int32) σ) fun v11 σ12 => (ob (M_taken x4 σ12) fun v14 σ15 => (ob (M_gets x4 (2 : Int32) (v11 - v14) σ15) fun v17 σ18 => (M_sweepsSide_b83 (M_sweepsSide_b10  n) x3 x4 σ18))))))
set_option maxRecDepth 100000 in
set_option maxHeartbeats 4000000 in
theorem s_M_sweepsSide_b10 {g : GP} {l : Launch} {r : Nat → Nat} {X : va_W} {G : GT} {v9 : Int32} {s9 : RS} (hG : IsG g l yX12_sweepsSide cX12_sweepsSide 5 { frames := 2, cells := 0, slots := 0, locals := 48 } G) (K : ∀ L pc, decode cX12_sweepsSide pc = .ok (.return_, 1) → G 0 0 (wR g r s9 X) L pc []) : ∀ (n : Nat) (x3 : Int32) (x4 : Int32) (σ : RS) (h : M_sweepsSide_b10  n x3 x4 σ = some (v9, s9)), G 0 0 (wR g r σ X) [(0, .ref (r 25)), (3, .int x3), (4, .int x4)] 10 [] := by
  intro n
  induction n with
  | zero => intro _ _ σ h; cases h
  | succ n ih =>
    intro x3 x4 σ h
    unfold M_sweepsSide_b10 at h
    refine g_iload hG dX12_sweepsSide_10 rfl ?_
    refine g_aload_n hG dX12_sweepsSide_12 rfl ?_
    refine r_get 0 hG dX12_sweepsSide_13 f_X12_7 (by decide) rfl ?_
    refine g_iconstv hG dX12_sweepsSide_16 ki_2 ?_
    refine r_iald 1 0 240 hG dX12_sweepsSide_17 rfl (by decide) (by decide : Int32.toNatClampNeg (2 : Int32) = 2) ?_
    rcases if_some h with ⟨c4, h⟩ | ⟨c4, h⟩
    · refine g_icmp_ge (tgt := 89) hG dX12_sweepsSide_18 rfl (fun _ => ?_) (fun q => absurd c4 q)
      cases h
      exact K _ _ dX12_sweepsSide_89
    · refine g_icmp_ge (tgt := 89) hG dX12_sweepsSide_18 rfl (fun q => absurd q c4) (fun _ => ?_)
      refine g_iload_n hG dX12_sweepsSide_21 rfl ?_
      refine g_iload hG dX12_sweepsSide_22 rfl ?_
      refine g_ishr hG dX12_sweepsSide_24 ?_
      refine g_iconstv hG dX12_sweepsSide_25 ki_1 ?_
      refine g_iand hG dX12_sweepsSide_26 ?_
      refine g_iconstv hG dX12_sweepsSide_27 ki_1 ?_
      rcases if_some h with ⟨c5, h⟩ | ⟨c5, h⟩
      · refine g_icmp_ne (tgt := 62) hG dX12_sweepsSide_28 rfl (fun q => absurd c5 q) (fun _ => ?_)
        refine g_aload_n hG dX12_sweepsSide_31 rfl ?_
        refine r_get 0 hG dX12_sweepsSide_32 f_X12_7 (by decide) rfl ?_
        refine g_bipushv hG dX12_sweepsSide_35 kb_9 ?_
        refine g_aload_n hG dX12_sweepsSide_37 rfl ?_
        refine r_get 0 hG dX12_sweepsSide_38 f_X12_7 (by decide) rfl ?_
        refine g_bipushv hG dX12_sweepsSide_41 kb_9 ?_
        refine r_iald 1 0 240 hG dX12_sweepsSide_43 rfl (by decide) (by decide : Int32.toNatClampNeg (9 : Int32) = 9) ?_
        refine g_aload_n hG dX12_sweepsSide_44 rfl ?_
        refine r_get 0 hG dX12_sweepsSide_45 f_X12_7 (by decide) rfl ?_
        refine g_bipushv hG dX12_sweepsSide_48 kb_8 ?_
        refine r_iald 1 0 240 hG dX12_sweepsSide_50 rfl (by decide) (by decide : Int32.toNatClampNeg (8 : Int32) = 8) ?_
        refine g_iadd hG dX12_sweepsSide_51 ?_
        refine g_iconstv hG dX12_sweepsSide_52 ki_0 ?_
        refine g_ldc hG dX12_sweepsSide_53 k_X12_72 ?_
        obtain ⟨v6, σ7, q8, h⟩ := ob_some h
        refine g_cS hG dX12_sweepsSide_55 (c_M_held q8) b_X12_held v_X12_141 rfl ⟨Nat.le_of_ble_eq_true rfl, Nat.le_of_ble_eq_true rfl⟩ ⟨rfl, rfl⟩ ⟨Nat.zero_le _, Nat.zero_le _⟩ _ rfl (Nat.le_of_ble_eq_true rfl) ?_
        obtain ⟨σ9, e10, h⟩ := lt_ex h
        refine r_iast 1 0 240 hG e10 dX12_sweepsSide_58 rfl (by decide) (by decide : Int32.toNatClampNeg (9 : Int32) = 9) rfl ?_
        refine g_goto (tgt := 83) hG dX12_sweepsSide_59 rfl ?_
        refine g_loc hG [(0, .ref (r 25)), (3, .int x3), (4, .int x4)] ⟨rfl, rfl, rfl, trivial⟩ ?_
        exact s_M_sweepsSide_b83  hG K ih h
      · refine g_icmp_ne (tgt := 62) hG dX12_sweepsSide_28 rfl (fun _ => ?_) (fun q => absurd q c5)
        refine g_aload_n hG dX12_sweepsSide_62 rfl ?_
        refine g_iload hG dX12_sweepsSide_63 rfl ?_
        refine g_iconstv hG dX12_sweepsSide_65 ki_2 ?_
        refine g_aload_n hG dX12_sweepsSide_66 rfl ?_
        refine g_iload hG dX12_sweepsSide_67 rfl ?_
        refine g_iconstv hG dX12_sweepsSide_69 ki_2 ?_
        obtain ⟨v11, σ12, q13, h⟩ := ob_some h
        refine g_cV hG dX12_sweepsSide_70 (c_M_its q13) b_X12_its v_X12_59 rfl (k := 0) rfl rfl ⟨Nat.le_of_ble_eq_true rfl, Nat.le_of_ble_eq_true rfl⟩ ⟨rfl, rfl⟩ ⟨Nat.zero_le _, Nat.zero_le _⟩ _ rfl (Nat.le_of_ble_eq_true rfl) ?_
        refine g_aload_n hG dX12_sweepsSide_73 rfl ?_
        refine g_iload hG dX12_sweepsSide_74 rfl ?_
        obtain ⟨v14, σ15, q16, h⟩ := ob_some h
        refine g_cV hG dX12_sweepsSide_76 (c_M_taken q16) b_X12_taken v_X12_66 rfl (k := 0) rfl rfl ⟨Nat.le_of_ble_eq_true rfl, Nat.le_of_ble_eq_true rfl⟩ ⟨rfl, rfl⟩ ⟨Nat.zero_le _, Nat.zero_le _⟩ _ rfl (Nat.le_of_ble_eq_true rfl) ?_
        refine g_isub hG dX12_sweepsSide_79 ?_
        obtain ⟨v17, σ18, q19, h⟩ := ob_some h
        refine g_cVv hG dX12_sweepsSide_80 (c_M_gets q19) b_X12_gets v_X12_51 rfl (k := 0) rfl rfl ⟨Nat.le_of_ble_eq_true rfl, Nat.le_of_ble_eq_true rfl⟩ ⟨rfl, rfl⟩ ⟨Nat.zero_le _, Nat.zero_le _⟩ _ rfl (Nat.le_of_ble_eq_true rfl) ?_
        refine g_loc hG [(0, .ref (r 25)), (3, .int x3), (4, .int x4)] ⟨rfl, rfl, rfl, trivial⟩ ?_
        exact s_M_sweepsSide_b83  hG K ih h
def M_sweepsSide (x1 : Int32) (x2 : Int32) (σ : RS) : Option (Int32 × RS) := (ob (M_stayers x1 x2 σ) fun v1 σ2 => (M_sweepsSide_b10  FU v1 x1 σ2))
set_option maxRecDepth 100000 in
set_option maxHeartbeats 4000000 in
theorem c_M_sweepsSide {g : GP} {l : Launch} {r : Nat → Nat} {X : va_W} {v9 : Int32} {s9 : RS} {x1 : Int32} {x2 : Int32} {σ : RS} (h : M_sweepsSide x1 x2 σ = some (v9, s9)) : CV g l yX12_sweepsSide cX12_sweepsSide 5 { frames := 2, cells := 0, slots := 0, locals := 48 } [.ref (r 25), .int x1, .int x2] (wR g r σ X) (fun w => w = wR g r s9 X) := by
  refine CV.mk (by decide) (Nat.le_of_ble_eq_true rfl) (fun G hG hret => ?_)
  have K : ∀ L pc, decode cX12_sweepsSide pc = .ok (.return_, 1) → G 0 0 (wR g r s9 X) L pc [] := fun L pc d => hret _ L pc d rfl
  unfold M_sweepsSide at h
  refine g_aload_n hG dX12_sweepsSide_0 rfl ?_
  refine g_iload_n hG dX12_sweepsSide_1 rfl ?_
  refine g_iload_n hG dX12_sweepsSide_2 rfl ?_
  obtain ⟨v1, σ2, q3, h⟩ := ob_some h
  refine g_cV hG dX12_sweepsSide_3 (c_M_stayers q3) b_X12_stayers v_X12_161 rfl (k := 0) rfl rfl ⟨Nat.le_of_ble_eq_true rfl, Nat.le_of_ble_eq_true rfl⟩ ⟨rfl, rfl⟩ ⟨Nat.zero_le _, Nat.zero_le _⟩ _ rfl (Nat.le_of_ble_eq_true rfl) ?_
  refine g_istore_n hG dX12_sweepsSide_6 (by decide) ?_
  refine g_iload_n hG dX12_sweepsSide_7 rfl ?_
  refine g_istore hG dX12_sweepsSide_8 (by decide) ?_
  refine g_loc hG [(0, .ref (r 25)), (3, .int v1), (4, .int x1)] ⟨rfl, rfl, rfl, trivial⟩ ?_
  exact s_M_sweepsSide_b10  hG K FU _ _ _ h
def M_oneDay_b164 (x1 : Int32) (x2 : Int32) (σ : RS) : Option (Int32 × RS) := (if x2 = 0 then (lt (ra σ 0 (upd (σ.2 0) 0 ((σ.2 0 0) + (1 : Int32)))) fun σ11 => (some ((0 : Int32), σ11))) else (if x1 = 0 then (ob (M_placesOn (0 : Int32) σ) fun v14 σ15 => (ob (M_sweepsSide (1 : Int32) v14 σ15) fun v17 σ18 => (lt (ra σ18 0 (upd (σ18.2 0) 0 ((σ18.2 0 0) + (1 : Int32)))) fun σ20 => (some ((0 : Int32), σ20))))) else (ob (M_sweepsSide (1 : Int32) (0 : Int32) σ) fun v22 σ23 => (lt (ra σ23 0 (upd (σ23.2 0) 0 ((σ23.2 0 0) + (1 : Int32)))) fun σ25 => (some ((0 : Int32), σ25))))))
set_option maxRecDepth 100000 in
set_option maxHeartbeats 4000000 in
theorem s_M_oneDay_b164 {g : GP} {l : Launch} {r : Nat → Nat} {X : va_W} {G : GT} {v9 : Int32} {s9 : RS} (hG : IsG g l yX12_oneDay cX12_oneDay 3 { frames := 57, cells := 0, slots := 0, locals := 1297 } G) (K : ∀ L pc, decode cX12_oneDay pc = .ok (.return_, 1) → G 0 0 (wR g r s9 X) L pc []) {x1 : Int32} {x2 : Int32} {σ : RS} (h : M_oneDay_b164  x1 x2 σ = some (v9, s9)) : G 0 0 (wR g r σ X) [(0, .ref (r 25)), (1, .int x1), (2, .int x2)] 164 [] := by
  unfold M_oneDay_b164 at h
  refine g_iload_n hG dX12_oneDay_164 rfl ?_
  rcases if_some h with ⟨c10, h⟩ | ⟨c10, h⟩
  · refine g_if_eq (tgt := 186) hG dX12_oneDay_165 rfl (fun _ => ?_) (fun q => absurd c10 q)
    refine g_aload_n hG dX12_oneDay_186 rfl ?_
    refine r_get 0 hG dX12_oneDay_187 f_X12_7 (by decide) rfl ?_
    refine g_iconstv hG dX12_oneDay_190 ki_0 ?_
    refine g_dup2 hG dX12_oneDay_191 rfl rfl ?_
    refine r_iald 1 0 240 hG dX12_oneDay_192 rfl (by decide) (by decide : Int32.toNatClampNeg (0 : Int32) = 0) ?_
    refine g_iconstv hG dX12_oneDay_193 ki_1 ?_
    refine g_iadd hG dX12_oneDay_194 ?_
    obtain ⟨σ11, e12, h⟩ := lt_ex h
    refine r_iast 1 0 240 hG e12 dX12_oneDay_195 rfl (by decide) (by decide : Int32.toNatClampNeg (0 : Int32) = 0) rfl ?_
    cases h
    exact K _ _ dX12_oneDay_196
  · refine g_if_eq (tgt := 186) hG dX12_oneDay_165 rfl (fun q => absurd q c10) (fun _ => ?_)
    refine g_aload_n hG dX12_oneDay_168 rfl ?_
    refine g_iconstv hG dX12_oneDay_169 ki_1 ?_
    refine g_iload_n hG dX12_oneDay_170 rfl ?_
    rcases if_some h with ⟨c13, h⟩ | ⟨c13, h⟩
    · refine g_if_eq (tgt := 178) hG dX12_oneDay_171 rfl (fun _ => ?_) (fun q => absurd c13 q)
      refine g_aload_n hG dX12_oneDay_178 rfl ?_
      refine g_iconstv hG dX12_oneDay_179 ki_0 ?_
      obtain ⟨v14, σ15, q16, h⟩ := ob_some h
      refine g_cV hG dX12_oneDay_180 (c_M_placesOn q16) b_X12_placesOn v_X12_164 rfl (k := 0) rfl rfl ⟨Nat.le_of_ble_eq_true rfl, Nat.le_of_ble_eq_true rfl⟩ ⟨rfl, rfl⟩ ⟨Nat.zero_le _, Nat.zero_le _⟩ _ rfl (Nat.le_of_ble_eq_true rfl) ?_
      obtain ⟨v17, σ18, q19, h⟩ := ob_some h
      refine g_cVv hG dX12_oneDay_183 (c_M_sweepsSide q19) b_X12_sweepsSide v_X12_167 rfl (k := 0) rfl rfl ⟨Nat.le_of_ble_eq_true rfl, Nat.le_of_ble_eq_true rfl⟩ ⟨rfl, rfl⟩ ⟨Nat.zero_le _, Nat.zero_le _⟩ _ rfl (Nat.le_of_ble_eq_true rfl) ?_
      refine g_aload_n hG dX12_oneDay_186 rfl ?_
      refine r_get 0 hG dX12_oneDay_187 f_X12_7 (by decide) rfl ?_
      refine g_iconstv hG dX12_oneDay_190 ki_0 ?_
      refine g_dup2 hG dX12_oneDay_191 rfl rfl ?_
      refine r_iald 1 0 240 hG dX12_oneDay_192 rfl (by decide) (by decide : Int32.toNatClampNeg (0 : Int32) = 0) ?_
      refine g_iconstv hG dX12_oneDay_193 ki_1 ?_
      refine g_iadd hG dX12_oneDay_194 ?_
      obtain ⟨σ20, e21, h⟩ := lt_ex h
      refine r_iast 1 0 240 hG e21 dX12_oneDay_195 rfl (by decide) (by decide : Int32.toNatClampNeg (0 : Int32) = 0) rfl ?_
      cases h
      exact K _ _ dX12_oneDay_196
    · refine g_if_eq (tgt := 178) hG dX12_oneDay_171 rfl (fun q => absurd q c13) (fun _ => ?_)
      refine g_iconstv hG dX12_oneDay_174 ki_0 ?_
      refine g_goto (tgt := 183) hG dX12_oneDay_175 rfl ?_
      obtain ⟨v22, σ23, q24, h⟩ := ob_some h
      refine g_cVv hG dX12_oneDay_183 (c_M_sweepsSide q24) b_X12_sweepsSide v_X12_167 rfl (k := 0) rfl rfl ⟨Nat.le_of_ble_eq_true rfl, Nat.le_of_ble_eq_true rfl⟩ ⟨rfl, rfl⟩ ⟨Nat.zero_le _, Nat.zero_le _⟩ _ rfl (Nat.le_of_ble_eq_true rfl) ?_
      refine g_aload_n hG dX12_oneDay_186 rfl ?_
      refine r_get 0 hG dX12_oneDay_187 f_X12_7 (by decide) rfl ?_
      refine g_iconstv hG dX12_oneDay_190 ki_0 ?_
      refine g_dup2 hG dX12_oneDay_191 rfl rfl ?_
      refine r_iald 1 0 240 hG dX12_oneDay_192 rfl (by decide) (by decide : Int32.toNatClampNeg (0 : Int32) = 0) ?_
      refine g_iconstv hG dX12_oneDay_193 ki_1 ?_
      refine g_iadd hG dX12_oneDay_194 ?_
      obtain ⟨σ25, e26, h⟩ := lt_ex h
      refine r_iast 1 0 240 hG e26 dX12_oneDay_195 rfl (by decide) (by decide : Int32.toNatClampNeg (0 : Int32) = 0) rfl ?_
      cases h
      exact K _ _ dX12_oneDay_196
def M_oneDay_b161 (x1 : Int32) (x2 : Int32) (s1 : Int32) (s2 : Int32) (σ : RS) : Option (Int32 × RS) := (ob (M_sweepsSide s1 s2 σ) fun v31 σ32 => (M_oneDay_b164  x1 x2 σ32))
set_option maxRecDepth 100000 in
set_option maxHeartbeats 4000000 in
theorem s_M_oneDay_b161 {g : GP} {l : Launch} {r : Nat → Nat} {X : va_W} {G : GT} {v9 : Int32} {s9 : RS} (hG : IsG g l yX12_oneDay cX12_oneDay 3 { frames := 57, cells := 0, slots := 0, locals := 1297 } G) (K : ∀ L pc, decode cX12_oneDay pc = .ok (.return_, 1) → G 0 0 (wR g r s9 X) L pc []) {x1 : Int32} {x2 : Int32} {s1 : Int32} {s2 : Int32} {σ : RS} (h : M_oneDay_b161  x1 x2 s1 s2 σ = some (v9, s9)) : G 0 0 (wR g r σ X) [(0, .ref (r 25)), (1, .int x1), (2, .int x2)] 161 [.int s2, .int s1, .ref (r 25)] := by
  unfold M_oneDay_b161 at h
  obtain ⟨v31, σ32, q33, h⟩ := ob_some h
  refine g_cVv hG dX12_oneDay_161 (c_M_sweepsSide q33) b_X12_sweepsSide v_X12_167 rfl (k := 0) rfl rfl ⟨Nat.le_of_ble_eq_true rfl, Nat.le_of_ble_eq_true rfl⟩ ⟨rfl, rfl⟩ ⟨Nat.zero_le _, Nat.zero_le _⟩ _ rfl (Nat.le_of_ble_eq_true rfl) ?_
  refine g_loc hG [(0, .ref (r 25)), (1, .int x1), (2, .int x2)] ⟨rfl, rfl, rfl, trivial⟩ ?_
  exact s_M_oneDay_b164  hG K  h
def M_oneDay_b45 : Nat → Int32 → RS → Option (Int32 × RS)
  | 0, _, _ => none
  | n + 1, x1, σ => (if (σ.2 0 2) ≤ x1 then (ob (M_isSigned (0 : Int32) (σ.2 0 0) σ) fun v3 σ4 => (ob (M_isSigned (1 : Int32) (σ4.2 0 0) σ4) fun v6 σ7 => (if v3 = 0 then (M_oneDay_b164  v3 v6 σ7) else (if v6 = 0 then (ob (M_placesOn (1 : Int32) σ7) fun v28 σ29 => (M_oneDay_b161  v3 v6 (0 : Int32) v28 σ29)) else (M_oneDay_b161  v3 v6 (0 : Int32) (0 : Int32) σ7))))) else (ob (M_its x1 (2 : Int32) σ) fun v34 σ35 => (lt ((v34 * (σ35.2 0 7)) / (20 : Int32)) fun v37 => (ob (M_its x1 (2 : Int32) σ35) fun v39 σ40 => (ob (M_gets x1 (2 : Int32) (v39 - v37) σ40) fun v42 σ43 => (ob (M_its (x1 - (1 : Int32)) (2 : Int32) σ43) fun v45 σ46 => (ob (M_held (v45 + v37) (0 : Int32) (999 : Int32) σ46) fun v48 σ49 => (ob (M_gets (x1 - (1 : Int32)) (2 : Int32) v48 σ49) fun v51 σ52 => ((M_oneDay_b45  n) (x1 + (2 : Int32)) σ52)))))))))
set_option maxRecDepth 100000 in
set_option maxHeartbeats 4000000 in
theorem s_M_oneDay_b45 {g : GP} {l : Launch} {r : Nat → Nat} {X : va_W} {G : GT} {v9 : Int32} {s9 : RS} (hG : IsG g l yX12_oneDay cX12_oneDay 3 { frames := 57, cells := 0, slots := 0, locals := 1297 } G) (K : ∀ L pc, decode cX12_oneDay pc = .ok (.return_, 1) → G 0 0 (wR g r s9 X) L pc []) : ∀ (n : Nat) (x1 : Int32) (σ : RS) (h : M_oneDay_b45  n x1 σ = some (v9, s9)), G 0 0 (wR g r σ X) [(0, .ref (r 25)), (1, .int x1)] 45 [] := by
  intro n
  induction n with
  | zero => intro _ σ h; cases h
  | succ n ih =>
    intro x1 σ h
    unfold M_oneDay_b45 at h
    refine g_iload_n hG dX12_oneDay_45 rfl ?_
    refine g_aload_n hG dX12_oneDay_46 rfl ?_
    refine r_get 0 hG dX12_oneDay_47 f_X12_7 (by decide) rfl ?_
    refine g_iconstv hG dX12_oneDay_50 ki_2 ?_
    refine r_iald 1 0 240 hG dX12_oneDay_51 rfl (by decide) (by decide : Int32.toNatClampNeg (2 : Int32) = 2) ?_
    rcases if_some h with ⟨c2, h⟩ | ⟨c2, h⟩
    · refine g_icmp_ge (tgt := 118) hG dX12_oneDay_52 rfl (fun _ => ?_) (fun q => absurd c2 q)
      refine g_aload_n hG dX12_oneDay_118 rfl ?_
      refine g_iconstv hG dX12_oneDay_119 ki_0 ?_
      refine g_aload_n hG dX12_oneDay_120 rfl ?_
      refine r_get 0 hG dX12_oneDay_121 f_X12_7 (by decide) rfl ?_
      refine g_iconstv hG dX12_oneDay_124 ki_0 ?_
      refine r_iald 1 0 240 hG dX12_oneDay_125 rfl (by decide) (by decide : Int32.toNatClampNeg (0 : Int32) = 0) ?_
      obtain ⟨v3, σ4, q5, h⟩ := ob_some h
      refine g_cV hG dX12_oneDay_126 (c_M_isSigned q5) b_X12_isSigned v_X12_157 rfl (k := 0) rfl rfl ⟨Nat.le_of_ble_eq_true rfl, Nat.le_of_ble_eq_true rfl⟩ ⟨rfl, rfl⟩ ⟨Nat.zero_le _, Nat.zero_le _⟩ _ rfl (Nat.le_of_ble_eq_true rfl) ?_
      refine g_istore_n hG dX12_oneDay_129 (by decide) ?_
      refine g_aload_n hG dX12_oneDay_130 rfl ?_
      refine g_iconstv hG dX12_oneDay_131 ki_1 ?_
      refine g_aload_n hG dX12_oneDay_132 rfl ?_
      refine r_get 0 hG dX12_oneDay_133 f_X12_7 (by decide) rfl ?_
      refine g_iconstv hG dX12_oneDay_136 ki_0 ?_
      refine r_iald 1 0 240 hG dX12_oneDay_137 rfl (by decide) (by decide : Int32.toNatClampNeg (0 : Int32) = 0) ?_
      obtain ⟨v6, σ7, q8, h⟩ := ob_some h
      refine g_cV hG dX12_oneDay_138 (c_M_isSigned q8) b_X12_isSigned v_X12_157 rfl (k := 0) rfl rfl ⟨Nat.le_of_ble_eq_true rfl, Nat.le_of_ble_eq_true rfl⟩ ⟨rfl, rfl⟩ ⟨Nat.zero_le _, Nat.zero_le _⟩ _ rfl (Nat.le_of_ble_eq_true rfl) ?_
      refine g_istore_n hG dX12_oneDay_141 (by decide) ?_
      refine g_iload_n hG dX12_oneDay_142 rfl ?_
      rcases if_some h with ⟨c9, h⟩ | ⟨c9, h⟩
      · refine g_if_eq (tgt := 164) hG dX12_oneDay_143 rfl (fun _ => ?_) (fun q => absurd c9 q)
        refine g_loc hG [(0, .ref (r 25)), (1, .int v3), (2, .int v6)] ⟨rfl, rfl, rfl, trivial⟩ ?_
        exact s_M_oneDay_b164  hG K  h
      · refine g_if_eq (tgt := 164) hG dX12_oneDay_143 rfl (fun q => absurd q c9) (fun _ => ?_)
        refine g_aload_n hG dX12_oneDay_146 rfl ?_
        refine g_iconstv hG dX12_oneDay_147 ki_0 ?_
        refine g_iload_n hG dX12_oneDay_148 rfl ?_
        rcases if_some h with ⟨c27, h⟩ | ⟨c27, h⟩
        · refine g_if_eq (tgt := 156) hG dX12_oneDay_149 rfl (fun _ => ?_) (fun q => absurd c27 q)
          refine g_aload_n hG dX12_oneDay_156 rfl ?_
          refine g_iconstv hG dX12_oneDay_157 ki_1 ?_
          obtain ⟨v28, σ29, q30, h⟩ := ob_some h
          refine g_cV hG dX12_oneDay_158 (c_M_placesOn q30) b_X12_placesOn v_X12_164 rfl (k := 0) rfl rfl ⟨Nat.le_of_ble_eq_true rfl, Nat.le_of_ble_eq_true rfl⟩ ⟨rfl, rfl⟩ ⟨Nat.zero_le _, Nat.zero_le _⟩ _ rfl (Nat.le_of_ble_eq_true rfl) ?_
          refine g_loc hG [(0, .ref (r 25)), (1, .int v3), (2, .int v6)] ⟨rfl, rfl, rfl, trivial⟩ ?_
          exact s_M_oneDay_b161  hG K  h
        · refine g_if_eq (tgt := 156) hG dX12_oneDay_149 rfl (fun q => absurd q c27) (fun _ => ?_)
          refine g_iconstv hG dX12_oneDay_152 ki_0 ?_
          refine g_goto (tgt := 161) hG dX12_oneDay_153 rfl ?_
          refine g_loc hG [(0, .ref (r 25)), (1, .int v3), (2, .int v6)] ⟨rfl, rfl, rfl, trivial⟩ ?_
          exact s_M_oneDay_b161  hG K  h
    · refine g_icmp_ge (tgt := 118) hG dX12_oneDay_52 rfl (fun q => absurd q c2) (fun _ => ?_)
      refine g_aload_n hG dX12_oneDay_55 rfl ?_
      refine g_iload_n hG dX12_oneDay_56 rfl ?_
      refine g_iconstv hG dX12_oneDay_57 ki_2 ?_
      obtain ⟨v34, σ35, q36, h⟩ := ob_some h
      refine g_cV hG dX12_oneDay_58 (c_M_its q36) b_X12_its v_X12_59 rfl (k := 0) rfl rfl ⟨Nat.le_of_ble_eq_true rfl, Nat.le_of_ble_eq_true rfl⟩ ⟨rfl, rfl⟩ ⟨Nat.zero_le _, Nat.zero_le _⟩ _ rfl (Nat.le_of_ble_eq_true rfl) ?_
      refine g_aload_n hG dX12_oneDay_61 rfl ?_
      refine r_get 0 hG dX12_oneDay_62 f_X12_7 (by decide) rfl ?_
      refine g_bipushv hG dX12_oneDay_65 kb_7 ?_
      refine r_iald 1 0 240 hG dX12_oneDay_67 rfl (by decide) (by decide : Int32.toNatClampNeg (7 : Int32) = 7) ?_
      refine g_imul hG dX12_oneDay_68 ?_
      refine g_bipushv hG dX12_oneDay_69 kb_20 ?_
      refine g_idiv hG dX12_oneDay_71 (by decide) ?_
      obtain ⟨v37, e38, h⟩ := lt_ex h
      refine g_nam e38 ?_
      refine g_istore_n hG dX12_oneDay_72 (by decide) ?_
      refine g_aload_n hG dX12_oneDay_73 rfl ?_
      refine g_iload_n hG dX12_oneDay_74 rfl ?_
      refine g_iconstv hG dX12_oneDay_75 ki_2 ?_
      refine g_aload_n hG dX12_oneDay_76 rfl ?_
      refine g_iload_n hG dX12_oneDay_77 rfl ?_
      refine g_iconstv hG dX12_oneDay_78 ki_2 ?_
      obtain ⟨v39, σ40, q41, h⟩ := ob_some h
      refine g_cV hG dX12_oneDay_79 (c_M_its q41) b_X12_its v_X12_59 rfl (k := 0) rfl rfl ⟨Nat.le_of_ble_eq_true rfl, Nat.le_of_ble_eq_true rfl⟩ ⟨rfl, rfl⟩ ⟨Nat.zero_le _, Nat.zero_le _⟩ _ rfl (Nat.le_of_ble_eq_true rfl) ?_
      refine g_iload_n hG dX12_oneDay_82 rfl ?_
      refine g_isub hG dX12_oneDay_83 ?_
      obtain ⟨v42, σ43, q44, h⟩ := ob_some h
      refine g_cVv hG dX12_oneDay_84 (c_M_gets q44) b_X12_gets v_X12_51 rfl (k := 0) rfl rfl ⟨Nat.le_of_ble_eq_true rfl, Nat.le_of_ble_eq_true rfl⟩ ⟨rfl, rfl⟩ ⟨Nat.zero_le _, Nat.zero_le _⟩ _ rfl (Nat.le_of_ble_eq_true rfl) ?_
      refine g_aload_n hG dX12_oneDay_87 rfl ?_
      refine g_iload_n hG dX12_oneDay_88 rfl ?_
      refine g_iconstv hG dX12_oneDay_89 ki_1 ?_
      refine g_isub hG dX12_oneDay_90 ?_
      refine g_iconstv hG dX12_oneDay_91 ki_2 ?_
      refine g_aload_n hG dX12_oneDay_92 rfl ?_
      refine g_iload_n hG dX12_oneDay_93 rfl ?_
      refine g_iconstv hG dX12_oneDay_94 ki_1 ?_
      refine g_isub hG dX12_oneDay_95 ?_
      refine g_iconstv hG dX12_oneDay_96 ki_2 ?_
      obtain ⟨v45, σ46, q47, h⟩ := ob_some h
      refine g_cV hG dX12_oneDay_97 (c_M_its q47) b_X12_its v_X12_59 rfl (k := 0) rfl rfl ⟨Nat.le_of_ble_eq_true rfl, Nat.le_of_ble_eq_true rfl⟩ ⟨rfl, rfl⟩ ⟨Nat.zero_le _, Nat.zero_le _⟩ _ rfl (Nat.le_of_ble_eq_true rfl) ?_
      refine g_iload_n hG dX12_oneDay_100 rfl ?_
      refine g_iadd hG dX12_oneDay_101 ?_
      refine g_iconstv hG dX12_oneDay_102 ki_0 ?_
      refine g_sipushv hG dX12_oneDay_103 ks_999 ?_
      obtain ⟨v48, σ49, q50, h⟩ := ob_some h
      refine g_cS hG dX12_oneDay_106 (c_M_held q50) b_X12_held v_X12_141 rfl ⟨Nat.le_of_ble_eq_true rfl, Nat.le_of_ble_eq_true rfl⟩ ⟨rfl, rfl⟩ ⟨Nat.zero_le _, Nat.zero_le _⟩ _ rfl (Nat.le_of_ble_eq_true rfl) ?_
      obtain ⟨v51, σ52, q53, h⟩ := ob_some h
      refine g_cVv hG dX12_oneDay_109 (c_M_gets q53) b_X12_gets v_X12_51 rfl (k := 0) rfl rfl ⟨Nat.le_of_ble_eq_true rfl, Nat.le_of_ble_eq_true rfl⟩ ⟨rfl, rfl⟩ ⟨Nat.zero_le _, Nat.zero_le _⟩ _ rfl (Nat.le_of_ble_eq_true rfl) ?_
      refine g_iincv (c := (2 : Int32)) hG dX12_oneDay_112 rfl (by decide) (by decide) ?_
      refine g_goto (tgt := 45) hG dX12_oneDay_115 rfl ?_
      refine g_loc hG [(0, .ref (r 25)), (1, .int (x1 + (2 : Int32)))] ⟨rfl, rfl, trivial⟩ ?_
      exact ih _ _ h
def M_oneDay_b2 : Nat → Int32 → RS → Option (Int32 × RS)
  | 0, _, _ => none
  | n + 1, x1, σ => (if (σ.2 0 2) ≤ x1 then (M_oneDay_b45  FU (1 : Int32) σ) else (ob (M_its x1 (2 : Int32) σ) fun v54 σ55 => (ob (M_falling x1 σ55) fun v57 σ58 => (ob (M_held (v54 + v57) (0 : Int32) (999 : Int32) σ58) fun v60 σ61 => (ob (M_gets x1 (2 : Int32) v60 σ61) fun v63 σ64 => ((M_oneDay_b2  n) (x1 + (1 : Int32)) σ64))))))
set_option maxRecDepth 100000 in
set_option maxHeartbeats 4000000 in
theorem s_M_oneDay_b2 {g : GP} {l : Launch} {r : Nat → Nat} {X : va_W} {G : GT} {v9 : Int32} {s9 : RS} (hG : IsG g l yX12_oneDay cX12_oneDay 3 { frames := 57, cells := 0, slots := 0, locals := 1297 } G) (K : ∀ L pc, decode cX12_oneDay pc = .ok (.return_, 1) → G 0 0 (wR g r s9 X) L pc []) : ∀ (n : Nat) (x1 : Int32) (σ : RS) (h : M_oneDay_b2  n x1 σ = some (v9, s9)), G 0 0 (wR g r σ X) [(0, .ref (r 25)), (1, .int x1)] 2 [] := by
  intro n
  induction n with
  | zero => intro _ σ h; cases h
  | succ n ih =>
    intro x1 σ h
    unfold M_oneDay_b2 at h
    refine g_iload_n hG dX12_oneDay_2 rfl ?_
    refine g_aload_n hG dX12_oneDay_3 rfl ?_
    refine r_get 0 hG dX12_oneDay_4 f_X12_7 (by decide) rfl ?_
    refine g_iconstv hG dX12_oneDay_7 ki_2 ?_
    refine r_iald 1 0 240 hG dX12_oneDay_8 rfl (by decide) (by decide : Int32.toNatClampNeg (2 : Int32) = 2) ?_
    rcases if_some h with ⟨c1, h⟩ | ⟨c1, h⟩
    · refine g_icmp_ge (tgt := 43) hG dX12_oneDay_9 rfl (fun _ => ?_) (fun q => absurd c1 q)
      refine g_iconstv hG dX12_oneDay_43 ki_1 ?_
      refine g_istore_n hG dX12_oneDay_44 (by decide) ?_
      refine g_loc hG [(0, .ref (r 25)), (1, .int (1 : Int32))] ⟨rfl, rfl, trivial⟩ ?_
      exact s_M_oneDay_b45  hG K FU _ _ h
    · refine g_icmp_ge (tgt := 43) hG dX12_oneDay_9 rfl (fun q => absurd q c1) (fun _ => ?_)
      refine g_aload_n hG dX12_oneDay_12 rfl ?_
      refine g_iload_n hG dX12_oneDay_13 rfl ?_
      refine g_iconstv hG dX12_oneDay_14 ki_2 ?_
      refine g_aload_n hG dX12_oneDay_15 rfl ?_
      refine g_iload_n hG dX12_oneDay_16 rfl ?_
      refine g_iconstv hG dX12_oneDay_17 ki_2 ?_
      obtain ⟨v54, σ55, q56, h⟩ := ob_some h
      refine g_cV hG dX12_oneDay_18 (c_M_its q56) b_X12_its v_X12_59 rfl (k := 0) rfl rfl ⟨Nat.le_of_ble_eq_true rfl, Nat.le_of_ble_eq_true rfl⟩ ⟨rfl, rfl⟩ ⟨Nat.zero_le _, Nat.zero_le _⟩ _ rfl (Nat.le_of_ble_eq_true rfl) ?_
      refine g_aload_n hG dX12_oneDay_21 rfl ?_
      refine g_iload_n hG dX12_oneDay_22 rfl ?_
      obtain ⟨v57, σ58, q59, h⟩ := ob_some h
      refine g_cV hG dX12_oneDay_23 (c_M_falling q59) b_X12_falling v_X12_63 rfl (k := 0) rfl rfl ⟨Nat.le_of_ble_eq_true rfl, Nat.le_of_ble_eq_true rfl⟩ ⟨rfl, rfl⟩ ⟨Nat.zero_le _, Nat.zero_le _⟩ _ rfl (Nat.le_of_ble_eq_true rfl) ?_
      refine g_iadd hG dX12_oneDay_26 ?_
      refine g_iconstv hG dX12_oneDay_27 ki_0 ?_
      refine g_sipushv hG dX12_oneDay_28 ks_999 ?_
      obtain ⟨v60, σ61, q62, h⟩ := ob_some h
      refine g_cS hG dX12_oneDay_31 (c_M_held q62) b_X12_held v_X12_141 rfl ⟨Nat.le_of_ble_eq_true rfl, Nat.le_of_ble_eq_true rfl⟩ ⟨rfl, rfl⟩ ⟨Nat.zero_le _, Nat.zero_le _⟩ _ rfl (Nat.le_of_ble_eq_true rfl) ?_
      obtain ⟨v63, σ64, q65, h⟩ := ob_some h
      refine g_cVv hG dX12_oneDay_34 (c_M_gets q65) b_X12_gets v_X12_51 rfl (k := 0) rfl rfl ⟨Nat.le_of_ble_eq_true rfl, Nat.le_of_ble_eq_true rfl⟩ ⟨rfl, rfl⟩ ⟨Nat.zero_le _, Nat.zero_le _⟩ _ rfl (Nat.le_of_ble_eq_true rfl) ?_
      refine g_iincv (c := (1 : Int32)) hG dX12_oneDay_37 rfl (by decide) (by decide) ?_
      refine g_goto (tgt := 2) hG dX12_oneDay_40 rfl ?_
      refine g_loc hG [(0, .ref (r 25)), (1, .int (x1 + (1 : Int32)))] ⟨rfl, rfl, trivial⟩ ?_
      exact ih _ _ h
def M_oneDay  (σ : RS) : Option (Int32 × RS) := (M_oneDay_b2  FU (0 : Int32) σ)
set_option maxRecDepth 100000 in
set_option maxHeartbeats 4000000 in
theorem c_M_oneDay {g : GP} {l : Launch} {r : Nat → Nat} {X : va_W} {v9 : Int32} {s9 : RS} {σ : RS} (h : M_oneDay  σ = some (v9, s9)) : CV g l yX12_oneDay cX12_oneDay 3 { frames := 57, cells := 0, slots := 0, locals := 1297 } [.ref (r 25)] (wR g r σ X) (fun w => w = wR g r s9 X) := by
  refine CV.mk (by decide) (Nat.le_of_ble_eq_true rfl) (fun G hG hret => ?_)
  have K : ∀ L pc, decode cX12_oneDay pc = .ok (.return_, 1) → G 0 0 (wR g r s9 X) L pc [] := fun L pc d => hret _ L pc d rfl
  unfold M_oneDay at h
  refine g_iconstv hG dX12_oneDay_0 ki_0 ?_
  refine g_istore_n hG dX12_oneDay_1 (by decide) ?_
  refine g_loc hG [(0, .ref (r 25)), (1, .int (0 : Int32))] ⟨rfl, rfl, trivial⟩ ?_
  exact s_M_oneDay_b2  hG K FU _ _ h
def M_passes_b2 : Nat → Int32 → Int32 → RS → Option (Int32 × RS)
  | 0, _, _, _ => none
  | n + 1, x1, x2, σ => (if x1 ≤ x2 then (some ((0 : Int32), σ)) else (ob (M_oneDay  σ) fun v2 σ3 => ((M_passes_b2  n) x1 (x2 + (1 : Int32)) σ3)))
set_option maxRecDepth 100000 in
set_option maxHeartbeats 4000000 in
theorem s_M_passes_b2 {g : GP} {l : Launch} {r : Nat → Nat} {X : va_W} {G : GT} {v9 : Int32} {s9 : RS} (hG : IsG g l yX12_passes cX12_passes 3 { frames := 58, cells := 0, slots := 0, locals := 1319 } G) (K : ∀ L pc, decode cX12_passes pc = .ok (.return_, 1) → G 0 0 (wR g r s9 X) L pc []) : ∀ (n : Nat) (x1 : Int32) (x2 : Int32) (σ : RS) (h : M_passes_b2  n x1 x2 σ = some (v9, s9)), G 0 0 (wR g r σ X) [(0, .ref (r 25)), (1, .int x1), (2, .int x2)] 2 [] := by
  intro n
  induction n with
  | zero => intro _ _ σ h; cases h
  | succ n ih =>
    intro x1 x2 σ h
    unfold M_passes_b2 at h
    refine g_iload_n hG dX12_passes_2 rfl ?_
    refine g_iload_n hG dX12_passes_3 rfl ?_
    rcases if_some h with ⟨c1, h⟩ | ⟨c1, h⟩
    · refine g_icmp_ge (tgt := 17) hG dX12_passes_4 rfl (fun _ => ?_) (fun q => absurd c1 q)
      cases h
      exact K _ _ dX12_passes_17
    · refine g_icmp_ge (tgt := 17) hG dX12_passes_4 rfl (fun q => absurd q c1) (fun _ => ?_)
      refine g_aload_n hG dX12_passes_7 rfl ?_
      obtain ⟨v2, σ3, q4, h⟩ := ob_some h
      refine g_cVv hG dX12_passes_8 (c_M_oneDay q4) b_X12_oneDay v_X12_171 rfl (k := 0) rfl rfl ⟨Nat.le_of_ble_eq_true rfl, Nat.le_of_ble_eq_true rfl⟩ ⟨rfl, rfl⟩ ⟨Nat.zero_le _, Nat.zero_le _⟩ _ rfl (Nat.le_of_ble_eq_true rfl) ?_
      refine g_iincv (c := (1 : Int32)) hG dX12_passes_11 rfl (by decide) (by decide) ?_
      refine g_goto (tgt := 2) hG dX12_passes_14 rfl ?_
      refine g_loc hG [(0, .ref (r 25)), (1, .int x1), (2, .int (x2 + (1 : Int32)))] ⟨rfl, rfl, rfl, trivial⟩ ?_
      exact ih _ _ _ h
def M_passes (x1 : Int32) (σ : RS) : Option (Int32 × RS) := (M_passes_b2  FU x1 (0 : Int32) σ)
set_option maxRecDepth 100000 in
set_option maxHeartbeats 4000000 in
theorem c_M_passes {g : GP} {l : Launch} {r : Nat → Nat} {X : va_W} {v9 : Int32} {s9 : RS} {x1 : Int32} {σ : RS} (h : M_passes x1 σ = some (v9, s9)) : CV g l yX12_passes cX12_passes 3 { frames := 58, cells := 0, slots := 0, locals := 1319 } [.ref (r 25), .int x1] (wR g r σ X) (fun w => w = wR g r s9 X) := by
  refine CV.mk (by decide) (Nat.le_of_ble_eq_true rfl) (fun G hG hret => ?_)
  have K : ∀ L pc, decode cX12_passes pc = .ok (.return_, 1) → G 0 0 (wR g r s9 X) L pc [] := fun L pc d => hret _ L pc d rfl
  unfold M_passes at h
  refine g_iconstv hG dX12_passes_0 ki_0 ?_
  refine g_istore_n hG dX12_passes_1 (by decide) ?_
  refine g_loc hG [(0, .ref (r 25)), (1, .int x1), (2, .int (0 : Int32))] ⟨rfl, rfl, rfl, trivial⟩ ?_
  exact s_M_passes_b2  hG K FU _ _ _ h
def M_allDirt_b4 : Nat → Int32 → Int32 → RS → Option (Int32 × RS)
  | 0, _, _, _ => none
  | n + 1, x1, x2, σ => (if (σ.2 0 2) ≤ x2 then (some (x1, σ)) else (ob (M_its x2 (2 : Int32) σ) fun v2 σ3 => (lt (x1 + v2) fun v5 => ((M_allDirt_b4  n) v5 (x2 + (1 : Int32)) σ3))))
set_option maxRecDepth 100000 in
set_option maxHeartbeats 4000000 in
theorem s_M_allDirt_b4 {g : GP} {l : Launch} {r : Nat → Nat} {X : va_W} {G : GT} {v9 : Int32} {s9 : RS} (hG : IsG g l yX12_allDirt cX12_allDirt 3 { frames := 1, cells := 0, slots := 0, locals := 22 } G) (K : ∀ L pc, decode cX12_allDirt pc = .ok (.ireturn, 1) → G 0 0 (wR g r s9 X) L pc [.int v9]) : ∀ (n : Nat) (x1 : Int32) (x2 : Int32) (σ : RS) (h : M_allDirt_b4  n x1 x2 σ = some (v9, s9)), G 0 0 (wR g r σ X) [(0, .ref (r 25)), (1, .int x1), (2, .int x2)] 4 [] := by
  intro n
  induction n with
  | zero => intro _ _ σ h; cases h
  | succ n ih =>
    intro x1 x2 σ h
    unfold M_allDirt_b4 at h
    refine g_iload_n hG dX12_allDirt_4 rfl ?_
    refine g_aload_n hG dX12_allDirt_5 rfl ?_
    refine r_get 0 hG dX12_allDirt_6 f_X12_7 (by decide) rfl ?_
    refine g_iconstv hG dX12_allDirt_9 ki_2 ?_
    refine r_iald 1 0 240 hG dX12_allDirt_10 rfl (by decide) (by decide : Int32.toNatClampNeg (2 : Int32) = 2) ?_
    rcases if_some h with ⟨c1, h⟩ | ⟨c1, h⟩
    · refine g_icmp_ge (tgt := 29) hG dX12_allDirt_11 rfl (fun _ => ?_) (fun q => absurd c1 q)
      refine g_iload_n hG dX12_allDirt_29 rfl ?_
      cases h
      exact K _ _ dX12_allDirt_30
    · refine g_icmp_ge (tgt := 29) hG dX12_allDirt_11 rfl (fun q => absurd q c1) (fun _ => ?_)
      refine g_iload_n hG dX12_allDirt_14 rfl ?_
      refine g_aload_n hG dX12_allDirt_15 rfl ?_
      refine g_iload_n hG dX12_allDirt_16 rfl ?_
      refine g_iconstv hG dX12_allDirt_17 ki_2 ?_
      obtain ⟨v2, σ3, q4, h⟩ := ob_some h
      refine g_cV hG dX12_allDirt_18 (c_M_its q4) b_X12_its v_X12_59 rfl (k := 0) rfl rfl ⟨Nat.le_of_ble_eq_true rfl, Nat.le_of_ble_eq_true rfl⟩ ⟨rfl, rfl⟩ ⟨Nat.zero_le _, Nat.zero_le _⟩ _ rfl (Nat.le_of_ble_eq_true rfl) ?_
      refine g_iadd hG dX12_allDirt_21 ?_
      obtain ⟨v5, e6, h⟩ := lt_ex h
      refine g_nam e6 ?_
      refine g_istore_n hG dX12_allDirt_22 (by decide) ?_
      refine g_iincv (c := (1 : Int32)) hG dX12_allDirt_23 rfl (by decide) (by decide) ?_
      refine g_goto (tgt := 4) hG dX12_allDirt_26 rfl ?_
      refine g_loc hG [(0, .ref (r 25)), (1, .int v5), (2, .int (x2 + (1 : Int32)))] ⟨rfl, rfl, rfl, trivial⟩ ?_
      exact ih _ _ _ h
def M_allDirt  (σ : RS) : Option (Int32 × RS) := (M_allDirt_b4  FU (0 : Int32) (0 : Int32) σ)
set_option maxRecDepth 100000 in
set_option maxHeartbeats 4000000 in
theorem c_M_allDirt {g : GP} {l : Launch} {r : Nat → Nat} {X : va_W} {v9 : Int32} {s9 : RS} {σ : RS} (h : M_allDirt  σ = some (v9, s9)) : CI g l yX12_allDirt cX12_allDirt 3 (some .int) { frames := 1, cells := 0, slots := 0, locals := 22 } [.ref (r 25)] (wR g r σ X) (fun r0 w => r0 = v9 ∧ w = wR g r s9 X) := by
  refine CI.mk (by decide) (Nat.le_of_ble_eq_true rfl) (fun G hG hret => ?_)
  have K : ∀ L pc, decode cX12_allDirt pc = .ok (.ireturn, 1) → G 0 0 (wR g r s9 X) L pc [.int v9] := fun L pc d => hret _ L pc v9 d rfl ⟨rfl, rfl⟩
  unfold M_allDirt at h
  refine g_iconstv hG dX12_allDirt_0 ki_0 ?_
  refine g_istore_n hG dX12_allDirt_1 (by decide) ?_
  refine g_iconstv hG dX12_allDirt_2 ki_0 ?_
  refine g_istore_n hG dX12_allDirt_3 (by decide) ?_
  refine g_loc hG [(0, .ref (r 25)), (1, .int (0 : Int32)), (2, .int (0 : Int32))] ⟨rfl, rfl, rfl, trivial⟩ ?_
  exact s_M_allDirt_b4  hG K FU _ _ _ h
def M_ofYard (x1 : Int32) (x2 : Int32) (σ : RS) : Option (Int32 × RS) := (ob (M_isYard x1 σ) fun v1 σ2 => (if v1 = 0 then (ob (M_errs (-1000000001 : Int32) σ2) fun v5 σ6 => (some (v5, σ6))) else (ob (M_in x2 (0 : Int32) (6 : Int32) σ2) fun v8 σ9 => (if v8 = 0 then (ob (M_errs (-1000000001 : Int32) σ9) fun v12 σ13 => (some (v12, σ13))) else (if (5 : Int32) ≤ x2 then (if x2 = (5 : Int32) then (ob (M_falling x1 σ9) fun v17 σ18 => (some (v17, σ18))) else (ob (M_taken x1 σ9) fun v20 σ21 => (some (v20, σ21)))) else (ob (M_its x1 x2 σ9) fun v23 σ24 => (some (v23, σ24))))))))
set_option maxRecDepth 100000 in
set_option maxHeartbeats 4000000 in
theorem c_M_ofYard {g : GP} {l : Launch} {r : Nat → Nat} {X : va_W} {v9 : Int32} {s9 : RS} {x1 : Int32} {x2 : Int32} {σ : RS} (h : M_ofYard x1 x2 σ = some (v9, s9)) : CI g l yX12_ofYard cX12_ofYard 3 (some .int) { frames := 57, cells := 0, slots := 0, locals := 1297 } [.ref (r 25), .int x1, .int x2] (wR g r σ X) (fun r0 w => r0 = v9 ∧ w = wR g r s9 X) := by
  refine CI.mk (by decide) (Nat.le_of_ble_eq_true rfl) (fun G hG hret => ?_)
  have K : ∀ L pc, decode cX12_ofYard pc = .ok (.ireturn, 1) → G 0 0 (wR g r s9 X) L pc [.int v9] := fun L pc d => hret _ L pc v9 d rfl ⟨rfl, rfl⟩
  unfold M_ofYard at h
  refine g_aload_n hG dX12_ofYard_0 rfl ?_
  refine g_iload_n hG dX12_ofYard_1 rfl ?_
  obtain ⟨v1, σ2, q3, h⟩ := ob_some h
  refine g_cV hG dX12_ofYard_2 (c_M_isYard q3) b_X12_isYard v_X12_55 rfl (k := 0) rfl rfl ⟨Nat.le_of_ble_eq_true rfl, Nat.le_of_ble_eq_true rfl⟩ ⟨rfl, rfl⟩ ⟨Nat.zero_le _, Nat.zero_le _⟩ _ rfl (Nat.le_of_ble_eq_true rfl) ?_
  rcases if_some h with ⟨c4, h⟩ | ⟨c4, h⟩
  · refine g_if_eq (tgt := 18) hG dX12_ofYard_5 rfl (fun _ => ?_) (fun q => absurd c4 q)
    refine g_aload_n hG dX12_ofYard_18 rfl ?_
    refine g_ldc hG dX12_ofYard_19 k_X12_45 ?_
    obtain ⟨v5, σ6, q7, h⟩ := ob_some h
    refine g_cV hG dX12_ofYard_21 (c_M_errs q7) b_X12_errs v_X12_46 rfl (k := 0) rfl rfl ⟨Nat.le_of_ble_eq_true rfl, Nat.le_of_ble_eq_true rfl⟩ ⟨rfl, rfl⟩ ⟨Nat.zero_le _, Nat.zero_le _⟩ _ rfl (Nat.le_of_ble_eq_true rfl) ?_
    cases h
    exact K _ _ dX12_ofYard_24
  · refine g_if_eq (tgt := 18) hG dX12_ofYard_5 rfl (fun q => absurd q c4) (fun _ => ?_)
    refine g_iload_n hG dX12_ofYard_8 rfl ?_
    refine g_iconstv hG dX12_ofYard_9 ki_0 ?_
    refine g_bipushv hG dX12_ofYard_10 kb_6 ?_
    obtain ⟨v8, σ9, q10, h⟩ := ob_some h
    refine g_cS hG dX12_ofYard_12 (c_M_in q10) b_X12_in v_X12_41 rfl ⟨Nat.le_of_ble_eq_true rfl, Nat.le_of_ble_eq_true rfl⟩ ⟨rfl, rfl⟩ ⟨Nat.zero_le _, Nat.zero_le _⟩ _ rfl (Nat.le_of_ble_eq_true rfl) ?_
    rcases if_some h with ⟨c11, h⟩ | ⟨c11, h⟩
    · refine g_if_ne (tgt := 25) hG dX12_ofYard_15 rfl (fun q => absurd c11 q) (fun _ => ?_)
      refine g_aload_n hG dX12_ofYard_18 rfl ?_
      refine g_ldc hG dX12_ofYard_19 k_X12_45 ?_
      obtain ⟨v12, σ13, q14, h⟩ := ob_some h
      refine g_cV hG dX12_ofYard_21 (c_M_errs q14) b_X12_errs v_X12_46 rfl (k := 0) rfl rfl ⟨Nat.le_of_ble_eq_true rfl, Nat.le_of_ble_eq_true rfl⟩ ⟨rfl, rfl⟩ ⟨Nat.zero_le _, Nat.zero_le _⟩ _ rfl (Nat.le_of_ble_eq_true rfl) ?_
      cases h
      exact K _ _ dX12_ofYard_24
    · refine g_if_ne (tgt := 25) hG dX12_ofYard_15 rfl (fun _ => ?_) (fun q => absurd q c11)
      refine g_iload_n hG dX12_ofYard_25 rfl ?_
      refine g_iconstv hG dX12_ofYard_26 ki_5 ?_
      rcases if_some h with ⟨c15, h⟩ | ⟨c15, h⟩
      · refine g_icmp_ge (tgt := 39) hG dX12_ofYard_27 rfl (fun _ => ?_) (fun q => absurd c15 q)
        refine g_iload_n hG dX12_ofYard_39 rfl ?_
        refine g_iconstv hG dX12_ofYard_40 ki_5 ?_
        rcases if_some h with ⟨c16, h⟩ | ⟨c16, h⟩
        · refine g_icmp_ne (tgt := 52) hG dX12_ofYard_41 rfl (fun q => absurd c16 q) (fun _ => ?_)
          refine g_aload_n hG dX12_ofYard_44 rfl ?_
          refine g_iload_n hG dX12_ofYard_45 rfl ?_
          obtain ⟨v17, σ18, q19, h⟩ := ob_some h
          refine g_cV hG dX12_ofYard_46 (c_M_falling q19) b_X12_falling v_X12_63 rfl (k := 0) rfl rfl ⟨Nat.le_of_ble_eq_true rfl, Nat.le_of_ble_eq_true rfl⟩ ⟨rfl, rfl⟩ ⟨Nat.zero_le _, Nat.zero_le _⟩ _ rfl (Nat.le_of_ble_eq_true rfl) ?_
          refine g_goto (tgt := 57) hG dX12_ofYard_49 rfl ?_
          cases h
          exact K _ _ dX12_ofYard_57
        · refine g_icmp_ne (tgt := 52) hG dX12_ofYard_41 rfl (fun _ => ?_) (fun q => absurd q c16)
          refine g_aload_n hG dX12_ofYard_52 rfl ?_
          refine g_iload_n hG dX12_ofYard_53 rfl ?_
          obtain ⟨v20, σ21, q22, h⟩ := ob_some h
          refine g_cV hG dX12_ofYard_54 (c_M_taken q22) b_X12_taken v_X12_66 rfl (k := 0) rfl rfl ⟨Nat.le_of_ble_eq_true rfl, Nat.le_of_ble_eq_true rfl⟩ ⟨rfl, rfl⟩ ⟨Nat.zero_le _, Nat.zero_le _⟩ _ rfl (Nat.le_of_ble_eq_true rfl) ?_
          cases h
          exact K _ _ dX12_ofYard_57
      · refine g_icmp_ge (tgt := 39) hG dX12_ofYard_27 rfl (fun q => absurd q c15) (fun _ => ?_)
        refine g_aload_n hG dX12_ofYard_30 rfl ?_
        refine g_iload_n hG dX12_ofYard_31 rfl ?_
        refine g_iload_n hG dX12_ofYard_32 rfl ?_
        obtain ⟨v23, σ24, q25, h⟩ := ob_some h
        refine g_cV hG dX12_ofYard_33 (c_M_its q25) b_X12_its v_X12_59 rfl (k := 0) rfl rfl ⟨Nat.le_of_ble_eq_true rfl, Nat.le_of_ble_eq_true rfl⟩ ⟨rfl, rfl⟩ ⟨Nat.zero_le _, Nat.zero_le _⟩ _ rfl (Nat.le_of_ble_eq_true rfl) ?_
        refine g_goto (tgt := 57) hG dX12_ofYard_36 rfl ?_
        cases h
        exact K _ _ dX12_ofYard_57
def M_days (x1 : Int32) (σ : RS) : Option (Int32 × RS) := (ob (M_in x1 (1 : Int32) (60 : Int32) σ) fun v1 σ2 => (if v1 = 0 then (ob (M_errs (-1000000001 : Int32) σ2) fun v5 σ6 => (some (v5, σ6))) else (if ((σ2.2 0 0) + x1) ≤ (9999 : Int32) then (ob (M_passes x1 σ2) fun v9 σ10 => (ob (M_allDirt  σ10) fun v12 σ13 => (some (v12, σ13)))) else (ob (M_errs (-1000000003 : Int32) σ2) fun v15 σ16 => (some (v15, σ16))))))
set_option maxRecDepth 100000 in
set_option maxHeartbeats 4000000 in
theorem c_M_days {g : GP} {l : Launch} {r : Nat → Nat} {X : va_W} {v9 : Int32} {s9 : RS} {x1 : Int32} {σ : RS} (h : M_days x1 σ = some (v9, s9)) : CI g l yX12_days cX12_days 2 (some .int) { frames := 59, cells := 0, slots := 0, locals := 1341 } [.ref (r 25), .int x1] (wR g r σ X) (fun r0 w => r0 = v9 ∧ w = wR g r s9 X) := by
  refine CI.mk (by decide) (Nat.le_of_ble_eq_true rfl) (fun G hG hret => ?_)
  have K : ∀ L pc, decode cX12_days pc = .ok (.ireturn, 1) → G 0 0 (wR g r s9 X) L pc [.int v9] := fun L pc d => hret _ L pc v9 d rfl ⟨rfl, rfl⟩
  unfold M_days at h
  refine g_iload_n hG dX12_days_0 rfl ?_
  refine g_iconstv hG dX12_days_1 ki_1 ?_
  refine g_bipushv hG dX12_days_2 kb_60 ?_
  obtain ⟨v1, σ2, q3, h⟩ := ob_some h
  refine g_cS hG dX12_days_4 (c_M_in q3) b_X12_in v_X12_41 rfl ⟨Nat.le_of_ble_eq_true rfl, Nat.le_of_ble_eq_true rfl⟩ ⟨rfl, rfl⟩ ⟨Nat.zero_le _, Nat.zero_le _⟩ _ rfl (Nat.le_of_ble_eq_true rfl) ?_
  rcases if_some h with ⟨c4, h⟩ | ⟨c4, h⟩
  · refine g_if_ne (tgt := 17) hG dX12_days_7 rfl (fun q => absurd c4 q) (fun _ => ?_)
    refine g_aload_n hG dX12_days_10 rfl ?_
    refine g_ldc hG dX12_days_11 k_X12_45 ?_
    obtain ⟨v5, σ6, q7, h⟩ := ob_some h
    refine g_cV hG dX12_days_13 (c_M_errs q7) b_X12_errs v_X12_46 rfl (k := 0) rfl rfl ⟨Nat.le_of_ble_eq_true rfl, Nat.le_of_ble_eq_true rfl⟩ ⟨rfl, rfl⟩ ⟨Nat.zero_le _, Nat.zero_le _⟩ _ rfl (Nat.le_of_ble_eq_true rfl) ?_
    cases h
    exact K _ _ dX12_days_16
  · refine g_if_ne (tgt := 17) hG dX12_days_7 rfl (fun _ => ?_) (fun q => absurd q c4)
    refine g_aload_n hG dX12_days_17 rfl ?_
    refine r_get 0 hG dX12_days_18 f_X12_7 (by decide) rfl ?_
    refine g_iconstv hG dX12_days_21 ki_0 ?_
    refine r_iald 1 0 240 hG dX12_days_22 rfl (by decide) (by decide : Int32.toNatClampNeg (0 : Int32) = 0) ?_
    refine g_iload_n hG dX12_days_23 rfl ?_
    refine g_iadd hG dX12_days_24 ?_
    refine g_sipushv hG dX12_days_25 ks_9999 ?_
    rcases if_some h with ⟨c8, h⟩ | ⟨c8, h⟩
    · refine g_icmp_le (tgt := 38) hG dX12_days_28 rfl (fun _ => ?_) (fun q => absurd c8 q)
      refine g_aload_n hG dX12_days_38 rfl ?_
      refine g_iload_n hG dX12_days_39 rfl ?_
      obtain ⟨v9, σ10, q11, h⟩ := ob_some h
      refine g_cVv hG dX12_days_40 (c_M_passes q11) b_X12_passes v_X12_175 rfl (k := 0) rfl rfl ⟨Nat.le_of_ble_eq_true rfl, Nat.le_of_ble_eq_true rfl⟩ ⟨rfl, rfl⟩ ⟨Nat.zero_le _, Nat.zero_le _⟩ _ rfl (Nat.le_of_ble_eq_true rfl) ?_
      refine g_aload_n hG dX12_days_43 rfl ?_
      obtain ⟨v12, σ13, q14, h⟩ := ob_some h
      refine g_cV hG dX12_days_44 (c_M_allDirt q14) b_X12_allDirt v_X12_179 rfl (k := 0) rfl rfl ⟨Nat.le_of_ble_eq_true rfl, Nat.le_of_ble_eq_true rfl⟩ ⟨rfl, rfl⟩ ⟨Nat.zero_le _, Nat.zero_le _⟩ _ rfl (Nat.le_of_ble_eq_true rfl) ?_
      cases h
      exact K _ _ dX12_days_47
    · refine g_icmp_le (tgt := 38) hG dX12_days_28 rfl (fun q => absurd q c8) (fun _ => ?_)
      refine g_aload_n hG dX12_days_31 rfl ?_
      refine g_ldc hG dX12_days_32 k_X12_174 ?_
      obtain ⟨v15, σ16, q17, h⟩ := ob_some h
      refine g_cV hG dX12_days_34 (c_M_errs q17) b_X12_errs v_X12_46 rfl (k := 0) rfl rfl ⟨Nat.le_of_ble_eq_true rfl, Nat.le_of_ble_eq_true rfl⟩ ⟨rfl, rfl⟩ ⟨Nat.zero_le _, Nat.zero_le _⟩ _ rfl (Nat.le_of_ble_eq_true rfl) ?_
      cases h
      exact K _ _ dX12_days_37
def M_drawn (x1 : Int32) (σ : RS) : Option (Int32 × RS) := (lt (ra σ 0 (upd (σ.2 0) 1 (((σ.2 0 1) * (1103515245 : Int32)) + (12345 : Int32)))) fun σ1 => (gd (nz x1) (some ((irm (iush (σ1.2 0 1) (8 : Int32)) x1), σ1))))
set_option maxRecDepth 100000 in
set_option maxHeartbeats 4000000 in
theorem c_M_drawn {g : GP} {l : Launch} {r : Nat → Nat} {X : va_W} {v9 : Int32} {s9 : RS} {x1 : Int32} {σ : RS} (h : M_drawn x1 σ = some (v9, s9)) : CI g l yX12_drawn cX12_drawn 2 (some .int) { frames := 0, cells := 0, slots := 0, locals := 0 } [.ref (r 25), .int x1] (wR g r σ X) (fun r0 w => r0 = v9 ∧ w = wR g r s9 X) := by
  refine CI.mk (by decide) (Nat.le_of_ble_eq_true rfl) (fun G hG hret => ?_)
  have K : ∀ L pc, decode cX12_drawn pc = .ok (.ireturn, 1) → G 0 0 (wR g r s9 X) L pc [.int v9] := fun L pc d => hret _ L pc v9 d rfl ⟨rfl, rfl⟩
  unfold M_drawn at h
  refine g_aload_n hG dX12_drawn_0 rfl ?_
  refine r_get 0 hG dX12_drawn_1 f_X12_7 (by decide) rfl ?_
  refine g_iconstv hG dX12_drawn_4 ki_1 ?_
  refine g_aload_n hG dX12_drawn_5 rfl ?_
  refine r_get 0 hG dX12_drawn_6 f_X12_7 (by decide) rfl ?_
  refine g_iconstv hG dX12_drawn_9 ki_1 ?_
  refine r_iald 1 0 240 hG dX12_drawn_10 rfl (by decide) (by decide : Int32.toNatClampNeg (1 : Int32) = 1) ?_
  refine g_ldc hG dX12_drawn_11 k_X12_182 ?_
  refine g_imul hG dX12_drawn_13 ?_
  refine g_sipushv hG dX12_drawn_14 ks_12345 ?_
  refine g_iadd hG dX12_drawn_17 ?_
  obtain ⟨σ1, e2, h⟩ := lt_ex h
  refine r_iast 1 0 240 hG e2 dX12_drawn_18 rfl (by decide) (by decide : Int32.toNatClampNeg (1 : Int32) = 1) rfl ?_
  refine g_aload_n hG dX12_drawn_19 rfl ?_
  refine r_get 0 hG dX12_drawn_20 f_X12_7 (by decide) rfl ?_
  refine g_iconstv hG dX12_drawn_23 ki_1 ?_
  refine r_iald 1 0 240 hG dX12_drawn_24 rfl (by decide) (by decide : Int32.toNatClampNeg (1 : Int32) = 1) ?_
  refine g_bipushv hG dX12_drawn_25 kb_8 ?_
  refine g_iush hG dX12_drawn_27 ?_
  refine g_iload_n hG dX12_drawn_28 rfl ?_
  obtain ⟨b3, h⟩ := gd_some h
  refine g_irm hG dX12_drawn_29 (nz_ne b3) ?_
  cases h
  exact K _ _ dX12_drawn_30
def M_loose_b105 (ag40 : Int32 → Int32 → RS → Option (Int32 × RS)) (x1 : Int32) (x2 : Int32) (σ : RS) : Option (Int32 × RS) := (ob (M_oneDay  σ) fun v23 σ24 => (ag40 x1 (x2 + (1 : Int32)) σ24))
set_option maxRecDepth 100000 in
set_option maxHeartbeats 4000000 in
theorem s_M_loose_b105 {g : GP} {l : Launch} {r : Nat → Nat} {X : va_W} {G : GT} {v9 : Int32} {s9 : RS} (hG : IsG g l yX12_loose cX12_loose 4 { frames := 58, cells := 0, slots := 0, locals := 1319 } G) (K : ∀ L pc, decode cX12_loose pc = .ok (.ireturn, 1) → G 0 0 (wR g r s9 X) L pc [.int v9]) {ag40 : Int32 → Int32 → RS → Option (Int32 × RS)} (hag40 : ∀ (x1 : Int32) (x2 : Int32) (σ : RS), ag40 x1 x2 σ = some (v9, s9) → G 0 0 (wR g r σ X) [(0, .ref (r 25)), (1, .int x1), (2, .int x2)] 40 []) {x1 : Int32} {x2 : Int32} {σ : RS} (h : M_loose_b105 ag40 x1 x2 σ = some (v9, s9)) : G 0 0 (wR g r σ X) [(0, .ref (r 25)), (1, .int x1), (2, .int x2)] 105 [] := by
  unfold M_loose_b105 at h
  refine g_aload_n hG dX12_loose_105 rfl ?_
  obtain ⟨v23, σ24, q25, h⟩ := ob_some h
  refine g_cVv hG dX12_loose_106 (c_M_oneDay q25) b_X12_oneDay v_X12_171 rfl (k := 0) rfl rfl ⟨Nat.le_of_ble_eq_true rfl, Nat.le_of_ble_eq_true rfl⟩ ⟨rfl, rfl⟩ ⟨Nat.zero_le _, Nat.zero_le _⟩ _ rfl (Nat.le_of_ble_eq_true rfl) ?_
  refine g_iincv (c := (1 : Int32)) hG dX12_loose_109 rfl (by decide) (by decide) ?_
  refine g_goto (tgt := 40) hG dX12_loose_112 rfl ?_
  refine g_loc hG [(0, .ref (r 25)), (1, .int x1), (2, .int (x2 + (1 : Int32)))] ⟨rfl, rfl, rfl, trivial⟩ ?_
  exact hag40 _ _ _ h
def M_loose_b78 (ag40 : Int32 → Int32 → RS → Option (Int32 × RS)) (x1 : Int32) (x2 : Int32) (s1 : Int32) (σ : RS) : Option (Int32 × RS) := (ob (M_drawn s1 σ) fun v19 σ20 => (if (σ20.2 0 2) ≤ 0 then (M_loose_b105 ag40 x1 x2 σ20) else (ob (M_its v19 (3 : Int32) σ20) fun v26 σ27 => (ob (M_gets v19 (3 : Int32) ((1 : Int32) - v26) σ27) fun v29 σ30 => (M_loose_b105 ag40 x1 x2 σ30)))))
set_option maxRecDepth 100000 in
set_option maxHeartbeats 4000000 in
theorem s_M_loose_b78 {g : GP} {l : Launch} {r : Nat → Nat} {X : va_W} {G : GT} {v9 : Int32} {s9 : RS} (hG : IsG g l yX12_loose cX12_loose 4 { frames := 58, cells := 0, slots := 0, locals := 1319 } G) (K : ∀ L pc, decode cX12_loose pc = .ok (.ireturn, 1) → G 0 0 (wR g r s9 X) L pc [.int v9]) {ag40 : Int32 → Int32 → RS → Option (Int32 × RS)} (hag40 : ∀ (x1 : Int32) (x2 : Int32) (σ : RS), ag40 x1 x2 σ = some (v9, s9) → G 0 0 (wR g r σ X) [(0, .ref (r 25)), (1, .int x1), (2, .int x2)] 40 []) {x1 : Int32} {x2 : Int32} {s1 : Int32} {σ : RS} (h : M_loose_b78 ag40 x1 x2 s1 σ = some (v9, s9)) : G 0 0 (wR g r σ X) [(0, .ref (r 25)), (1, .int x1), (2, .int x2)] 78 [.int s1, .ref (r 25)] := by
  unfold M_loose_b78 at h
  obtain ⟨v19, σ20, q21, h⟩ := ob_some h
  refine g_cV hG dX12_loose_78 (c_M_drawn q21) b_X12_drawn v_X12_183 rfl (k := 0) rfl rfl ⟨Nat.le_of_ble_eq_true rfl, Nat.le_of_ble_eq_true rfl⟩ ⟨rfl, rfl⟩ ⟨Nat.zero_le _, Nat.zero_le _⟩ _ rfl (Nat.le_of_ble_eq_true rfl) ?_
  refine g_istore_n hG dX12_loose_81 (by decide) ?_
  refine g_aload_n hG dX12_loose_82 rfl ?_
  refine r_get 0 hG dX12_loose_83 f_X12_7 (by decide) rfl ?_
  refine g_iconstv hG dX12_loose_86 ki_2 ?_
  refine r_iald 1 0 240 hG dX12_loose_87 rfl (by decide) (by decide : Int32.toNatClampNeg (2 : Int32) = 2) ?_
  rcases if_some h with ⟨c22, h⟩ | ⟨c22, h⟩
  · refine g_if_le (tgt := 105) hG dX12_loose_88 rfl (fun _ => ?_) (fun q => absurd c22 q)
    refine g_loc hG [(0, .ref (r 25)), (1, .int x1), (2, .int x2)] ⟨rfl, rfl, rfl, trivial⟩ ?_
    exact s_M_loose_b105  hG K hag40 h
  · refine g_if_le (tgt := 105) hG dX12_loose_88 rfl (fun q => absurd q c22) (fun _ => ?_)
    refine g_aload_n hG dX12_loose_91 rfl ?_
    refine g_iload_n hG dX12_loose_92 rfl ?_
    refine g_iconstv hG dX12_loose_93 ki_3 ?_
    refine g_iconstv hG dX12_loose_94 ki_1 ?_
    refine g_aload_n hG dX12_loose_95 rfl ?_
    refine g_iload_n hG dX12_loose_96 rfl ?_
    refine g_iconstv hG dX12_loose_97 ki_3 ?_
    obtain ⟨v26, σ27, q28, h⟩ := ob_some h
    refine g_cV hG dX12_loose_98 (c_M_its q28) b_X12_its v_X12_59 rfl (k := 0) rfl rfl ⟨Nat.le_of_ble_eq_true rfl, Nat.le_of_ble_eq_true rfl⟩ ⟨rfl, rfl⟩ ⟨Nat.zero_le _, Nat.zero_le _⟩ _ rfl (Nat.le_of_ble_eq_true rfl) ?_
    refine g_isub hG dX12_loose_101 ?_
    obtain ⟨v29, σ30, q31, h⟩ := ob_some h
    refine g_cVv hG dX12_loose_102 (c_M_gets q31) b_X12_gets v_X12_51 rfl (k := 0) rfl rfl ⟨Nat.le_of_ble_eq_true rfl, Nat.le_of_ble_eq_true rfl⟩ ⟨rfl, rfl⟩ ⟨Nat.zero_le _, Nat.zero_le _⟩ _ rfl (Nat.le_of_ble_eq_true rfl) ?_
    refine g_loc hG [(0, .ref (r 25)), (1, .int x1), (2, .int x2)] ⟨rfl, rfl, rfl, trivial⟩ ?_
    exact s_M_loose_b105  hG K hag40 h
def M_loose_b40 : Nat → Int32 → Int32 → RS → Option (Int32 × RS)
  | 0, _, _, _ => none
  | n + 1, x1, x2, σ => (if x1 ≤ x2 then (ob (M_allDirt  σ) fun v10 σ11 => (some (v10, σ11))) else (ob (M_drawn (10 : Int32) σ) fun v13 σ14 => (lt (ra σ14 0 (upd (σ14.2 0) 7 v13)) fun σ16 => (if (σ16.2 0 2) ≤ 0 then (M_loose_b78 (M_loose_b40  n) x1 x2 (1 : Int32) σ16) else (M_loose_b78 (M_loose_b40  n) x1 x2 (σ16.2 0 2) σ16)))))
set_option maxRecDepth 100000 in
set_option maxHeartbeats 4000000 in
theorem s_M_loose_b40 {g : GP} {l : Launch} {r : Nat → Nat} {X : va_W} {G : GT} {v9 : Int32} {s9 : RS} (hG : IsG g l yX12_loose cX12_loose 4 { frames := 58, cells := 0, slots := 0, locals := 1319 } G) (K : ∀ L pc, decode cX12_loose pc = .ok (.ireturn, 1) → G 0 0 (wR g r s9 X) L pc [.int v9]) : ∀ (n : Nat) (x1 : Int32) (x2 : Int32) (σ : RS) (h : M_loose_b40  n x1 x2 σ = some (v9, s9)), G 0 0 (wR g r σ X) [(0, .ref (r 25)), (1, .int x1), (2, .int x2)] 40 [] := by
  intro n
  induction n with
  | zero => intro _ _ σ h; cases h
  | succ n ih =>
    intro x1 x2 σ h
    unfold M_loose_b40 at h
    refine g_iload_n hG dX12_loose_40 rfl ?_
    refine g_iload_n hG dX12_loose_41 rfl ?_
    rcases if_some h with ⟨c9, h⟩ | ⟨c9, h⟩
    · refine g_icmp_ge (tgt := 115) hG dX12_loose_42 rfl (fun _ => ?_) (fun q => absurd c9 q)
      refine g_aload_n hG dX12_loose_115 rfl ?_
      obtain ⟨v10, σ11, q12, h⟩ := ob_some h
      refine g_cV hG dX12_loose_116 (c_M_allDirt q12) b_X12_allDirt v_X12_179 rfl (k := 0) rfl rfl ⟨Nat.le_of_ble_eq_true rfl, Nat.le_of_ble_eq_true rfl⟩ ⟨rfl, rfl⟩ ⟨Nat.zero_le _, Nat.zero_le _⟩ _ rfl (Nat.le_of_ble_eq_true rfl) ?_
      cases h
      exact K _ _ dX12_loose_119
    · refine g_icmp_ge (tgt := 115) hG dX12_loose_42 rfl (fun q => absurd q c9) (fun _ => ?_)
      refine g_aload_n hG dX12_loose_45 rfl ?_
      refine r_get 0 hG dX12_loose_46 f_X12_7 (by decide) rfl ?_
      refine g_bipushv hG dX12_loose_49 kb_7 ?_
      refine g_aload_n hG dX12_loose_51 rfl ?_
      refine g_bipushv hG dX12_loose_52 kb_10 ?_
      obtain ⟨v13, σ14, q15, h⟩ := ob_some h
      refine g_cV hG dX12_loose_54 (c_M_drawn q15) b_X12_drawn v_X12_183 rfl (k := 0) rfl rfl ⟨Nat.le_of_ble_eq_true rfl, Nat.le_of_ble_eq_true rfl⟩ ⟨rfl, rfl⟩ ⟨Nat.zero_le _, Nat.zero_le _⟩ _ rfl (Nat.le_of_ble_eq_true rfl) ?_
      obtain ⟨σ16, e17, h⟩ := lt_ex h
      refine r_iast 1 0 240 hG e17 dX12_loose_57 rfl (by decide) (by decide : Int32.toNatClampNeg (7 : Int32) = 7) rfl ?_
      refine g_aload_n hG dX12_loose_58 rfl ?_
      refine g_aload_n hG dX12_loose_59 rfl ?_
      refine r_get 0 hG dX12_loose_60 f_X12_7 (by decide) rfl ?_
      refine g_iconstv hG dX12_loose_63 ki_2 ?_
      refine r_iald 1 0 240 hG dX12_loose_64 rfl (by decide) (by decide : Int32.toNatClampNeg (2 : Int32) = 2) ?_
      rcases if_some h with ⟨c18, h⟩ | ⟨c18, h⟩
      · refine g_if_le (tgt := 77) hG dX12_loose_65 rfl (fun _ => ?_) (fun q => absurd c18 q)
        refine g_iconstv hG dX12_loose_77 ki_1 ?_
        refine g_loc hG [(0, .ref (r 25)), (1, .int x1), (2, .int x2)] ⟨rfl, rfl, rfl, trivial⟩ ?_
        exact s_M_loose_b78  hG K ih h
      · refine g_if_le (tgt := 77) hG dX12_loose_65 rfl (fun q => absurd q c18) (fun _ => ?_)
        refine g_aload_n hG dX12_loose_68 rfl ?_
        refine r_get 0 hG dX12_loose_69 f_X12_7 (by decide) rfl ?_
        refine g_iconstv hG dX12_loose_72 ki_2 ?_
        refine r_iald 1 0 240 hG dX12_loose_73 rfl (by decide) (by decide : Int32.toNatClampNeg (2 : Int32) = 2) ?_
        refine g_goto (tgt := 78) hG dX12_loose_74 rfl ?_
        refine g_loc hG [(0, .ref (r 25)), (1, .int x1), (2, .int x2)] ⟨rfl, rfl, rfl, trivial⟩ ?_
        exact s_M_loose_b78  hG K ih h
def M_loose (x1 : Int32) (σ : RS) : Option (Int32 × RS) := (ob (M_in x1 (1 : Int32) (40 : Int32) σ) fun v1 σ2 => (if v1 = 0 then (ob (M_errs (-1000000001 : Int32) σ2) fun v5 σ6 => (some (v5, σ6))) else (if ((σ2.2 0 0) + x1) ≤ (9999 : Int32) then (M_loose_b40  FU x1 (0 : Int32) σ2) else (ob (M_errs (-1000000003 : Int32) σ2) fun v32 σ33 => (some (v32, σ33))))))
set_option maxRecDepth 100000 in
set_option maxHeartbeats 4000000 in
theorem c_M_loose {g : GP} {l : Launch} {r : Nat → Nat} {X : va_W} {v9 : Int32} {s9 : RS} {x1 : Int32} {σ : RS} (h : M_loose x1 σ = some (v9, s9)) : CI g l yX12_loose cX12_loose 4 (some .int) { frames := 58, cells := 0, slots := 0, locals := 1319 } [.ref (r 25), .int x1] (wR g r σ X) (fun r0 w => r0 = v9 ∧ w = wR g r s9 X) := by
  refine CI.mk (by decide) (Nat.le_of_ble_eq_true rfl) (fun G hG hret => ?_)
  have K : ∀ L pc, decode cX12_loose pc = .ok (.ireturn, 1) → G 0 0 (wR g r s9 X) L pc [.int v9] := fun L pc d => hret _ L pc v9 d rfl ⟨rfl, rfl⟩
  unfold M_loose at h
  refine g_iload_n hG dX12_loose_0 rfl ?_
  refine g_iconstv hG dX12_loose_1 ki_1 ?_
  refine g_bipushv hG dX12_loose_2 kb_40 ?_
  obtain ⟨v1, σ2, q3, h⟩ := ob_some h
  refine g_cS hG dX12_loose_4 (c_M_in q3) b_X12_in v_X12_41 rfl ⟨Nat.le_of_ble_eq_true rfl, Nat.le_of_ble_eq_true rfl⟩ ⟨rfl, rfl⟩ ⟨Nat.zero_le _, Nat.zero_le _⟩ _ rfl (Nat.le_of_ble_eq_true rfl) ?_
  rcases if_some h with ⟨c4, h⟩ | ⟨c4, h⟩
  · refine g_if_ne (tgt := 17) hG dX12_loose_7 rfl (fun q => absurd c4 q) (fun _ => ?_)
    refine g_aload_n hG dX12_loose_10 rfl ?_
    refine g_ldc hG dX12_loose_11 k_X12_45 ?_
    obtain ⟨v5, σ6, q7, h⟩ := ob_some h
    refine g_cV hG dX12_loose_13 (c_M_errs q7) b_X12_errs v_X12_46 rfl (k := 0) rfl rfl ⟨Nat.le_of_ble_eq_true rfl, Nat.le_of_ble_eq_true rfl⟩ ⟨rfl, rfl⟩ ⟨Nat.zero_le _, Nat.zero_le _⟩ _ rfl (Nat.le_of_ble_eq_true rfl) ?_
    cases h
    exact K _ _ dX12_loose_16
  · refine g_if_ne (tgt := 17) hG dX12_loose_7 rfl (fun _ => ?_) (fun q => absurd q c4)
    refine g_aload_n hG dX12_loose_17 rfl ?_
    refine r_get 0 hG dX12_loose_18 f_X12_7 (by decide) rfl ?_
    refine g_iconstv hG dX12_loose_21 ki_0 ?_
    refine r_iald 1 0 240 hG dX12_loose_22 rfl (by decide) (by decide : Int32.toNatClampNeg (0 : Int32) = 0) ?_
    refine g_iload_n hG dX12_loose_23 rfl ?_
    refine g_iadd hG dX12_loose_24 ?_
    refine g_sipushv hG dX12_loose_25 ks_9999 ?_
    rcases if_some h with ⟨c8, h⟩ | ⟨c8, h⟩
    · refine g_icmp_le (tgt := 38) hG dX12_loose_28 rfl (fun _ => ?_) (fun q => absurd c8 q)
      refine g_iconstv hG dX12_loose_38 ki_0 ?_
      refine g_istore_n hG dX12_loose_39 (by decide) ?_
      refine g_loc hG [(0, .ref (r 25)), (1, .int x1), (2, .int (0 : Int32))] ⟨rfl, rfl, rfl, trivial⟩ ?_
      exact s_M_loose_b40  hG K FU _ _ _ h
    · refine g_icmp_le (tgt := 38) hG dX12_loose_28 rfl (fun q => absurd q c8) (fun _ => ?_)
      refine g_aload_n hG dX12_loose_31 rfl ?_
      refine g_ldc hG dX12_loose_32 k_X12_174 ?_
      obtain ⟨v32, σ33, q34, h⟩ := ob_some h
      refine g_cV hG dX12_loose_34 (c_M_errs q34) b_X12_errs v_X12_46 rfl (k := 0) rfl rfl ⟨Nat.le_of_ble_eq_true rfl, Nat.le_of_ble_eq_true rfl⟩ ⟨rfl, rfl⟩ ⟨Nat.zero_le _, Nat.zero_le _⟩ _ rfl (Nat.le_of_ble_eq_true rfl) ?_
      cases h
      exact K _ _ dX12_loose_37
def M_then (x1 : Int32) (x2 : Int32) (σ : RS) : Option (Int32 × RS) := (ob (M_in x1 (0 : Int32) (60 : Int32) σ) fun v1 σ2 => (if v1 = 0 then (ob (M_errs (-1000000001 : Int32) σ2) fun v5 σ6 => (some (v5, σ6))) else (ob (M_isYard x2 σ2) fun v8 σ9 => (if v8 = 0 then (ob (M_errs (-1000000001 : Int32) σ9) fun v12 σ13 => (some (v12, σ13))) else (ob (M_moveAll 0 2 σ9) fun v15 σ16 => (ob (M_passes x1 σ16) fun v18 σ19 => (ob (M_its x2 (2 : Int32) σ19) fun v21 σ22 => (ob (M_moveAll 2 0 σ22) fun v24 σ25 => (some (v21, σ25))))))))))
set_option maxRecDepth 100000 in
set_option maxHeartbeats 4000000 in
theorem c_M_then {g : GP} {l : Launch} {r : Nat → Nat} {X : va_W} {v9 : Int32} {s9 : RS} {x1 : Int32} {x2 : Int32} {σ : RS} (h : M_then x1 x2 σ = some (v9, s9)) : CI g l yX12_then cX12_then 4 (some .int) { frames := 59, cells := 0, slots := 0, locals := 1341 } [.ref (r 25), .int x1, .int x2] (wR g r σ X) (fun r0 w => r0 = v9 ∧ w = wR g r s9 X) := by
  refine CI.mk (by decide) (Nat.le_of_ble_eq_true rfl) (fun G hG hret => ?_)
  have K : ∀ L pc, decode cX12_then pc = .ok (.ireturn, 1) → G 0 0 (wR g r s9 X) L pc [.int v9] := fun L pc d => hret _ L pc v9 d rfl ⟨rfl, rfl⟩
  unfold M_then at h
  refine g_iload_n hG dX12_then_0 rfl ?_
  refine g_iconstv hG dX12_then_1 ki_0 ?_
  refine g_bipushv hG dX12_then_2 kb_60 ?_
  obtain ⟨v1, σ2, q3, h⟩ := ob_some h
  refine g_cS hG dX12_then_4 (c_M_in q3) b_X12_in v_X12_41 rfl ⟨Nat.le_of_ble_eq_true rfl, Nat.le_of_ble_eq_true rfl⟩ ⟨rfl, rfl⟩ ⟨Nat.zero_le _, Nat.zero_le _⟩ _ rfl (Nat.le_of_ble_eq_true rfl) ?_
  rcases if_some h with ⟨c4, h⟩ | ⟨c4, h⟩
  · refine g_if_eq (tgt := 18) hG dX12_then_7 rfl (fun _ => ?_) (fun q => absurd c4 q)
    refine g_aload_n hG dX12_then_18 rfl ?_
    refine g_ldc hG dX12_then_19 k_X12_45 ?_
    obtain ⟨v5, σ6, q7, h⟩ := ob_some h
    refine g_cV hG dX12_then_21 (c_M_errs q7) b_X12_errs v_X12_46 rfl (k := 0) rfl rfl ⟨Nat.le_of_ble_eq_true rfl, Nat.le_of_ble_eq_true rfl⟩ ⟨rfl, rfl⟩ ⟨Nat.zero_le _, Nat.zero_le _⟩ _ rfl (Nat.le_of_ble_eq_true rfl) ?_
    cases h
    exact K _ _ dX12_then_24
  · refine g_if_eq (tgt := 18) hG dX12_then_7 rfl (fun q => absurd q c4) (fun _ => ?_)
    refine g_aload_n hG dX12_then_10 rfl ?_
    refine g_iload_n hG dX12_then_11 rfl ?_
    obtain ⟨v8, σ9, q10, h⟩ := ob_some h
    refine g_cV hG dX12_then_12 (c_M_isYard q10) b_X12_isYard v_X12_55 rfl (k := 0) rfl rfl ⟨Nat.le_of_ble_eq_true rfl, Nat.le_of_ble_eq_true rfl⟩ ⟨rfl, rfl⟩ ⟨Nat.zero_le _, Nat.zero_le _⟩ _ rfl (Nat.le_of_ble_eq_true rfl) ?_
    rcases if_some h with ⟨c11, h⟩ | ⟨c11, h⟩
    · refine g_if_ne (tgt := 25) hG dX12_then_15 rfl (fun q => absurd c11 q) (fun _ => ?_)
      refine g_aload_n hG dX12_then_18 rfl ?_
      refine g_ldc hG dX12_then_19 k_X12_45 ?_
      obtain ⟨v12, σ13, q14, h⟩ := ob_some h
      refine g_cV hG dX12_then_21 (c_M_errs q14) b_X12_errs v_X12_46 rfl (k := 0) rfl rfl ⟨Nat.le_of_ble_eq_true rfl, Nat.le_of_ble_eq_true rfl⟩ ⟨rfl, rfl⟩ ⟨Nat.zero_le _, Nat.zero_le _⟩ _ rfl (Nat.le_of_ble_eq_true rfl) ?_
      cases h
      exact K _ _ dX12_then_24
    · refine g_if_ne (tgt := 25) hG dX12_then_15 rfl (fun _ => ?_) (fun q => absurd q c11)
      refine g_aload_n hG dX12_then_25 rfl ?_
      refine g_aload_n hG dX12_then_26 rfl ?_
      refine r_get 0 hG dX12_then_27 f_X12_7 (by decide) rfl ?_
      refine g_aload_n hG dX12_then_30 rfl ?_
      refine r_get 2 hG dX12_then_31 f_X12_16 (by decide) rfl ?_
      obtain ⟨v15, σ16, q17, h⟩ := ob_some h
      refine g_cVv hG dX12_then_34 (c_M_moveAll (by decide) (by decide) (by decide) q17) b_X12_moveAll v_X12_150 rfl (k := 0) rfl rfl ⟨Nat.le_of_ble_eq_true rfl, Nat.le_of_ble_eq_true rfl⟩ ⟨rfl, rfl⟩ ⟨Nat.zero_le _, Nat.zero_le _⟩ _ rfl (Nat.le_of_ble_eq_true rfl) ?_
      refine g_aload_n hG dX12_then_37 rfl ?_
      refine g_iload_n hG dX12_then_38 rfl ?_
      obtain ⟨v18, σ19, q20, h⟩ := ob_some h
      refine g_cVv hG dX12_then_39 (c_M_passes q20) b_X12_passes v_X12_175 rfl (k := 0) rfl rfl ⟨Nat.le_of_ble_eq_true rfl, Nat.le_of_ble_eq_true rfl⟩ ⟨rfl, rfl⟩ ⟨Nat.zero_le _, Nat.zero_le _⟩ _ rfl (Nat.le_of_ble_eq_true rfl) ?_
      refine g_aload_n hG dX12_then_42 rfl ?_
      refine g_iload_n hG dX12_then_43 rfl ?_
      refine g_iconstv hG dX12_then_44 ki_2 ?_
      obtain ⟨v21, σ22, q23, h⟩ := ob_some h
      refine g_cV hG dX12_then_45 (c_M_its q23) b_X12_its v_X12_59 rfl (k := 0) rfl rfl ⟨Nat.le_of_ble_eq_true rfl, Nat.le_of_ble_eq_true rfl⟩ ⟨rfl, rfl⟩ ⟨Nat.zero_le _, Nat.zero_le _⟩ _ rfl (Nat.le_of_ble_eq_true rfl) ?_
      refine g_istore_n hG dX12_then_48 (by decide) ?_
      refine g_aload_n hG dX12_then_49 rfl ?_
      refine g_aload_n hG dX12_then_50 rfl ?_
      refine r_get 2 hG dX12_then_51 f_X12_16 (by decide) rfl ?_
      refine g_aload_n hG dX12_then_54 rfl ?_
      refine r_get 0 hG dX12_then_55 f_X12_7 (by decide) rfl ?_
      obtain ⟨v24, σ25, q26, h⟩ := ob_some h
      refine g_cVv hG dX12_then_58 (c_M_moveAll (by decide) (by decide) (by decide) q26) b_X12_moveAll v_X12_150 rfl (k := 0) rfl rfl ⟨Nat.le_of_ble_eq_true rfl, Nat.le_of_ble_eq_true rfl⟩ ⟨rfl, rfl⟩ ⟨Nat.zero_le _, Nat.zero_le _⟩ _ rfl (Nat.le_of_ble_eq_true rfl) ?_
      refine g_iload_n hG dX12_then_61 rfl ?_
      cases h
      exact K _ _ dX12_then_62
def M_dirtyFrom_b2 : Nat → Int32 → Int32 → RS → Option (Int32 × RS)
  | 0, _, _, _ => none
  | n + 1, x1, x2, σ => (if (σ.2 0 2) ≤ x2 then (some (x2, σ)) else (ob (M_its x2 (2 : Int32) σ) fun v2 σ3 => (if x1 ≤ v2 then (some (x2, σ3)) else ((M_dirtyFrom_b2  n) x1 (x2 + (1 : Int32)) σ3))))
set_option maxRecDepth 100000 in
set_option maxHeartbeats 4000000 in
theorem s_M_dirtyFrom_b2 {g : GP} {l : Launch} {r : Nat → Nat} {X : va_W} {G : GT} {v9 : Int32} {s9 : RS} (hG : IsG g l yX12_dirtyFrom cX12_dirtyFrom 3 { frames := 1, cells := 0, slots := 0, locals := 22 } G) (K : ∀ L pc, decode cX12_dirtyFrom pc = .ok (.ireturn, 1) → G 0 0 (wR g r s9 X) L pc [.int v9]) : ∀ (n : Nat) (x1 : Int32) (x2 : Int32) (σ : RS) (h : M_dirtyFrom_b2  n x1 x2 σ = some (v9, s9)), G 0 0 (wR g r σ X) [(0, .ref (r 25)), (1, .int x1), (2, .int x2)] 2 [] := by
  intro n
  induction n with
  | zero => intro _ _ σ h; cases h
  | succ n ih =>
    intro x1 x2 σ h
    unfold M_dirtyFrom_b2 at h
    refine g_iload_n hG dX12_dirtyFrom_2 rfl ?_
    refine g_aload_n hG dX12_dirtyFrom_3 rfl ?_
    refine r_get 0 hG dX12_dirtyFrom_4 f_X12_7 (by decide) rfl ?_
    refine g_iconstv hG dX12_dirtyFrom_7 ki_2 ?_
    refine r_iald 1 0 240 hG dX12_dirtyFrom_8 rfl (by decide) (by decide : Int32.toNatClampNeg (2 : Int32) = 2) ?_
    rcases if_some h with ⟨c1, h⟩ | ⟨c1, h⟩
    · refine g_icmp_ge (tgt := 28) hG dX12_dirtyFrom_9 rfl (fun _ => ?_) (fun q => absurd c1 q)
      refine g_iload_n hG dX12_dirtyFrom_28 rfl ?_
      cases h
      exact K _ _ dX12_dirtyFrom_29
    · refine g_icmp_ge (tgt := 28) hG dX12_dirtyFrom_9 rfl (fun q => absurd q c1) (fun _ => ?_)
      refine g_aload_n hG dX12_dirtyFrom_12 rfl ?_
      refine g_iload_n hG dX12_dirtyFrom_13 rfl ?_
      refine g_iconstv hG dX12_dirtyFrom_14 ki_2 ?_
      obtain ⟨v2, σ3, q4, h⟩ := ob_some h
      refine g_cV hG dX12_dirtyFrom_15 (c_M_its q4) b_X12_its v_X12_59 rfl (k := 0) rfl rfl ⟨Nat.le_of_ble_eq_true rfl, Nat.le_of_ble_eq_true rfl⟩ ⟨rfl, rfl⟩ ⟨Nat.zero_le _, Nat.zero_le _⟩ _ rfl (Nat.le_of_ble_eq_true rfl) ?_
      refine g_iload_n hG dX12_dirtyFrom_18 rfl ?_
      rcases if_some h with ⟨c5, h⟩ | ⟨c5, h⟩
      · refine g_icmp_ge (tgt := 28) hG dX12_dirtyFrom_19 rfl (fun _ => ?_) (fun q => absurd c5 q)
        refine g_iload_n hG dX12_dirtyFrom_28 rfl ?_
        cases h
        exact K _ _ dX12_dirtyFrom_29
      · refine g_icmp_ge (tgt := 28) hG dX12_dirtyFrom_19 rfl (fun q => absurd q c5) (fun _ => ?_)
        refine g_iincv (c := (1 : Int32)) hG dX12_dirtyFrom_22 rfl (by decide) (by decide) ?_
        refine g_goto (tgt := 2) hG dX12_dirtyFrom_25 rfl ?_
        refine g_loc hG [(0, .ref (r 25)), (1, .int x1), (2, .int (x2 + (1 : Int32)))] ⟨rfl, rfl, rfl, trivial⟩ ?_
        exact ih _ _ _ h
def M_dirtyFrom (x1 : Int32) (σ : RS) : Option (Int32 × RS) := (M_dirtyFrom_b2  FU x1 (0 : Int32) σ)
set_option maxRecDepth 100000 in
set_option maxHeartbeats 4000000 in
theorem c_M_dirtyFrom {g : GP} {l : Launch} {r : Nat → Nat} {X : va_W} {v9 : Int32} {s9 : RS} {x1 : Int32} {σ : RS} (h : M_dirtyFrom x1 σ = some (v9, s9)) : CI g l yX12_dirtyFrom cX12_dirtyFrom 3 (some .int) { frames := 1, cells := 0, slots := 0, locals := 22 } [.ref (r 25), .int x1] (wR g r σ X) (fun r0 w => r0 = v9 ∧ w = wR g r s9 X) := by
  refine CI.mk (by decide) (Nat.le_of_ble_eq_true rfl) (fun G hG hret => ?_)
  have K : ∀ L pc, decode cX12_dirtyFrom pc = .ok (.ireturn, 1) → G 0 0 (wR g r s9 X) L pc [.int v9] := fun L pc d => hret _ L pc v9 d rfl ⟨rfl, rfl⟩
  unfold M_dirtyFrom at h
  refine g_iconstv hG dX12_dirtyFrom_0 ki_0 ?_
  refine g_istore_n hG dX12_dirtyFrom_1 (by decide) ?_
  refine g_loc hG [(0, .ref (r 25)), (1, .int x1), (2, .int (0 : Int32))] ⟨rfl, rfl, rfl, trivial⟩ ?_
  exact s_M_dirtyFrom_b2  hG K FU _ _ _ h
def M_worst_b71 (x1 : Int32) (x2 : Int32) (x3 : Int32) (σ : RS) : Option (Int32 × RS) := (ob (M_dirtyFrom x1 σ) fun v19 σ20 => (ob (M_moveAll 2 0 σ20) fun v22 σ23 => (if x3 ≤ (60 : Int32) then (some ((if x2 = 0 then x3 else v19), σ23)) else (ob (M_errs (-1000000002 : Int32) σ23) fun v28 σ29 => (some (v28, σ29))))))
set_option maxRecDepth 100000 in
set_option maxHeartbeats 4000000 in
theorem s_M_worst_b71 {g : GP} {l : Launch} {r : Nat → Nat} {X : va_W} {G : GT} {v9 : Int32} {s9 : RS} (hG : IsG g l yX12_worst cX12_worst 5 { frames := 58, cells := 0, slots := 0, locals := 1319 } G) (K : ∀ L pc, decode cX12_worst pc = .ok (.ireturn, 1) → G 0 0 (wR g r s9 X) L pc [.int v9]) {x1 : Int32} {x2 : Int32} {x3 : Int32} {σ : RS} (h : M_worst_b71  x1 x2 x3 σ = some (v9, s9)) : G 0 0 (wR g r σ X) [(0, .ref (r 25)), (1, .int x1), (2, .int x2), (3, .int x3)] 71 [] := by
  unfold M_worst_b71 at h
  refine g_aload_n hG dX12_worst_71 rfl ?_
  refine g_iload_n hG dX12_worst_72 rfl ?_
  obtain ⟨v19, σ20, q21, h⟩ := ob_some h
  refine g_cV hG dX12_worst_73 (c_M_dirtyFrom q21) b_X12_dirtyFrom v_X12_186 rfl (k := 0) rfl rfl ⟨Nat.le_of_ble_eq_true rfl, Nat.le_of_ble_eq_true rfl⟩ ⟨rfl, rfl⟩ ⟨Nat.zero_le _, Nat.zero_le _⟩ _ rfl (Nat.le_of_ble_eq_true rfl) ?_
  refine g_istore hG dX12_worst_76 (by decide) ?_
  refine g_aload_n hG dX12_worst_78 rfl ?_
  refine g_aload_n hG dX12_worst_79 rfl ?_
  refine r_get 2 hG dX12_worst_80 f_X12_16 (by decide) rfl ?_
  refine g_aload_n hG dX12_worst_83 rfl ?_
  refine r_get 0 hG dX12_worst_84 f_X12_7 (by decide) rfl ?_
  obtain ⟨v22, σ23, q24, h⟩ := ob_some h
  refine g_cVv hG dX12_worst_87 (c_M_moveAll (by decide) (by decide) (by decide) q24) b_X12_moveAll v_X12_150 rfl (k := 0) rfl rfl ⟨Nat.le_of_ble_eq_true rfl, Nat.le_of_ble_eq_true rfl⟩ ⟨rfl, rfl⟩ ⟨Nat.zero_le _, Nat.zero_le _⟩ _ rfl (Nat.le_of_ble_eq_true rfl) ?_
  refine g_iload_n hG dX12_worst_90 rfl ?_
  refine g_bipushv hG dX12_worst_91 kb_60 ?_
  rcases if_some h with ⟨c25, h⟩ | ⟨c25, h⟩
  · refine g_icmp_le (tgt := 103) hG dX12_worst_93 rfl (fun _ => ?_) (fun q => absurd c25 q)
    refine g_iload_n hG dX12_worst_103 rfl ?_
    refine g_dia1 (if x2 = 0 then x3 else v19) 113 (fun J26 => ?_) ?_
    · by_cases c27 : x2 = 0
      · refine g_if_ne (tgt := 111) hG dX12_worst_104 rfl (fun q => absurd c27 q) (fun _ => ?_)
        refine g_iload_n hG dX12_worst_107 rfl ?_
        refine g_goto (tgt := 113) hG dX12_worst_108 rfl ?_
        rw [if_pos c27] at J26
        exact J26
      · refine g_if_ne (tgt := 111) hG dX12_worst_104 rfl (fun _ => ?_) (fun q => absurd q c27)
        refine g_iload hG dX12_worst_111 rfl ?_
        rw [if_neg c27] at J26
        exact J26
    cases h
    exact K _ _ dX12_worst_113
  · refine g_icmp_le (tgt := 103) hG dX12_worst_93 rfl (fun q => absurd q c25) (fun _ => ?_)
    refine g_aload_n hG dX12_worst_96 rfl ?_
    refine g_ldc hG dX12_worst_97 k_X12_189 ?_
    obtain ⟨v28, σ29, q30, h⟩ := ob_some h
    refine g_cV hG dX12_worst_99 (c_M_errs q30) b_X12_errs v_X12_46 rfl (k := 0) rfl rfl ⟨Nat.le_of_ble_eq_true rfl, Nat.le_of_ble_eq_true rfl⟩ ⟨rfl, rfl⟩ ⟨Nat.zero_le _, Nat.zero_le _⟩ _ rfl (Nat.le_of_ble_eq_true rfl) ?_
    cases h
    exact K _ _ dX12_worst_102
def M_worst_b41 : Nat → Int32 → Int32 → Int32 → RS → Option (Int32 × RS)
  | 0, _, _, _, _ => none
  | n + 1, x1, x2, x3, σ => (if (60 : Int32) < x3 then (M_worst_b71  x1 x2 x3 σ) else (ob (M_dirtyFrom x1 σ) fun v31 σ32 => (if v31 = (σ32.2 0 2) then (ob (M_oneDay  σ32) fun v35 σ36 => ((M_worst_b41  n) x1 x2 (x3 + (1 : Int32)) σ36)) else (M_worst_b71  x1 x2 x3 σ32))))
set_option maxRecDepth 100000 in
set_option maxHeartbeats 4000000 in
theorem s_M_worst_b41 {g : GP} {l : Launch} {r : Nat → Nat} {X : va_W} {G : GT} {v9 : Int32} {s9 : RS} (hG : IsG g l yX12_worst cX12_worst 5 { frames := 58, cells := 0, slots := 0, locals := 1319 } G) (K : ∀ L pc, decode cX12_worst pc = .ok (.ireturn, 1) → G 0 0 (wR g r s9 X) L pc [.int v9]) : ∀ (n : Nat) (x1 : Int32) (x2 : Int32) (x3 : Int32) (σ : RS) (h : M_worst_b41  n x1 x2 x3 σ = some (v9, s9)), G 0 0 (wR g r σ X) [(0, .ref (r 25)), (1, .int x1), (2, .int x2), (3, .int x3)] 41 [] := by
  intro n
  induction n with
  | zero => intro _ _ _ σ h; cases h
  | succ n ih =>
    intro x1 x2 x3 σ h
    unfold M_worst_b41 at h
    refine g_iload_n hG dX12_worst_41 rfl ?_
    refine g_bipushv hG dX12_worst_42 kb_60 ?_
    rcases if_some h with ⟨c18, h⟩ | ⟨c18, h⟩
    · refine g_icmp_gt (tgt := 71) hG dX12_worst_44 rfl (fun _ => ?_) (fun q => absurd c18 q)
      refine g_loc hG [(0, .ref (r 25)), (1, .int x1), (2, .int x2), (3, .int x3)] ⟨rfl, rfl, rfl, rfl, trivial⟩ ?_
      exact s_M_worst_b71  hG K  h
    · refine g_icmp_gt (tgt := 71) hG dX12_worst_44 rfl (fun q => absurd q c18) (fun _ => ?_)
      refine g_aload_n hG dX12_worst_47 rfl ?_
      refine g_iload_n hG dX12_worst_48 rfl ?_
      obtain ⟨v31, σ32, q33, h⟩ := ob_some h
      refine g_cV hG dX12_worst_49 (c_M_dirtyFrom q33) b_X12_dirtyFrom v_X12_186 rfl (k := 0) rfl rfl ⟨Nat.le_of_ble_eq_true rfl, Nat.le_of_ble_eq_true rfl⟩ ⟨rfl, rfl⟩ ⟨Nat.zero_le _, Nat.zero_le _⟩ _ rfl (Nat.le_of_ble_eq_true rfl) ?_
      refine g_aload_n hG dX12_worst_52 rfl ?_
      refine r_get 0 hG dX12_worst_53 f_X12_7 (by decide) rfl ?_
      refine g_iconstv hG dX12_worst_56 ki_2 ?_
      refine r_iald 1 0 240 hG dX12_worst_57 rfl (by decide) (by decide : Int32.toNatClampNeg (2 : Int32) = 2) ?_
      rcases if_some h with ⟨c34, h⟩ | ⟨c34, h⟩
      · refine g_icmp_ne (tgt := 71) hG dX12_worst_58 rfl (fun q => absurd c34 q) (fun _ => ?_)
        refine g_aload_n hG dX12_worst_61 rfl ?_
        obtain ⟨v35, σ36, q37, h⟩ := ob_some h
        refine g_cVv hG dX12_worst_62 (c_M_oneDay q37) b_X12_oneDay v_X12_171 rfl (k := 0) rfl rfl ⟨Nat.le_of_ble_eq_true rfl, Nat.le_of_ble_eq_true rfl⟩ ⟨rfl, rfl⟩ ⟨Nat.zero_le _, Nat.zero_le _⟩ _ rfl (Nat.le_of_ble_eq_true rfl) ?_
        refine g_iincv (c := (1 : Int32)) hG dX12_worst_65 rfl (by decide) (by decide) ?_
        refine g_goto (tgt := 41) hG dX12_worst_68 rfl ?_
        refine g_loc hG [(0, .ref (r 25)), (1, .int x1), (2, .int x2), (3, .int (x3 + (1 : Int32)))] ⟨rfl, rfl, rfl, rfl, trivial⟩ ?_
        exact ih _ _ _ _ h
      · refine g_icmp_ne (tgt := 71) hG dX12_worst_58 rfl (fun _ => ?_) (fun q => absurd q c34)
        refine g_loc hG [(0, .ref (r 25)), (1, .int x1), (2, .int x2), (3, .int x3)] ⟨rfl, rfl, rfl, rfl, trivial⟩ ?_
        exact s_M_worst_b71  hG K  h
def M_worst (x1 : Int32) (x2 : Int32) (σ : RS) : Option (Int32 × RS) := (ob (M_in x1 (1 : Int32) (999 : Int32) σ) fun v1 σ2 => (if v1 = 0 then (ob (M_errs (-1000000001 : Int32) σ2) fun v5 σ6 => (some (v5, σ6))) else (ob (M_in x2 (0 : Int32) (1 : Int32) σ2) fun v8 σ9 => (if v8 = 0 then (ob (M_errs (-1000000001 : Int32) σ9) fun v12 σ13 => (some (v12, σ13))) else (ob (M_moveAll 0 2 σ9) fun v15 σ16 => (M_worst_b41  FU x1 x2 (0 : Int32) σ16))))))
set_option maxRecDepth 100000 in
set_option maxHeartbeats 4000000 in
theorem c_M_worst {g : GP} {l : Launch} {r : Nat → Nat} {X : va_W} {v9 : Int32} {s9 : RS} {x1 : Int32} {x2 : Int32} {σ : RS} (h : M_worst x1 x2 σ = some (v9, s9)) : CI g l yX12_worst cX12_worst 5 (some .int) { frames := 58, cells := 0, slots := 0, locals := 1319 } [.ref (r 25), .int x1, .int x2] (wR g r σ X) (fun r0 w => r0 = v9 ∧ w = wR g r s9 X) := by
  refine CI.mk (by decide) (Nat.le_of_ble_eq_true rfl) (fun G hG hret => ?_)
  have K : ∀ L pc, decode cX12_worst pc = .ok (.ireturn, 1) → G 0 0 (wR g r s9 X) L pc [.int v9] := fun L pc d => hret _ L pc v9 d rfl ⟨rfl, rfl⟩
  unfold M_worst at h
  refine g_iload_n hG dX12_worst_0 rfl ?_
  refine g_iconstv hG dX12_worst_1 ki_1 ?_
  refine g_sipushv hG dX12_worst_2 ks_999 ?_
  obtain ⟨v1, σ2, q3, h⟩ := ob_some h
  refine g_cS hG dX12_worst_5 (c_M_in q3) b_X12_in v_X12_41 rfl ⟨Nat.le_of_ble_eq_true rfl, Nat.le_of_ble_eq_true rfl⟩ ⟨rfl, rfl⟩ ⟨Nat.zero_le _, Nat.zero_le _⟩ _ rfl (Nat.le_of_ble_eq_true rfl) ?_
  rcases if_some h with ⟨c4, h⟩ | ⟨c4, h⟩
  · refine g_if_eq (tgt := 20) hG dX12_worst_8 rfl (fun _ => ?_) (fun q => absurd c4 q)
    refine g_aload_n hG dX12_worst_20 rfl ?_
    refine g_ldc hG dX12_worst_21 k_X12_45 ?_
    obtain ⟨v5, σ6, q7, h⟩ := ob_some h
    refine g_cV hG dX12_worst_23 (c_M_errs q7) b_X12_errs v_X12_46 rfl (k := 0) rfl rfl ⟨Nat.le_of_ble_eq_true rfl, Nat.le_of_ble_eq_true rfl⟩ ⟨rfl, rfl⟩ ⟨Nat.zero_le _, Nat.zero_le _⟩ _ rfl (Nat.le_of_ble_eq_true rfl) ?_
    cases h
    exact K _ _ dX12_worst_26
  · refine g_if_eq (tgt := 20) hG dX12_worst_8 rfl (fun q => absurd q c4) (fun _ => ?_)
    refine g_iload_n hG dX12_worst_11 rfl ?_
    refine g_iconstv hG dX12_worst_12 ki_0 ?_
    refine g_iconstv hG dX12_worst_13 ki_1 ?_
    obtain ⟨v8, σ9, q10, h⟩ := ob_some h
    refine g_cS hG dX12_worst_14 (c_M_in q10) b_X12_in v_X12_41 rfl ⟨Nat.le_of_ble_eq_true rfl, Nat.le_of_ble_eq_true rfl⟩ ⟨rfl, rfl⟩ ⟨Nat.zero_le _, Nat.zero_le _⟩ _ rfl (Nat.le_of_ble_eq_true rfl) ?_
    rcases if_some h with ⟨c11, h⟩ | ⟨c11, h⟩
    · refine g_if_ne (tgt := 27) hG dX12_worst_17 rfl (fun q => absurd c11 q) (fun _ => ?_)
      refine g_aload_n hG dX12_worst_20 rfl ?_
      refine g_ldc hG dX12_worst_21 k_X12_45 ?_
      obtain ⟨v12, σ13, q14, h⟩ := ob_some h
      refine g_cV hG dX12_worst_23 (c_M_errs q14) b_X12_errs v_X12_46 rfl (k := 0) rfl rfl ⟨Nat.le_of_ble_eq_true rfl, Nat.le_of_ble_eq_true rfl⟩ ⟨rfl, rfl⟩ ⟨Nat.zero_le _, Nat.zero_le _⟩ _ rfl (Nat.le_of_ble_eq_true rfl) ?_
      cases h
      exact K _ _ dX12_worst_26
    · refine g_if_ne (tgt := 27) hG dX12_worst_17 rfl (fun _ => ?_) (fun q => absurd q c11)
      refine g_aload_n hG dX12_worst_27 rfl ?_
      refine g_aload_n hG dX12_worst_28 rfl ?_
      refine r_get 0 hG dX12_worst_29 f_X12_7 (by decide) rfl ?_
      refine g_aload_n hG dX12_worst_32 rfl ?_
      refine r_get 2 hG dX12_worst_33 f_X12_16 (by decide) rfl ?_
      obtain ⟨v15, σ16, q17, h⟩ := ob_some h
      refine g_cVv hG dX12_worst_36 (c_M_moveAll (by decide) (by decide) (by decide) q17) b_X12_moveAll v_X12_150 rfl (k := 0) rfl rfl ⟨Nat.le_of_ble_eq_true rfl, Nat.le_of_ble_eq_true rfl⟩ ⟨rfl, rfl⟩ ⟨Nat.zero_le _, Nat.zero_le _⟩ _ rfl (Nat.le_of_ble_eq_true rfl) ?_
      refine g_iconstv hG dX12_worst_39 ki_0 ?_
      refine g_istore_n hG dX12_worst_40 (by decide) ?_
      refine g_loc hG [(0, .ref (r 25)), (1, .int x1), (2, .int x2), (3, .int (0 : Int32))] ⟨rfl, rfl, rfl, rfl, trivial⟩ ?_
      exact s_M_worst_b41  hG K FU _ _ _ _ h
def M_stay  (σ : RS) : Option (Int32 × RS) := (ob (M_placesOn (1 : Int32) σ) fun v1 σ2 => (ob (M_stayers (0 : Int32) v1 σ2) fun v4 σ5 => (ob (M_placesOn (0 : Int32) σ5) fun v7 σ8 => (ob (M_stayers (1 : Int32) v7 σ8) fun v10 σ11 => (some ((v4 ||| v10), σ11))))))
set_option maxRecDepth 100000 in
set_option maxHeartbeats 4000000 in
theorem c_M_stay {g : GP} {l : Launch} {r : Nat → Nat} {X : va_W} {v9 : Int32} {s9 : RS} {σ : RS} (h : M_stay  σ = some (v9, s9)) : CI g l yX12_stay cX12_stay 1 (some .int) { frames := 2, cells := 0, slots := 0, locals := 48 } [.ref (r 25)] (wR g r σ X) (fun r0 w => r0 = v9 ∧ w = wR g r s9 X) := by
  refine CI.mk (by decide) (Nat.le_of_ble_eq_true rfl) (fun G hG hret => ?_)
  have K : ∀ L pc, decode cX12_stay pc = .ok (.ireturn, 1) → G 0 0 (wR g r s9 X) L pc [.int v9] := fun L pc d => hret _ L pc v9 d rfl ⟨rfl, rfl⟩
  unfold M_stay at h
  refine g_aload_n hG dX12_stay_0 rfl ?_
  refine g_iconstv hG dX12_stay_1 ki_0 ?_
  refine g_aload_n hG dX12_stay_2 rfl ?_
  refine g_iconstv hG dX12_stay_3 ki_1 ?_
  obtain ⟨v1, σ2, q3, h⟩ := ob_some h
  refine g_cV hG dX12_stay_4 (c_M_placesOn q3) b_X12_placesOn v_X12_164 rfl (k := 0) rfl rfl ⟨Nat.le_of_ble_eq_true rfl, Nat.le_of_ble_eq_true rfl⟩ ⟨rfl, rfl⟩ ⟨Nat.zero_le _, Nat.zero_le _⟩ _ rfl (Nat.le_of_ble_eq_true rfl) ?_
  obtain ⟨v4, σ5, q6, h⟩ := ob_some h
  refine g_cV hG dX12_stay_7 (c_M_stayers q6) b_X12_stayers v_X12_161 rfl (k := 0) rfl rfl ⟨Nat.le_of_ble_eq_true rfl, Nat.le_of_ble_eq_true rfl⟩ ⟨rfl, rfl⟩ ⟨Nat.zero_le _, Nat.zero_le _⟩ _ rfl (Nat.le_of_ble_eq_true rfl) ?_
  refine g_aload_n hG dX12_stay_10 rfl ?_
  refine g_iconstv hG dX12_stay_11 ki_1 ?_
  refine g_aload_n hG dX12_stay_12 rfl ?_
  refine g_iconstv hG dX12_stay_13 ki_0 ?_
  obtain ⟨v7, σ8, q9, h⟩ := ob_some h
  refine g_cV hG dX12_stay_14 (c_M_placesOn q9) b_X12_placesOn v_X12_164 rfl (k := 0) rfl rfl ⟨Nat.le_of_ble_eq_true rfl, Nat.le_of_ble_eq_true rfl⟩ ⟨rfl, rfl⟩ ⟨Nat.zero_le _, Nat.zero_le _⟩ _ rfl (Nat.le_of_ble_eq_true rfl) ?_
  obtain ⟨v10, σ11, q12, h⟩ := ob_some h
  refine g_cV hG dX12_stay_17 (c_M_stayers q12) b_X12_stayers v_X12_161 rfl (k := 0) rfl rfl ⟨Nat.le_of_ble_eq_true rfl, Nat.le_of_ble_eq_true rfl⟩ ⟨rfl, rfl⟩ ⟨Nat.zero_le _, Nat.zero_le _⟩ _ rfl (Nat.le_of_ble_eq_true rfl) ?_
  refine g_ior hG dX12_stay_20 ?_
  cases h
  exact K _ _ dX12_stay_21
def M_dirtSwept (x1 : Int32) (σ : RS) : Option (Int32 × RS) := (ob (M_moveAll 0 2 σ) fun v1 σ2 => (ob (M_placesOn ((1 : Int32) - x1) σ2) fun v4 σ5 => (ob (M_sweepsSide x1 v4 σ5) fun v7 σ8 => (ob (M_allDirt  σ8) fun v10 σ11 => (ob (M_moveAll 2 0 σ11) fun v13 σ14 => (some (v10, σ14)))))))
set_option maxRecDepth 100000 in
set_option maxHeartbeats 4000000 in
theorem c_M_dirtSwept {g : GP} {l : Launch} {r : Nat → Nat} {X : va_W} {v9 : Int32} {s9 : RS} {x1 : Int32} {σ : RS} (h : M_dirtSwept x1 σ = some (v9, s9)) : CI g l yX12_dirtSwept cX12_dirtSwept 3 (some .int) { frames := 3, cells := 0, slots := 0, locals := 72 } [.ref (r 25), .int x1] (wR g r σ X) (fun r0 w => r0 = v9 ∧ w = wR g r s9 X) := by
  refine CI.mk (by decide) (Nat.le_of_ble_eq_true rfl) (fun G hG hret => ?_)
  have K : ∀ L pc, decode cX12_dirtSwept pc = .ok (.ireturn, 1) → G 0 0 (wR g r s9 X) L pc [.int v9] := fun L pc d => hret _ L pc v9 d rfl ⟨rfl, rfl⟩
  unfold M_dirtSwept at h
  refine g_aload_n hG dX12_dirtSwept_0 rfl ?_
  refine g_aload_n hG dX12_dirtSwept_1 rfl ?_
  refine r_get 0 hG dX12_dirtSwept_2 f_X12_7 (by decide) rfl ?_
  refine g_aload_n hG dX12_dirtSwept_5 rfl ?_
  refine r_get 2 hG dX12_dirtSwept_6 f_X12_16 (by decide) rfl ?_
  obtain ⟨v1, σ2, q3, h⟩ := ob_some h
  refine g_cVv hG dX12_dirtSwept_9 (c_M_moveAll (by decide) (by decide) (by decide) q3) b_X12_moveAll v_X12_150 rfl (k := 0) rfl rfl ⟨Nat.le_of_ble_eq_true rfl, Nat.le_of_ble_eq_true rfl⟩ ⟨rfl, rfl⟩ ⟨Nat.zero_le _, Nat.zero_le _⟩ _ rfl (Nat.le_of_ble_eq_true rfl) ?_
  refine g_aload_n hG dX12_dirtSwept_12 rfl ?_
  refine g_iload_n hG dX12_dirtSwept_13 rfl ?_
  refine g_aload_n hG dX12_dirtSwept_14 rfl ?_
  refine g_iconstv hG dX12_dirtSwept_15 ki_1 ?_
  refine g_iload_n hG dX12_dirtSwept_16 rfl ?_
  refine g_isub hG dX12_dirtSwept_17 ?_
  obtain ⟨v4, σ5, q6, h⟩ := ob_some h
  refine g_cV hG dX12_dirtSwept_18 (c_M_placesOn q6) b_X12_placesOn v_X12_164 rfl (k := 0) rfl rfl ⟨Nat.le_of_ble_eq_true rfl, Nat.le_of_ble_eq_true rfl⟩ ⟨rfl, rfl⟩ ⟨Nat.zero_le _, Nat.zero_le _⟩ _ rfl (Nat.le_of_ble_eq_true rfl) ?_
  obtain ⟨v7, σ8, q9, h⟩ := ob_some h
  refine g_cVv hG dX12_dirtSwept_21 (c_M_sweepsSide q9) b_X12_sweepsSide v_X12_167 rfl (k := 0) rfl rfl ⟨Nat.le_of_ble_eq_true rfl, Nat.le_of_ble_eq_true rfl⟩ ⟨rfl, rfl⟩ ⟨Nat.zero_le _, Nat.zero_le _⟩ _ rfl (Nat.le_of_ble_eq_true rfl) ?_
  refine g_aload_n hG dX12_dirtSwept_24 rfl ?_
  obtain ⟨v10, σ11, q12, h⟩ := ob_some h
  refine g_cV hG dX12_dirtSwept_25 (c_M_allDirt q12) b_X12_allDirt v_X12_179 rfl (k := 0) rfl rfl ⟨Nat.le_of_ble_eq_true rfl, Nat.le_of_ble_eq_true rfl⟩ ⟨rfl, rfl⟩ ⟨Nat.zero_le _, Nat.zero_le _⟩ _ rfl (Nat.le_of_ble_eq_true rfl) ?_
  refine g_istore_n hG dX12_dirtSwept_28 (by decide) ?_
  refine g_aload_n hG dX12_dirtSwept_29 rfl ?_
  refine g_aload_n hG dX12_dirtSwept_30 rfl ?_
  refine r_get 2 hG dX12_dirtSwept_31 f_X12_16 (by decide) rfl ?_
  refine g_aload_n hG dX12_dirtSwept_34 rfl ?_
  refine r_get 0 hG dX12_dirtSwept_35 f_X12_7 (by decide) rfl ?_
  obtain ⟨v13, σ14, q15, h⟩ := ob_some h
  refine g_cVv hG dX12_dirtSwept_38 (c_M_moveAll (by decide) (by decide) (by decide) q15) b_X12_moveAll v_X12_150 rfl (k := 0) rfl rfl ⟨Nat.le_of_ble_eq_true rfl, Nat.le_of_ble_eq_true rfl⟩ ⟨rfl, rfl⟩ ⟨Nat.zero_le _, Nat.zero_le _⟩ _ rfl (Nat.le_of_ble_eq_true rfl) ?_
  refine g_iload_n hG dX12_dirtSwept_41 rfl ?_
  cases h
  exact K _ _ dX12_dirtSwept_42
def M_side (x1 : Int32) (σ : RS) : Option (Int32 × RS) := (ob (M_in x1 (0 : Int32) (1 : Int32) σ) fun v1 σ2 => (if v1 = 0 then (ob (M_errs (-1000000001 : Int32) σ2) fun v5 σ6 => (some (v5, σ6))) else (ob (M_dirtSwept (0 : Int32) σ2) fun v8 σ9 => (ob (M_dirtSwept (1 : Int32) σ9) fun v11 σ12 => (some ((if x1 = 0 then (if v8 ≤ v11 then (0 : Int32) else (1 : Int32)) else (if v8 ≤ v11 then v8 else v11)), σ12))))))
set_option maxRecDepth 100000 in
set_option maxHeartbeats 4000000 in
theorem c_M_side {g : GP} {l : Launch} {r : Nat → Nat} {X : va_W} {v9 : Int32} {s9 : RS} {x1 : Int32} {σ : RS} (h : M_side x1 σ = some (v9, s9)) : CI g l yX12_side cX12_side 4 (some .int) { frames := 4, cells := 0, slots := 0, locals := 94 } [.ref (r 25), .int x1] (wR g r σ X) (fun r0 w => r0 = v9 ∧ w = wR g r s9 X) := by
  refine CI.mk (by decide) (Nat.le_of_ble_eq_true rfl) (fun G hG hret => ?_)
  have K : ∀ L pc, decode cX12_side pc = .ok (.ireturn, 1) → G 0 0 (wR g r s9 X) L pc [.int v9] := fun L pc d => hret _ L pc v9 d rfl ⟨rfl, rfl⟩
  unfold M_side at h
  refine g_iload_n hG dX12_side_0 rfl ?_
  refine g_iconstv hG dX12_side_1 ki_0 ?_
  refine g_iconstv hG dX12_side_2 ki_1 ?_
  obtain ⟨v1, σ2, q3, h⟩ := ob_some h
  refine g_cS hG dX12_side_3 (c_M_in q3) b_X12_in v_X12_41 rfl ⟨Nat.le_of_ble_eq_true rfl, Nat.le_of_ble_eq_true rfl⟩ ⟨rfl, rfl⟩ ⟨Nat.zero_le _, Nat.zero_le _⟩ _ rfl (Nat.le_of_ble_eq_true rfl) ?_
  rcases if_some h with ⟨c4, h⟩ | ⟨c4, h⟩
  · refine g_if_ne (tgt := 16) hG dX12_side_6 rfl (fun q => absurd c4 q) (fun _ => ?_)
    refine g_aload_n hG dX12_side_9 rfl ?_
    refine g_ldc hG dX12_side_10 k_X12_45 ?_
    obtain ⟨v5, σ6, q7, h⟩ := ob_some h
    refine g_cV hG dX12_side_12 (c_M_errs q7) b_X12_errs v_X12_46 rfl (k := 0) rfl rfl ⟨Nat.le_of_ble_eq_true rfl, Nat.le_of_ble_eq_true rfl⟩ ⟨rfl, rfl⟩ ⟨Nat.zero_le _, Nat.zero_le _⟩ _ rfl (Nat.le_of_ble_eq_true rfl) ?_
    cases h
    exact K _ _ dX12_side_15
  · refine g_if_ne (tgt := 16) hG dX12_side_6 rfl (fun _ => ?_) (fun q => absurd q c4)
    refine g_aload_n hG dX12_side_16 rfl ?_
    refine g_iconstv hG dX12_side_17 ki_0 ?_
    obtain ⟨v8, σ9, q10, h⟩ := ob_some h
    refine g_cV hG dX12_side_18 (c_M_dirtSwept q10) b_X12_dirtSwept v_X12_190 rfl (k := 0) rfl rfl ⟨Nat.le_of_ble_eq_true rfl, Nat.le_of_ble_eq_true rfl⟩ ⟨rfl, rfl⟩ ⟨Nat.zero_le _, Nat.zero_le _⟩ _ rfl (Nat.le_of_ble_eq_true rfl) ?_
    refine g_istore_n hG dX12_side_21 (by decide) ?_
    refine g_aload_n hG dX12_side_22 rfl ?_
    refine g_iconstv hG dX12_side_23 ki_1 ?_
    obtain ⟨v11, σ12, q13, h⟩ := ob_some h
    refine g_cV hG dX12_side_24 (c_M_dirtSwept q13) b_X12_dirtSwept v_X12_190 rfl (k := 0) rfl rfl ⟨Nat.le_of_ble_eq_true rfl, Nat.le_of_ble_eq_true rfl⟩ ⟨rfl, rfl⟩ ⟨Nat.zero_le _, Nat.zero_le _⟩ _ rfl (Nat.le_of_ble_eq_true rfl) ?_
    refine g_istore_n hG dX12_side_27 (by decide) ?_
    refine g_iload_n hG dX12_side_28 rfl ?_
    refine g_dia1 (if x1 = 0 then (if v8 ≤ v11 then (0 : Int32) else (1 : Int32)) else (if v8 ≤ v11 then v8 else v11)) 55 (fun J14 => ?_) ?_
    · by_cases c15 : x1 = 0
      · refine g_if_ne (tgt := 45) hG dX12_side_29 rfl (fun q => absurd c15 q) (fun _ => ?_)
        refine g_iload_n hG dX12_side_32 rfl ?_
        refine g_iload_n hG dX12_side_33 rfl ?_
        by_cases c16 : v8 ≤ v11
        · refine g_icmp_ge (tgt := 41) hG dX12_side_34 rfl (fun _ => ?_) (fun q => absurd c16 q)
          refine g_iconstv hG dX12_side_41 ki_0 ?_
          refine g_goto (tgt := 55) hG dX12_side_42 rfl ?_
          rw [if_pos c15, if_pos c16] at J14
          exact J14
        · refine g_icmp_ge (tgt := 41) hG dX12_side_34 rfl (fun q => absurd q c16) (fun _ => ?_)
          refine g_iconstv hG dX12_side_37 ki_1 ?_
          refine g_goto (tgt := 55) hG dX12_side_38 rfl ?_
          rw [if_pos c15, if_neg c16] at J14
          exact J14
      · refine g_if_ne (tgt := 45) hG dX12_side_29 rfl (fun _ => ?_) (fun q => absurd q c15)
        refine g_iload_n hG dX12_side_45 rfl ?_
        refine g_iload_n hG dX12_side_46 rfl ?_
        by_cases c17 : v8 ≤ v11
        · refine g_icmp_ge (tgt := 54) hG dX12_side_47 rfl (fun _ => ?_) (fun q => absurd c17 q)
          refine g_iload_n hG dX12_side_54 rfl ?_
          rw [if_neg c15, if_pos c17] at J14
          exact J14
        · refine g_icmp_ge (tgt := 54) hG dX12_side_47 rfl (fun q => absurd q c17) (fun _ => ?_)
          refine g_iload_n hG dX12_side_50 rfl ?_
          refine g_goto (tgt := 55) hG dX12_side_51 rfl ?_
          rw [if_neg c15, if_neg c17] at J14
          exact J14
    cases h
    exact K _ _ dX12_side_55
def M_seldom_b104 (ag37 : Int32 → Int32 → RS → Option (Int32 × RS)) (x1 : Int32) (s0 : Int32) (σ : RS) : Option (Int32 × RS) := (ob (M_moveAll 2 0 σ) fun v22 σ23 => (lt (ri σ23 15 ((σ23.1 15) + (1 : Int32))) fun σ25 => (ag37 x1 s0 σ25)))
set_option maxRecDepth 100000 in
set_option maxHeartbeats 4000000 in
theorem s_M_seldom_b104 {g : GP} {l : Launch} {r : Nat → Nat} {X : va_W} {G : GT} {v9 : Int32} {s9 : RS} (hG : IsG g l yX12_seldom cX12_seldom 5 { frames := 58, cells := 0, slots := 0, locals := 1319 } G) (K : ∀ L pc, decode cX12_seldom pc = .ok (.ireturn, 1) → G 0 0 (wR g r s9 X) L pc [.int v9]) {ag37 : Int32 → Int32 → RS → Option (Int32 × RS)} (hag37 : ∀ (x1 : Int32) (x2 : Int32) (σ : RS), ag37 x1 x2 σ = some (v9, s9) → G 0 0 (wR g r σ X) [(0, .ref (r 25)), (1, .int x1), (2, .int x2)] 37 []) {x1 : Int32} {s0 : Int32} {σ : RS} (h : M_seldom_b104 ag37 x1 s0 σ = some (v9, s9)) : G 0 0 (wR g r σ X) [(0, .ref (r 25)), (1, .int x1)] 104 [.int s0] := by
  unfold M_seldom_b104 at h
  refine g_istore_n hG dX12_seldom_104 (by decide) ?_
  refine g_aload_n hG dX12_seldom_105 rfl ?_
  refine g_aload_n hG dX12_seldom_106 rfl ?_
  refine r_get 2 hG dX12_seldom_107 f_X12_16 (by decide) rfl ?_
  refine g_aload_n hG dX12_seldom_110 rfl ?_
  refine r_get 0 hG dX12_seldom_111 f_X12_7 (by decide) rfl ?_
  obtain ⟨v22, σ23, q24, h⟩ := ob_some h
  refine g_cVv hG dX12_seldom_114 (c_M_moveAll (by decide) (by decide) (by decide) q24) b_X12_moveAll v_X12_150 rfl (k := 0) rfl rfl ⟨Nat.le_of_ble_eq_true rfl, Nat.le_of_ble_eq_true rfl⟩ ⟨rfl, rfl⟩ ⟨Nat.zero_le _, Nat.zero_le _⟩ _ rfl (Nat.le_of_ble_eq_true rfl) ?_
  refine g_aload_n hG dX12_seldom_117 rfl ?_
  refine g_dup hG dX12_seldom_118 rfl ?_
  refine r_get 15 hG dX12_seldom_119 f_X12_154 (by decide) rfl ?_
  refine g_iconstv hG dX12_seldom_122 ki_1 ?_
  refine g_iadd hG dX12_seldom_123 ?_
  obtain ⟨σ25, e26, h⟩ := lt_ex h
  refine r_put 15 hG e26 dX12_seldom_124 f_X12_154 (by decide) rfl rfl rfl rfl ?_
  refine g_goto (tgt := 37) hG dX12_seldom_127 rfl ?_
  refine g_loc hG [(0, .ref (r 25)), (1, .int x1), (2, .int s0)] ⟨rfl, rfl, rfl, trivial⟩ ?_
  exact hag37 _ _ _ h
def M_seldom_b92 (ag37 : Int32 → Int32 → RS → Option (Int32 × RS)) (x1 : Int32) (x2 : Int32) (x3 : Int32) (σ : RS) : Option (Int32 × RS) := (if x3 = 0 then (M_seldom_b104 ag37 x1 x2 σ) else (M_seldom_b104 ag37 x1 (σ.1 15) σ))
set_option maxRecDepth 100000 in
set_option maxHeartbeats 4000000 in
theorem s_M_seldom_b92 {g : GP} {l : Launch} {r : Nat → Nat} {X : va_W} {G : GT} {v9 : Int32} {s9 : RS} (hG : IsG g l yX12_seldom cX12_seldom 5 { frames := 58, cells := 0, slots := 0, locals := 1319 } G) (K : ∀ L pc, decode cX12_seldom pc = .ok (.ireturn, 1) → G 0 0 (wR g r s9 X) L pc [.int v9]) {ag37 : Int32 → Int32 → RS → Option (Int32 × RS)} (hag37 : ∀ (x1 : Int32) (x2 : Int32) (σ : RS), ag37 x1 x2 σ = some (v9, s9) → G 0 0 (wR g r σ X) [(0, .ref (r 25)), (1, .int x1), (2, .int x2)] 37 []) {x1 : Int32} {x2 : Int32} {x3 : Int32} {σ : RS} (h : M_seldom_b92 ag37 x1 x2 x3 σ = some (v9, s9)) : G 0 0 (wR g r σ X) [(0, .ref (r 25)), (1, .int x1), (2, .int x2), (3, .int x3)] 92 [] := by
  unfold M_seldom_b92 at h
  refine g_iload_n hG dX12_seldom_92 rfl ?_
  rcases if_some h with ⟨c21, h⟩ | ⟨c21, h⟩
  · refine g_if_eq (tgt := 103) hG dX12_seldom_93 rfl (fun _ => ?_) (fun q => absurd c21 q)
    refine g_iload_n hG dX12_seldom_103 rfl ?_
    refine g_loc hG [(0, .ref (r 25)), (1, .int x1)] ⟨rfl, rfl, trivial⟩ ?_
    exact s_M_seldom_b104  hG K hag37 h
  · refine g_if_eq (tgt := 103) hG dX12_seldom_93 rfl (fun q => absurd q c21) (fun _ => ?_)
    refine g_aload_n hG dX12_seldom_96 rfl ?_
    refine r_get 15 hG dX12_seldom_97 f_X12_154 (by decide) rfl ?_
    refine g_goto (tgt := 104) hG dX12_seldom_100 rfl ?_
    refine g_loc hG [(0, .ref (r 25)), (1, .int x1)] ⟨rfl, rfl, trivial⟩ ?_
    exact s_M_seldom_b104  hG K hag37 h
def M_seldom_b51 (ag37 : Int32 → Int32 → RS → Option (Int32 × RS)) : Nat → Int32 → Int32 → Int32 → Int32 → RS → Option (Int32 × RS)
  | 0, _, _, _, _, _ => none
  | n + 1, x1, x2, x3, x4, σ => (if (28 : Int32) ≤ x4 then (M_seldom_b92 ag37 x1 x2 x3 σ) else (if x3 = 0 then (M_seldom_b92 ag37 x1 x2 x3 σ) else (ob (M_oneDay  σ) fun v28 σ29 => (ob (M_dirtyFrom x1 σ29) fun v31 σ32 => (lt (if v31 = (σ32.2 0 2) then (1 : Int32) else (0 : Int32)) fun v36 => ((M_seldom_b51 ag37 n) x1 x2 v36 (x4 + (1 : Int32)) σ32))))))
set_option maxRecDepth 100000 in
set_option maxHeartbeats 4000000 in
theorem s_M_seldom_b51 {g : GP} {l : Launch} {r : Nat → Nat} {X : va_W} {G : GT} {v9 : Int32} {s9 : RS} (hG : IsG g l yX12_seldom cX12_seldom 5 { frames := 58, cells := 0, slots := 0, locals := 1319 } G) (K : ∀ L pc, decode cX12_seldom pc = .ok (.ireturn, 1) → G 0 0 (wR g r s9 X) L pc [.int v9]) {ag37 : Int32 → Int32 → RS → Option (Int32 × RS)} (hag37 : ∀ (x1 : Int32) (x2 : Int32) (σ : RS), ag37 x1 x2 σ = some (v9, s9) → G 0 0 (wR g r σ X) [(0, .ref (r 25)), (1, .int x1), (2, .int x2)] 37 []) : ∀ (n : Nat) (x1 : Int32) (x2 : Int32) (x3 : Int32) (x4 : Int32) (σ : RS) (h : M_seldom_b51 ag37 n x1 x2 x3 x4 σ = some (v9, s9)), G 0 0 (wR g r σ X) [(0, .ref (r 25)), (1, .int x1), (2, .int x2), (3, .int x3), (4, .int x4)] 51 [] := by
  intro n
  induction n with
  | zero => intro _ _ _ _ σ h; cases h
  | succ n ih =>
    intro x1 x2 x3 x4 σ h
    unfold M_seldom_b51 at h
    refine g_iload hG dX12_seldom_51 rfl ?_
    refine g_bipushv hG dX12_seldom_53 kb_28 ?_
    rcases if_some h with ⟨c20, h⟩ | ⟨c20, h⟩
    · refine g_icmp_ge (tgt := 92) hG dX12_seldom_55 rfl (fun _ => ?_) (fun q => absurd c20 q)
      refine g_loc hG [(0, .ref (r 25)), (1, .int x1), (2, .int x2), (3, .int x3)] ⟨rfl, rfl, rfl, rfl, trivial⟩ ?_
      exact s_M_seldom_b92  hG K hag37 h
    · refine g_icmp_ge (tgt := 92) hG dX12_seldom_55 rfl (fun q => absurd q c20) (fun _ => ?_)
      refine g_iload_n hG dX12_seldom_58 rfl ?_
      rcases if_some h with ⟨c27, h⟩ | ⟨c27, h⟩
      · refine g_if_eq (tgt := 92) hG dX12_seldom_59 rfl (fun _ => ?_) (fun q => absurd c27 q)
        refine g_loc hG [(0, .ref (r 25)), (1, .int x1), (2, .int x2), (3, .int x3)] ⟨rfl, rfl, rfl, rfl, trivial⟩ ?_
        exact s_M_seldom_b92  hG K hag37 h
      · refine g_if_eq (tgt := 92) hG dX12_seldom_59 rfl (fun q => absurd q c27) (fun _ => ?_)
        refine g_aload_n hG dX12_seldom_62 rfl ?_
        obtain ⟨v28, σ29, q30, h⟩ := ob_some h
        refine g_cVv hG dX12_seldom_63 (c_M_oneDay q30) b_X12_oneDay v_X12_171 rfl (k := 0) rfl rfl ⟨Nat.le_of_ble_eq_true rfl, Nat.le_of_ble_eq_true rfl⟩ ⟨rfl, rfl⟩ ⟨Nat.zero_le _, Nat.zero_le _⟩ _ rfl (Nat.le_of_ble_eq_true rfl) ?_
        refine g_aload_n hG dX12_seldom_66 rfl ?_
        refine g_iload_n hG dX12_seldom_67 rfl ?_
        obtain ⟨v31, σ32, q33, h⟩ := ob_some h
        refine g_cV hG dX12_seldom_68 (c_M_dirtyFrom q33) b_X12_dirtyFrom v_X12_186 rfl (k := 0) rfl rfl ⟨Nat.le_of_ble_eq_true rfl, Nat.le_of_ble_eq_true rfl⟩ ⟨rfl, rfl⟩ ⟨Nat.zero_le _, Nat.zero_le _⟩ _ rfl (Nat.le_of_ble_eq_true rfl) ?_
        refine g_aload_n hG dX12_seldom_71 rfl ?_
        refine r_get 0 hG dX12_seldom_72 f_X12_7 (by decide) rfl ?_
        refine g_iconstv hG dX12_seldom_75 ki_2 ?_
        refine r_iald 1 0 240 hG dX12_seldom_76 rfl (by decide) (by decide : Int32.toNatClampNeg (2 : Int32) = 2) ?_
        refine g_dia2 (if v31 = (σ32.2 0 2) then (1 : Int32) else (0 : Int32)) 85 (fun J34 => ?_) ?_
        · by_cases c35 : v31 = (σ32.2 0 2)
          · refine g_icmp_ne (tgt := 84) hG dX12_seldom_77 rfl (fun q => absurd c35 q) (fun _ => ?_)
            refine g_iconstv hG dX12_seldom_80 ki_1 ?_
            refine g_goto (tgt := 85) hG dX12_seldom_81 rfl ?_
            rw [if_pos c35] at J34
            exact J34
          · refine g_icmp_ne (tgt := 84) hG dX12_seldom_77 rfl (fun _ => ?_) (fun q => absurd q c35)
            refine g_iconstv hG dX12_seldom_84 ki_0 ?_
            rw [if_neg c35] at J34
            exact J34
        obtain ⟨v36, e37, h⟩ := lt_ex h
        refine g_nam e37 ?_
        refine g_istore_n hG dX12_seldom_85 (by decide) ?_
        refine g_iincv (c := (1 : Int32)) hG dX12_seldom_86 rfl (by decide) (by decide) ?_
        refine g_goto (tgt := 51) hG dX12_seldom_89 rfl ?_
        refine g_loc hG [(0, .ref (r 25)), (1, .int x1), (2, .int x2), (3, .int v36), (4, .int (x4 + (1 : Int32)))] ⟨rfl, rfl, rfl, rfl, rfl, trivial⟩ ?_
        exact ih _ _ _ _ _ h
def M_seldom_b37 : Nat → Int32 → Int32 → RS → Option (Int32 × RS)
  | 0, _, _, _ => none
  | n + 1, x1, x2, σ => (if (14 : Int32) < (σ.1 15) then (lt (ri σ 15 (0 : Int32)) fun σ14 => (if 0 ≤ x2 then (some (x2, σ14)) else (ob (M_errs (-1000000002 : Int32) σ14) fun v17 σ18 => (some (v17, σ18))))) else (M_seldom_b51 (M_seldom_b37  n) FU x1 x2 (1 : Int32) (0 : Int32) σ))
set_option maxRecDepth 100000 in
set_option maxHeartbeats 4000000 in
theorem s_M_seldom_b37 {g : GP} {l : Launch} {r : Nat → Nat} {X : va_W} {G : GT} {v9 : Int32} {s9 : RS} (hG : IsG g l yX12_seldom cX12_seldom 5 { frames := 58, cells := 0, slots := 0, locals := 1319 } G) (K : ∀ L pc, decode cX12_seldom pc = .ok (.ireturn, 1) → G 0 0 (wR g r s9 X) L pc [.int v9]) : ∀ (n : Nat) (x1 : Int32) (x2 : Int32) (σ : RS) (h : M_seldom_b37  n x1 x2 σ = some (v9, s9)), G 0 0 (wR g r σ X) [(0, .ref (r 25)), (1, .int x1), (2, .int x2)] 37 [] := by
  intro n
  induction n with
  | zero => intro _ _ σ h; cases h
  | succ n ih =>
    intro x1 x2 σ h
    unfold M_seldom_b37 at h
    refine g_aload_n hG dX12_seldom_37 rfl ?_
    refine r_get 15 hG dX12_seldom_38 f_X12_154 (by decide) rfl ?_
    refine g_bipushv hG dX12_seldom_41 kb_14 ?_
    rcases if_some h with ⟨c13, h⟩ | ⟨c13, h⟩
    · refine g_icmp_gt (tgt := 130) hG dX12_seldom_43 rfl (fun _ => ?_) (fun q => absurd c13 q)
      refine g_aload_n hG dX12_seldom_130 rfl ?_
      refine g_iconstv hG dX12_seldom_131 ki_0 ?_
      obtain ⟨σ14, e15, h⟩ := lt_ex h
      refine r_put 15 hG e15 dX12_seldom_132 f_X12_154 (by decide) rfl rfl rfl rfl ?_
      refine g_iload_n hG dX12_seldom_135 rfl ?_
      rcases if_some h with ⟨c16, h⟩ | ⟨c16, h⟩
      · refine g_if_ge (tgt := 148) hG dX12_seldom_136 rfl (fun _ => ?_) (fun q => absurd c16 q)
        refine g_iload_n hG dX12_seldom_148 rfl ?_
        cases h
        exact K _ _ dX12_seldom_149
      · refine g_if_ge (tgt := 148) hG dX12_seldom_136 rfl (fun q => absurd q c16) (fun _ => ?_)
        refine g_aload_n hG dX12_seldom_139 rfl ?_
        refine g_ldc hG dX12_seldom_140 k_X12_189 ?_
        obtain ⟨v17, σ18, q19, h⟩ := ob_some h
        refine g_cV hG dX12_seldom_142 (c_M_errs q19) b_X12_errs v_X12_46 rfl (k := 0) rfl rfl ⟨Nat.le_of_ble_eq_true rfl, Nat.le_of_ble_eq_true rfl⟩ ⟨rfl, rfl⟩ ⟨Nat.zero_le _, Nat.zero_le _⟩ _ rfl (Nat.le_of_ble_eq_true rfl) ?_
        refine g_goto (tgt := 149) hG dX12_seldom_145 rfl ?_
        cases h
        exact K _ _ dX12_seldom_149
    · refine g_icmp_gt (tgt := 130) hG dX12_seldom_43 rfl (fun q => absurd q c13) (fun _ => ?_)
      refine g_iconstv hG dX12_seldom_46 ki_1 ?_
      refine g_istore_n hG dX12_seldom_47 (by decide) ?_
      refine g_iconstv hG dX12_seldom_48 ki_0 ?_
      refine g_istore hG dX12_seldom_49 (by decide) ?_
      refine g_loc hG [(0, .ref (r 25)), (1, .int x1), (2, .int x2), (3, .int (1 : Int32)), (4, .int (0 : Int32))] ⟨rfl, rfl, rfl, rfl, rfl, trivial⟩ ?_
      exact s_M_seldom_b51  hG K ih FU _ _ _ _ _ h
def M_seldom (x1 : Int32) (σ : RS) : Option (Int32 × RS) := (ob (M_in x1 (1 : Int32) (999 : Int32) σ) fun v1 σ2 => (if v1 = 0 then (ob (M_errs (-1000000001 : Int32) σ2) fun v5 σ6 => (some (v5, σ6))) else (ob (M_moveAll 0 2 σ2) fun v8 σ9 => (lt (ri σ9 15 (1 : Int32)) fun σ11 => (M_seldom_b37  FU x1 (-1 : Int32) σ11)))))
set_option maxRecDepth 100000 in
set_option maxHeartbeats 4000000 in
theorem c_M_seldom {g : GP} {l : Launch} {r : Nat → Nat} {X : va_W} {v9 : Int32} {s9 : RS} {x1 : Int32} {σ : RS} (h : M_seldom x1 σ = some (v9, s9)) : CI g l yX12_seldom cX12_seldom 5 (some .int) { frames := 58, cells := 0, slots := 0, locals := 1319 } [.ref (r 25), .int x1] (wR g r σ X) (fun r0 w => r0 = v9 ∧ w = wR g r s9 X) := by
  refine CI.mk (by decide) (Nat.le_of_ble_eq_true rfl) (fun G hG hret => ?_)
  have K : ∀ L pc, decode cX12_seldom pc = .ok (.ireturn, 1) → G 0 0 (wR g r s9 X) L pc [.int v9] := fun L pc d => hret _ L pc v9 d rfl ⟨rfl, rfl⟩
  unfold M_seldom at h
  refine g_iload_n hG dX12_seldom_0 rfl ?_
  refine g_iconstv hG dX12_seldom_1 ki_1 ?_
  refine g_sipushv hG dX12_seldom_2 ks_999 ?_
  obtain ⟨v1, σ2, q3, h⟩ := ob_some h
  refine g_cS hG dX12_seldom_5 (c_M_in q3) b_X12_in v_X12_41 rfl ⟨Nat.le_of_ble_eq_true rfl, Nat.le_of_ble_eq_true rfl⟩ ⟨rfl, rfl⟩ ⟨Nat.zero_le _, Nat.zero_le _⟩ _ rfl (Nat.le_of_ble_eq_true rfl) ?_
  rcases if_some h with ⟨c4, h⟩ | ⟨c4, h⟩
  · refine g_if_ne (tgt := 18) hG dX12_seldom_8 rfl (fun q => absurd c4 q) (fun _ => ?_)
    refine g_aload_n hG dX12_seldom_11 rfl ?_
    refine g_ldc hG dX12_seldom_12 k_X12_45 ?_
    obtain ⟨v5, σ6, q7, h⟩ := ob_some h
    refine g_cV hG dX12_seldom_14 (c_M_errs q7) b_X12_errs v_X12_46 rfl (k := 0) rfl rfl ⟨Nat.le_of_ble_eq_true rfl, Nat.le_of_ble_eq_true rfl⟩ ⟨rfl, rfl⟩ ⟨Nat.zero_le _, Nat.zero_le _⟩ _ rfl (Nat.le_of_ble_eq_true rfl) ?_
    cases h
    exact K _ _ dX12_seldom_17
  · refine g_if_ne (tgt := 18) hG dX12_seldom_8 rfl (fun _ => ?_) (fun q => absurd q c4)
    refine g_iconstv hG dX12_seldom_18 ki_m1 ?_
    refine g_istore_n hG dX12_seldom_19 (by decide) ?_
    refine g_aload_n hG dX12_seldom_20 rfl ?_
    refine g_aload_n hG dX12_seldom_21 rfl ?_
    refine r_get 0 hG dX12_seldom_22 f_X12_7 (by decide) rfl ?_
    refine g_aload_n hG dX12_seldom_25 rfl ?_
    refine r_get 2 hG dX12_seldom_26 f_X12_16 (by decide) rfl ?_
    obtain ⟨v8, σ9, q10, h⟩ := ob_some h
    refine g_cVv hG dX12_seldom_29 (c_M_moveAll (by decide) (by decide) (by decide) q10) b_X12_moveAll v_X12_150 rfl (k := 0) rfl rfl ⟨Nat.le_of_ble_eq_true rfl, Nat.le_of_ble_eq_true rfl⟩ ⟨rfl, rfl⟩ ⟨Nat.zero_le _, Nat.zero_le _⟩ _ rfl (Nat.le_of_ble_eq_true rfl) ?_
    refine g_aload_n hG dX12_seldom_32 rfl ?_
    refine g_iconstv hG dX12_seldom_33 ki_1 ?_
    obtain ⟨σ11, e12, h⟩ := lt_ex h
    refine r_put 15 hG e12 dX12_seldom_34 f_X12_154 (by decide) rfl rfl rfl rfl ?_
    refine g_loc hG [(0, .ref (r 25)), (1, .int x1), (2, .int (-1 : Int32))] ⟨rfl, rfl, rfl, trivial⟩ ?_
    exact s_M_seldom_b37  hG K FU _ _ _ h
def M_leastFine_b69 (x2 : Int32) (x3 : Int32) (σ : RS) : Option (Int32 × RS) := (lt (ra σ 0 (upd (σ.2 0) 8 x2)) fun σ13 => (if x3 ≤ (99 : Int32) then (some (x3, σ13)) else (ob (M_errs (-1000000002 : Int32) σ13) fun v16 σ17 => (some (v16, σ17)))))
set_option maxRecDepth 100000 in
set_option maxHeartbeats 4000000 in
theorem s_M_leastFine_b69 {g : GP} {l : Launch} {r : Nat → Nat} {X : va_W} {G : GT} {v9 : Int32} {s9 : RS} (hG : IsG g l yX12_leastFine cX12_leastFine 4 { frames := 2, cells := 0, slots := 0, locals := 48 } G) (K : ∀ L pc, decode cX12_leastFine pc = .ok (.ireturn, 1) → G 0 0 (wR g r s9 X) L pc [.int v9]) {x2 : Int32} {x3 : Int32} {σ : RS} (h : M_leastFine_b69  x2 x3 σ = some (v9, s9)) : G 0 0 (wR g r σ X) [(0, .ref (r 25)), (2, .int x2), (3, .int x3)] 69 [] := by
  unfold M_leastFine_b69 at h
  refine g_aload_n hG dX12_leastFine_69 rfl ?_
  refine r_get 0 hG dX12_leastFine_70 f_X12_7 (by decide) rfl ?_
  refine g_bipushv hG dX12_leastFine_73 kb_8 ?_
  refine g_iload_n hG dX12_leastFine_75 rfl ?_
  obtain ⟨σ13, e14, h⟩ := lt_ex h
  refine r_iast 1 0 240 hG e14 dX12_leastFine_76 rfl (by decide) (by decide : Int32.toNatClampNeg (8 : Int32) = 8) rfl ?_
  refine g_iload_n hG dX12_leastFine_77 rfl ?_
  refine g_bipushv hG dX12_leastFine_78 kb_99 ?_
  rcases if_some h with ⟨c15, h⟩ | ⟨c15, h⟩
  · refine g_icmp_le (tgt := 92) hG dX12_leastFine_80 rfl (fun _ => ?_) (fun q => absurd c15 q)
    refine g_iload_n hG dX12_leastFine_92 rfl ?_
    cases h
    exact K _ _ dX12_leastFine_93
  · refine g_icmp_le (tgt := 92) hG dX12_leastFine_80 rfl (fun q => absurd q c15) (fun _ => ?_)
    refine g_aload_n hG dX12_leastFine_83 rfl ?_
    refine g_ldc hG dX12_leastFine_84 k_X12_189 ?_
    obtain ⟨v16, σ17, q18, h⟩ := ob_some h
    refine g_cV hG dX12_leastFine_86 (c_M_errs q18) b_X12_errs v_X12_46 rfl (k := 0) rfl rfl ⟨Nat.le_of_ble_eq_true rfl, Nat.le_of_ble_eq_true rfl⟩ ⟨rfl, rfl⟩ ⟨Nat.zero_le _, Nat.zero_le _⟩ _ rfl (Nat.le_of_ble_eq_true rfl) ?_
    refine g_goto (tgt := 93) hG dX12_leastFine_89 rfl ?_
    cases h
    exact K _ _ dX12_leastFine_93
def M_leastFine_b34 : Nat → Int32 → Int32 → Int32 → RS → Option (Int32 × RS)
  | 0, _, _, _, _ => none
  | n + 1, x1, x2, x3, σ => (if (99 : Int32) < x3 then (M_leastFine_b69  x2 x3 σ) else (ob (M_placesOn ((1 : Int32) - x1) σ) fun v19 σ20 => (ob (M_stayers x1 v19 σ20) fun v22 σ23 => (if v22 = 0 then (M_leastFine_b69  x2 x3 σ23) else (lt (ra σ23 0 (upd (σ23.2 0) 8 (x3 + (1 : Int32)))) fun σ26 => ((M_leastFine_b34  n) x1 x2 (x3 + (1 : Int32)) σ26))))))
set_option maxRecDepth 100000 in
set_option maxHeartbeats 4000000 in
theorem s_M_leastFine_b34 {g : GP} {l : Launch} {r : Nat → Nat} {X : va_W} {G : GT} {v9 : Int32} {s9 : RS} (hG : IsG g l yX12_leastFine cX12_leastFine 4 { frames := 2, cells := 0, slots := 0, locals := 48 } G) (K : ∀ L pc, decode cX12_leastFine pc = .ok (.ireturn, 1) → G 0 0 (wR g r s9 X) L pc [.int v9]) : ∀ (n : Nat) (x1 : Int32) (x2 : Int32) (x3 : Int32) (σ : RS) (h : M_leastFine_b34  n x1 x2 x3 σ = some (v9, s9)), G 0 0 (wR g r σ X) [(0, .ref (r 25)), (1, .int x1), (2, .int x2), (3, .int x3)] 34 [] := by
  intro n
  induction n with
  | zero => intro _ _ _ σ h; cases h
  | succ n ih =>
    intro x1 x2 x3 σ h
    unfold M_leastFine_b34 at h
    refine g_iload_n hG dX12_leastFine_34 rfl ?_
    refine g_bipushv hG dX12_leastFine_35 kb_99 ?_
    rcases if_some h with ⟨c12, h⟩ | ⟨c12, h⟩
    · refine g_icmp_gt (tgt := 69) hG dX12_leastFine_37 rfl (fun _ => ?_) (fun q => absurd c12 q)
      refine g_loc hG [(0, .ref (r 25)), (2, .int x2), (3, .int x3)] ⟨rfl, rfl, rfl, trivial⟩ ?_
      exact s_M_leastFine_b69  hG K  h
    · refine g_icmp_gt (tgt := 69) hG dX12_leastFine_37 rfl (fun q => absurd q c12) (fun _ => ?_)
      refine g_aload_n hG dX12_leastFine_40 rfl ?_
      refine g_iload_n hG dX12_leastFine_41 rfl ?_
      refine g_aload_n hG dX12_leastFine_42 rfl ?_
      refine g_iconstv hG dX12_leastFine_43 ki_1 ?_
      refine g_iload_n hG dX12_leastFine_44 rfl ?_
      refine g_isub hG dX12_leastFine_45 ?_
      obtain ⟨v19, σ20, q21, h⟩ := ob_some h
      refine g_cV hG dX12_leastFine_46 (c_M_placesOn q21) b_X12_placesOn v_X12_164 rfl (k := 0) rfl rfl ⟨Nat.le_of_ble_eq_true rfl, Nat.le_of_ble_eq_true rfl⟩ ⟨rfl, rfl⟩ ⟨Nat.zero_le _, Nat.zero_le _⟩ _ rfl (Nat.le_of_ble_eq_true rfl) ?_
      obtain ⟨v22, σ23, q24, h⟩ := ob_some h
      refine g_cV hG dX12_leastFine_49 (c_M_stayers q24) b_X12_stayers v_X12_161 rfl (k := 0) rfl rfl ⟨Nat.le_of_ble_eq_true rfl, Nat.le_of_ble_eq_true rfl⟩ ⟨rfl, rfl⟩ ⟨Nat.zero_le _, Nat.zero_le _⟩ _ rfl (Nat.le_of_ble_eq_true rfl) ?_
      rcases if_some h with ⟨c25, h⟩ | ⟨c25, h⟩
      · refine g_if_eq (tgt := 69) hG dX12_leastFine_52 rfl (fun _ => ?_) (fun q => absurd c25 q)
        refine g_loc hG [(0, .ref (r 25)), (2, .int x2), (3, .int x3)] ⟨rfl, rfl, rfl, trivial⟩ ?_
        exact s_M_leastFine_b69  hG K  h
      · refine g_if_eq (tgt := 69) hG dX12_leastFine_52 rfl (fun q => absurd q c25) (fun _ => ?_)
        refine g_iincv (c := (1 : Int32)) hG dX12_leastFine_55 rfl (by decide) (by decide) ?_
        refine g_aload_n hG dX12_leastFine_58 rfl ?_
        refine r_get 0 hG dX12_leastFine_59 f_X12_7 (by decide) rfl ?_
        refine g_bipushv hG dX12_leastFine_62 kb_8 ?_
        refine g_iload_n hG dX12_leastFine_64 rfl ?_
        obtain ⟨σ26, e27, h⟩ := lt_ex h
        refine r_iast 1 0 240 hG e27 dX12_leastFine_65 rfl (by decide) (by decide : Int32.toNatClampNeg (8 : Int32) = 8) rfl ?_
        refine g_goto (tgt := 34) hG dX12_leastFine_66 rfl ?_
        refine g_loc hG [(0, .ref (r 25)), (1, .int x1), (2, .int x2), (3, .int (x3 + (1 : Int32)))] ⟨rfl, rfl, rfl, rfl, trivial⟩ ?_
        exact ih _ _ _ _ h
def M_leastFine (x1 : Int32) (σ : RS) : Option (Int32 × RS) := (ob (M_in x1 (0 : Int32) (1 : Int32) σ) fun v1 σ2 => (if v1 = 0 then (ob (M_errs (-1000000001 : Int32) σ2) fun v5 σ6 => (some (v5, σ6))) else (lt (σ2.2 0 8) fun v8 => (lt (ra σ2 0 (upd (σ2.2 0) 8 (0 : Int32))) fun σ10 => (M_leastFine_b34  FU x1 v8 (0 : Int32) σ10)))))
set_option maxRecDepth 100000 in
set_option maxHeartbeats 4000000 in
theorem c_M_leastFine {g : GP} {l : Launch} {r : Nat → Nat} {X : va_W} {v9 : Int32} {s9 : RS} {x1 : Int32} {σ : RS} (h : M_leastFine x1 σ = some (v9, s9)) : CI g l yX12_leastFine cX12_leastFine 4 (some .int) { frames := 2, cells := 0, slots := 0, locals := 48 } [.ref (r 25), .int x1] (wR g r σ X) (fun r0 w => r0 = v9 ∧ w = wR g r s9 X) := by
  refine CI.mk (by decide) (Nat.le_of_ble_eq_true rfl) (fun G hG hret => ?_)
  have K : ∀ L pc, decode cX12_leastFine pc = .ok (.ireturn, 1) → G 0 0 (wR g r s9 X) L pc [.int v9] := fun L pc d => hret _ L pc v9 d rfl ⟨rfl, rfl⟩
  unfold M_leastFine at h
  refine g_iload_n hG dX12_leastFine_0 rfl ?_
  refine g_iconstv hG dX12_leastFine_1 ki_0 ?_
  refine g_iconstv hG dX12_leastFine_2 ki_1 ?_
  obtain ⟨v1, σ2, q3, h⟩ := ob_some h
  refine g_cS hG dX12_leastFine_3 (c_M_in q3) b_X12_in v_X12_41 rfl ⟨Nat.le_of_ble_eq_true rfl, Nat.le_of_ble_eq_true rfl⟩ ⟨rfl, rfl⟩ ⟨Nat.zero_le _, Nat.zero_le _⟩ _ rfl (Nat.le_of_ble_eq_true rfl) ?_
  rcases if_some h with ⟨c4, h⟩ | ⟨c4, h⟩
  · refine g_if_ne (tgt := 16) hG dX12_leastFine_6 rfl (fun q => absurd c4 q) (fun _ => ?_)
    refine g_aload_n hG dX12_leastFine_9 rfl ?_
    refine g_ldc hG dX12_leastFine_10 k_X12_45 ?_
    obtain ⟨v5, σ6, q7, h⟩ := ob_some h
    refine g_cV hG dX12_leastFine_12 (c_M_errs q7) b_X12_errs v_X12_46 rfl (k := 0) rfl rfl ⟨Nat.le_of_ble_eq_true rfl, Nat.le_of_ble_eq_true rfl⟩ ⟨rfl, rfl⟩ ⟨Nat.zero_le _, Nat.zero_le _⟩ _ rfl (Nat.le_of_ble_eq_true rfl) ?_
    cases h
    exact K _ _ dX12_leastFine_15
  · refine g_if_ne (tgt := 16) hG dX12_leastFine_6 rfl (fun _ => ?_) (fun q => absurd q c4)
    refine g_aload_n hG dX12_leastFine_16 rfl ?_
    refine r_get 0 hG dX12_leastFine_17 f_X12_7 (by decide) rfl ?_
    refine g_bipushv hG dX12_leastFine_20 kb_8 ?_
    refine r_iald 1 0 240 hG dX12_leastFine_22 rfl (by decide) (by decide : Int32.toNatClampNeg (8 : Int32) = 8) ?_
    obtain ⟨v8, e9, h⟩ := lt_ex h
    refine g_nam e9 ?_
    refine g_istore_n hG dX12_leastFine_23 (by decide) ?_
    refine g_iconstv hG dX12_leastFine_24 ki_0 ?_
    refine g_istore_n hG dX12_leastFine_25 (by decide) ?_
    refine g_aload_n hG dX12_leastFine_26 rfl ?_
    refine r_get 0 hG dX12_leastFine_27 f_X12_7 (by decide) rfl ?_
    refine g_bipushv hG dX12_leastFine_30 kb_8 ?_
    refine g_iload_n hG dX12_leastFine_32 rfl ?_
    obtain ⟨σ10, e11, h⟩ := lt_ex h
    refine r_iast 1 0 240 hG e11 dX12_leastFine_33 rfl (by decide) (by decide : Int32.toNatClampNeg (8 : Int32) = 8) rfl ?_
    refine g_loc hG [(0, .ref (r 25)), (1, .int x1), (2, .int v8), (3, .int (0 : Int32))] ⟨rfl, rfl, rfl, rfl, trivial⟩ ?_
    exact s_M_leastFine_b34  hG K FU _ _ _ _ h
