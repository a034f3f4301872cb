def N_T_fail (x1 : Int32) (σ : CS) : Option (Int32 × CS) := (gd (inb ((-1000000000 : Int32) - x1) 6) (gd (inb ((-1000000000 : Int32) - x1) 6) (lt (sa σ 5 8 (upd (σ.2.1 5 8) (ix ((-1000000000 : Int32) - x1)) ((σ.2.1 5 8 (ix ((-1000000000 : Int32) - x1))) + (1 : Int32)))) fun σ2 => (some (x1, σ2)))))
set_option maxRecDepth 100000 in
set_option maxHeartbeats 4000000 in
theorem c_N_T_fail {g : GP} {l : Launch} {A : Nat → Nat → Nat} {X : va_W} {v9 : Int32} {s9 : CS} {x1 : Int32} {σ : CS} (h : N_T_fail x1 σ = some (v9, s9)) : CI g l yX11_fail cX11_fail 2 (some .int) { frames := 0, cells := 0, slots := 0, locals := 0 } [.ref (A 5 99), .int x1] (wC g A σ X) (fun r0 w => r0 = v9 ∧ w = wC g A s9 X) := by
  refine CI.mk (by decide) (Nat.le_of_ble_eq_true rfl) (fun G hG hret => ?_)
  have K : ∀ L pc, decode cX11_fail pc = .ok (.ireturn, 1) → G 0 0 (wC g A s9 X) L pc [.int v9] := fun L pc d => hret _ L pc v9 d rfl ⟨rfl, rfl⟩
  unfold N_T_fail at h
  refine g_aload_n hG dX11_fail_0 rfl ?_
  refine g_get (f := 8) hG dX11_fail_1 (eT g A _ X) rfl inX11 (by decide) rfl f_X11_76 rfl ?_
  refine g_ldcw hG dX11_fail_4 k_X11_298 ?_
  refine g_iload_n hG dX11_fail_7 rfl ?_
  refine g_isub hG dX11_fail_8 ?_
  refine g_dup2 hG dX11_fail_9 rfl rfl ?_
  obtain ⟨b1, h⟩ := gd_some h
  refine c_iald hG dX11_fail_10 aT8 b1 rfl ?_
  refine g_iconstv hG dX11_fail_11 ki_1 ?_
  refine g_iadd hG dX11_fail_12 ?_
  obtain ⟨b4, h⟩ := gd_some h
  obtain ⟨σ2, e3, h⟩ := lt_ex h
  refine c_iast hG e3 dX11_fail_13 aT8 b4 rfl ?_
  refine g_iload_n hG dX11_fail_14 rfl ?_
  cases h
  exact K _ _ dX11_fail_15
def N_T_yard (x1 : Int32) (x2 : Int32) (x3 : Int32) (σ : CS) : Option (Int32 × CS) := (ob (N_T_within x1 (0 : Int32) (69 : Int32) σ) fun v1 σ2 => (if v1 = 0 then (ob (N_T_fail (-1000000001 : Int32) σ2) fun v5 σ6 => (some (v5, σ6))) else (ob (N_T_within x2 (0 : Int32) (999 : Int32) σ2) fun v8 σ9 => (if v8 = 0 then (ob (N_T_fail (-1000000001 : Int32) σ9) fun v12 σ13 => (some (v12, σ13))) else (ob (N_T_within x3 (-1 : Int32) (99 : Int32) σ9) fun v15 σ16 => (if v15 = 0 then (ob (N_T_fail (-1000000001 : Int32) σ16) fun v19 σ20 => (some (v19, σ20))) else (if (σ16.1 0 5) < (12 : Int32) then (lt (σ16.1 0 5) fun v23 => (lt (si σ16 0 5 ((σ16.1 0 5) + (1 : Int32))) fun σ25 => (ob (N_S_shape 0 v23 x1 σ25) fun v27 σ28 => (gd (inb v23 12) (lt (sa σ28 0 3 (upd (σ28.2.1 0 3) (ix v23) x2)) fun σ30 => (gd (inb v23 12) (lt (sa σ30 0 4 (upd (σ30.2.1 0 4) (ix v23) (if x3 < (0 : Int32) then (0 : Int32) else x3))) fun σ33 => (ob (N_S_park 0 v23 (if x3 < 0 then (0 : Int32) else (1 : Int32)) σ33) fun v38 σ39 => (some (v23, σ39)))))))))) else (ob (N_T_fail (-1000000004 : Int32) σ16) fun v41 σ42 => (some (v41, σ42))))))))))
set_option maxRecDepth 100000 in
set_option maxHeartbeats 4000000 in
theorem c_N_T_yard {g : GP} {l : Launch} {A : Nat → Nat → Nat} {X : va_W} {v9 : Int32} {s9 : CS} {x1 : Int32} {x2 : Int32} {x3 : Int32} {σ : CS} (h : N_T_yard x1 x2 x3 σ = some (v9, s9)) : CI g l yX11_yard cX11_yard 5 (some .int) { frames := 1, cells := 0, slots := 0, locals := 64 } [.ref (A 5 99), .int x1, .int x2, .int x3] (wC g A σ X) (fun r0 w => r0 = v9 ∧ w = wC g A s9 X) := by
  refine CI.mk (by decide) (Nat.le_of_ble_eq_true rfl) (fun G hG hret => ?_)
  have K : ∀ L pc, decode cX11_yard pc = .ok (.ireturn, 1) → G 0 0 (wC g A s9 X) L pc [.int v9] := fun L pc d => hret _ L pc v9 d rfl ⟨rfl, rfl⟩
  unfold N_T_yard at h
  refine g_iload_n hG dX11_yard_0 rfl ?_
  refine g_iconstv hG dX11_yard_1 ki_0 ?_
  refine g_bipushv hG dX11_yard_2 kb_69 ?_
  obtain ⟨v1, σ2, q3, h⟩ := ob_some h
  refine g_cS hG dX11_yard_4 (c_N_T_within q3) b_X11_within v_X11_79 rfl ⟨Nat.le_of_ble_eq_true rfl, Nat.le_of_ble_eq_true rfl⟩ ⟨rfl, rfl⟩ ⟨Nat.zero_le _, Nat.zero_le _⟩ _ rfl (Nat.le_of_ble_eq_true rfl) ?_
  rcases if_some h with ⟨c4, h⟩ | ⟨c4, h⟩
  · refine g_if_eq (tgt := 31) hG dX11_yard_7 rfl (fun _ => ?_) (fun q => absurd c4 q)
    refine g_aload_n hG dX11_yard_31 rfl ?_
    refine g_ldc hG dX11_yard_32 k_X11_83 ?_
    obtain ⟨v5, σ6, q7, h⟩ := ob_some h
    refine g_cV hG dX11_yard_34 (c_N_T_fail q7) b_X11_fail v_X11_84 rfl (eT g A _ X) rfl ⟨Nat.le_of_ble_eq_true rfl, Nat.le_of_ble_eq_true rfl⟩ ⟨rfl, rfl⟩ ⟨Nat.zero_le _, Nat.zero_le _⟩ _ rfl (Nat.le_of_ble_eq_true rfl) ?_
    cases h
    exact K _ _ dX11_yard_37
  · refine g_if_eq (tgt := 31) hG dX11_yard_7 rfl (fun q => absurd q c4) (fun _ => ?_)
    refine g_iload_n hG dX11_yard_10 rfl ?_
    refine g_iconstv hG dX11_yard_11 ki_0 ?_
    refine g_sipushv hG dX11_yard_12 ks_999 ?_
    obtain ⟨v8, σ9, q10, h⟩ := ob_some h
    refine g_cS hG dX11_yard_15 (c_N_T_within q10) b_X11_within v_X11_79 rfl ⟨Nat.le_of_ble_eq_true rfl, Nat.le_of_ble_eq_true rfl⟩ ⟨rfl, rfl⟩ ⟨Nat.zero_le _, Nat.zero_le _⟩ _ rfl (Nat.le_of_ble_eq_true rfl) ?_
    rcases if_some h with ⟨c11, h⟩ | ⟨c11, h⟩
    · refine g_if_eq (tgt := 31) hG dX11_yard_18 rfl (fun _ => ?_) (fun q => absurd c11 q)
      refine g_aload_n hG dX11_yard_31 rfl ?_
      refine g_ldc hG dX11_yard_32 k_X11_83 ?_
      obtain ⟨v12, σ13, q14, h⟩ := ob_some h
      refine g_cV hG dX11_yard_34 (c_N_T_fail q14) b_X11_fail v_X11_84 rfl (eT g A _ X) rfl ⟨Nat.le_of_ble_eq_true rfl, Nat.le_of_ble_eq_true rfl⟩ ⟨rfl, rfl⟩ ⟨Nat.zero_le _, Nat.zero_le _⟩ _ rfl (Nat.le_of_ble_eq_true rfl) ?_
      cases h
      exact K _ _ dX11_yard_37
    · refine g_if_eq (tgt := 31) hG dX11_yard_18 rfl (fun q => absurd q c11) (fun _ => ?_)
      refine g_iload_n hG dX11_yard_21 rfl ?_
      refine g_iconstv hG dX11_yard_22 ki_m1 ?_
      refine g_bipushv hG dX11_yard_23 kb_99 ?_
      obtain ⟨v15, σ16, q17, h⟩ := ob_some h
      refine g_cS hG dX11_yard_25 (c_N_T_within q17) b_X11_within v_X11_79 rfl ⟨Nat.le_of_ble_eq_true rfl, Nat.le_of_ble_eq_true rfl⟩ ⟨rfl, rfl⟩ ⟨Nat.zero_le _, Nat.zero_le _⟩ _ rfl (Nat.le_of_ble_eq_true rfl) ?_
      rcases if_some h with ⟨c18, h⟩ | ⟨c18, h⟩
      · refine g_if_ne (tgt := 38) hG dX11_yard_28 rfl (fun q => absurd c18 q) (fun _ => ?_)
        refine g_aload_n hG dX11_yard_31 rfl ?_
        refine g_ldc hG dX11_yard_32 k_X11_83 ?_
        obtain ⟨v19, σ20, q21, h⟩ := ob_some h
        refine g_cV hG dX11_yard_34 (c_N_T_fail q21) b_X11_fail v_X11_84 rfl (eT g A _ X) rfl ⟨Nat.le_of_ble_eq_true rfl, Nat.le_of_ble_eq_true rfl⟩ ⟨rfl, rfl⟩ ⟨Nat.zero_le _, Nat.zero_le _⟩ _ rfl (Nat.le_of_ble_eq_true rfl) ?_
        cases h
        exact K _ _ dX11_yard_37
      · refine g_if_ne (tgt := 38) hG dX11_yard_28 rfl (fun _ => ?_) (fun q => absurd q c18)
        refine g_aload_n hG dX11_yard_38 rfl ?_
        refine g_get (f := 0) hG dX11_yard_39 (eT g A _ X) rfl inX11 (by decide) rfl f_X11_40 rfl ?_
        refine g_getN (f := 5) hG dX11_yard_42 (eS (by decide)) rfl inX7 (by decide) rfl f_X11_88 rfl ?_
        refine g_bipushv hG dX11_yard_45 kb_12 ?_
        rcases if_some h with ⟨c22, h⟩ | ⟨c22, h⟩
        · refine g_icmp_lt (tgt := 57) hG dX11_yard_47 rfl (fun _ => ?_) (fun q => absurd c22 q)
          refine g_aload_n hG dX11_yard_57 rfl ?_
          refine g_get (f := 0) hG dX11_yard_58 (eT g A _ X) rfl inX11 (by decide) rfl f_X11_40 rfl ?_
          refine g_getN (f := 5) hG dX11_yard_61 (eS (by decide)) rfl inX7 (by decide) rfl f_X11_88 rfl ?_
          obtain ⟨v23, e24, h⟩ := lt_ex h
          refine g_nam e24 ?_
          refine g_istore hG dX11_yard_64 (by decide) ?_
          refine g_aload_n hG dX11_yard_66 rfl ?_
          refine g_get (f := 0) hG dX11_yard_67 (eT g A _ X) rfl inX11 (by decide) rfl f_X11_40 rfl ?_
          refine g_dup hG dX11_yard_70 rfl ?_
          refine g_getN (f := 5) hG dX11_yard_71 (eS (by decide)) rfl inX7 (by decide) rfl f_X11_88 rfl ?_
          refine g_iconstv hG dX11_yard_74 ki_1 ?_
          refine g_iadd hG dX11_yard_75 ?_
          obtain ⟨σ25, e26, h⟩ := lt_ex h
          refine t_putN 5 hG (by decide) e26 dX11_yard_76 f_X11_88 (by decide) (by decide) rfl rfl rfl ?_
          refine g_aload_n hG dX11_yard_79 rfl ?_
          refine g_get (f := 0) hG dX11_yard_80 (eT g A _ X) rfl inX11 (by decide) rfl f_X11_40 rfl ?_
          refine g_iload hG dX11_yard_83 rfl ?_
          refine g_iload_n hG dX11_yard_85 rfl ?_
          obtain ⟨v27, σ28, q29, h⟩ := ob_some h
          refine g_cVv hG dX11_yard_86 (c_N_S_shape (by decide) q29) b_X7_shape v_X11_93 rfl (eS (by decide)) rfl ⟨Nat.le_of_ble_eq_true rfl, Nat.le_of_ble_eq_true rfl⟩ ⟨rfl, rfl⟩ ⟨Nat.zero_le _, Nat.zero_le _⟩ _ rfl (Nat.le_of_ble_eq_true rfl) ?_
          refine g_aload_n hG dX11_yard_89 rfl ?_
          refine g_get (f := 0) hG dX11_yard_90 (eT g A _ X) rfl inX11 (by decide) rfl f_X11_40 rfl ?_
          refine g_getN (f := 3) hG dX11_yard_93 (eS (by decide)) rfl inX7 (by decide) rfl f_X11_97 rfl ?_
          refine g_iload hG dX11_yard_96 rfl ?_
          refine g_iload_n hG dX11_yard_98 rfl ?_
          obtain ⟨b32, h⟩ := gd_some h
          obtain ⟨σ30, e31, h⟩ := lt_ex h
          refine c_iast hG e31 dX11_yard_99 (aS3 (d := 0) (by decide)) b32 rfl ?_
          refine g_aload_n hG dX11_yard_100 rfl ?_
          refine g_get (f := 0) hG dX11_yard_101 (eT g A _ X) rfl inX11 (by decide) rfl f_X11_40 rfl ?_
          refine g_getN (f := 4) hG dX11_yard_104 (eS (by decide)) rfl inX7 (by decide) rfl f_X11_100 rfl ?_
          refine g_iload hG dX11_yard_107 rfl ?_
          refine g_iload_n hG dX11_yard_109 rfl ?_
          refine g_iconstv hG dX11_yard_110 ki_0 ?_
          refine g_max hG dX11_yard_111 v_X11_103 st_max in_Math co_max (Nat.le_of_ble_eq_true rfl) (Nat.le_of_ble_eq_true rfl) (Nat.zero_le _) (Nat.zero_le _) ?_
          obtain ⟨b35, h⟩ := gd_some h
          obtain ⟨σ33, e34, h⟩ := lt_ex h
          refine c_iast hG e34 dX11_yard_114 (aS4 (d := 0) (by decide)) b35 rfl ?_
          refine g_aload_n hG dX11_yard_115 rfl ?_
          refine g_get (f := 0) hG dX11_yard_116 (eT g A _ X) rfl inX11 (by decide) rfl f_X11_40 rfl ?_
          refine g_iload hG dX11_yard_119 rfl ?_
          refine g_iload_n hG dX11_yard_121 rfl ?_
          refine g_dia1 (if x3 < 0 then (0 : Int32) else (1 : Int32)) 130 (fun J36 => ?_) ?_
          · by_cases c37 : x3 < 0
            · refine g_if_lt (tgt := 129) hG dX11_yard_122 rfl (fun _ => ?_) (fun q => absurd c37 q)
              refine g_iconstv hG dX11_yard_129 ki_0 ?_
              rw [if_pos c37] at J36
              exact J36
            · refine g_if_lt (tgt := 129) hG dX11_yard_122 rfl (fun q => absurd q c37) (fun _ => ?_)
              refine g_iconstv hG dX11_yard_125 ki_1 ?_
              refine g_goto (tgt := 130) hG dX11_yard_126 rfl ?_
              rw [if_neg c37] at J36
              exact J36
          obtain ⟨v38, σ39, q40, h⟩ := ob_some h
          refine g_cVv hG dX11_yard_130 (c_N_S_park (by decide) q40) b_X7_park v_X11_109 rfl (eS (by decide)) rfl ⟨Nat.le_of_ble_eq_true rfl, Nat.le_of_ble_eq_true rfl⟩ ⟨rfl, rfl⟩ ⟨Nat.zero_le _, Nat.zero_le _⟩ _ rfl (Nat.le_of_ble_eq_true rfl) ?_
          refine g_iload hG dX11_yard_133 rfl ?_
          cases h
          exact K _ _ dX11_yard_135
        · refine g_icmp_lt (tgt := 57) hG dX11_yard_47 rfl (fun q => absurd q c22) (fun _ => ?_)
          refine g_aload_n hG dX11_yard_50 rfl ?_
          refine g_ldc hG dX11_yard_51 k_X11_92 ?_
          obtain ⟨v41, σ42, q43, h⟩ := ob_some h
          refine g_cV hG dX11_yard_53 (c_N_T_fail q43) b_X11_fail v_X11_84 rfl (eT g A _ X) rfl ⟨Nat.le_of_ble_eq_true rfl, Nat.le_of_ble_eq_true rfl⟩ ⟨rfl, rfl⟩ ⟨Nat.zero_le _, Nat.zero_le _⟩ _ rfl (Nat.le_of_ble_eq_true rfl) ?_
          cases h
          exact K _ _ dX11_yard_56
def N_T_ofYard (x1 : Int32) (x2 : Int32) (σ : CS) : Option (Int32 × CS) := (ob (N_S_has 0 x1 σ) fun v1 σ2 => (if v1 = 0 then (ob (N_T_fail (-1000000001 : Int32) σ2) fun v5 σ6 => (some (v5, σ6))) else (if x2 = (0 : Int32) then (gd (inb x1 12) (some ((σ2.2.1 0 1 (ix x1)), σ2))) else (if x2 = (1 : Int32) then (gd (inb x1 12) (some ((σ2.2.1 0 2 (ix x1)), σ2))) else (if x2 = (2 : Int32) then (gd (inb x1 12) (some ((σ2.2.1 0 3 (ix x1)), σ2))) else (if x2 = (3 : Int32) then (ob (N_S_carOf 0 x1 σ2) fun v15 σ16 => (some (v15, σ16))) else (if x2 = (4 : Int32) then (gd (inb x1 12) (some ((σ2.2.1 0 4 (ix x1)), σ2))) else (if x2 = (5 : Int32) then (ob (N_S_fallsNow 0 x1 σ2) fun v21 σ22 => (some (v21, σ22))) else (if x2 = (6 : Int32) then (ob (N_S_takesNow 0 x1 σ2) fun v25 σ26 => (some (v25, σ26))) else (ob (N_T_fail (-1000000001 : Int32) σ2) fun v28 σ29 => (some (v28, σ29))))))))))))
set_option maxRecDepth 100000 in
set_option maxHeartbeats 4000000 in
theorem c_N_T_ofYard {g : GP} {l : Launch} {A : Nat → Nat → Nat} {X : va_W} {v9 : Int32} {s9 : CS} {x1 : Int32} {x2 : Int32} {σ : CS} (h : N_T_ofYard x1 x2 σ = some (v9, s9)) : CI g l yX11_ofYard cX11_ofYard 3 (some .int) { frames := 3, cells := 0, slots := 0, locals := 112 } [.ref (A 5 99), .int x1, .int x2] (wC g A σ X) (fun r0 w => r0 = v9 ∧ w = wC g A s9 X) := by
  refine CI.mk (by decide) (Nat.le_of_ble_eq_true rfl) (fun G hG hret => ?_)
  have K : ∀ L pc, decode cX11_ofYard pc = .ok (.ireturn, 1) → G 0 0 (wC g A s9 X) L pc [.int v9] := fun L pc d => hret _ L pc v9 d rfl ⟨rfl, rfl⟩
  unfold N_T_ofYard at h
  refine g_aload_n hG dX11_ofYard_0 rfl ?_
  refine g_get (f := 0) hG dX11_ofYard_1 (eT g A _ X) rfl inX11 (by decide) rfl f_X11_40 rfl ?_
  refine g_iload_n hG dX11_ofYard_4 rfl ?_
  obtain ⟨v1, σ2, q3, h⟩ := ob_some h
  refine g_cV hG dX11_ofYard_5 (c_N_S_has (by decide) q3) b_X7_has v_X11_113 rfl (eS (by decide)) rfl ⟨Nat.le_of_ble_eq_true rfl, Nat.le_of_ble_eq_true rfl⟩ ⟨rfl, rfl⟩ ⟨Nat.zero_le _, Nat.zero_le _⟩ _ rfl (Nat.le_of_ble_eq_true rfl) ?_
  rcases if_some h with ⟨c4, h⟩ | ⟨c4, h⟩
  · refine g_if_ne (tgt := 18) hG dX11_ofYard_8 rfl (fun q => absurd c4 q) (fun _ => ?_)
    refine g_aload_n hG dX11_ofYard_11 rfl ?_
    refine g_ldc hG dX11_ofYard_12 k_X11_83 ?_
    obtain ⟨v5, σ6, q7, h⟩ := ob_some h
    refine g_cV hG dX11_ofYard_14 (c_N_T_fail q7) b_X11_fail v_X11_84 rfl (eT g A _ X) rfl ⟨Nat.le_of_ble_eq_true rfl, Nat.le_of_ble_eq_true rfl⟩ ⟨rfl, rfl⟩ ⟨Nat.zero_le _, Nat.zero_le _⟩ _ rfl (Nat.le_of_ble_eq_true rfl) ?_
    cases h
    exact K _ _ dX11_ofYard_17
  · refine g_if_ne (tgt := 18) hG dX11_ofYard_8 rfl (fun _ => ?_) (fun q => absurd q c4)
    refine g_iload_n hG dX11_ofYard_18 rfl ?_
    rcases if_some h with ⟨c8, h⟩ | ⟨c8, h⟩
    · refine g_tabC (tgt := 60) (c := (0 : Int32)) hG c8 dX11_ofYard_19 (by decide) (by decide) rfl rfl ?_
      refine g_aload_n hG dX11_ofYard_60 rfl ?_
      refine g_get (f := 0) hG dX11_ofYard_61 (eT g A _ X) rfl inX11 (by decide) rfl f_X11_40 rfl ?_
      refine g_getN (f := 1) hG dX11_ofYard_64 (eS (by decide)) rfl inX7 (by decide) rfl f_X11_117 rfl ?_
      refine g_iload_n hG dX11_ofYard_67 rfl ?_
      obtain ⟨b9, h⟩ := gd_some h
      refine c_iald hG dX11_ofYard_68 (aS1 (d := 0) (by decide)) b9 rfl ?_
      cases h
      exact K _ _ dX11_ofYard_69
    ·
      rcases if_some h with ⟨c10, h⟩ | ⟨c10, h⟩
      · refine g_tabC (tgt := 70) (c := (1 : Int32)) hG c10 dX11_ofYard_19 (by decide) (by decide) rfl rfl ?_
        refine g_aload_n hG dX11_ofYard_70 rfl ?_
        refine g_get (f := 0) hG dX11_ofYard_71 (eT g A _ X) rfl inX11 (by decide) rfl f_X11_40 rfl ?_
        refine g_getN (f := 2) hG dX11_ofYard_74 (eS (by decide)) rfl inX7 (by decide) rfl f_X11_120 rfl ?_
        refine g_iload_n hG dX11_ofYard_77 rfl ?_
        obtain ⟨b11, h⟩ := gd_some h
        refine c_iald hG dX11_ofYard_78 (aS2 (d := 0) (by decide)) b11 rfl ?_
        cases h
        exact K _ _ dX11_ofYard_79
      ·
        rcases if_some h with ⟨c12, h⟩ | ⟨c12, h⟩
        · refine g_tabC (tgt := 80) (c := (2 : Int32)) hG c12 dX11_ofYard_19 (by decide) (by decide) rfl rfl ?_
          refine g_aload_n hG dX11_ofYard_80 rfl ?_
          refine g_get (f := 0) hG dX11_ofYard_81 (eT g A _ X) rfl inX11 (by decide) rfl f_X11_40 rfl ?_
          refine g_getN (f := 3) hG dX11_ofYard_84 (eS (by decide)) rfl inX7 (by decide) rfl f_X11_97 rfl ?_
          refine g_iload_n hG dX11_ofYard_87 rfl ?_
          obtain ⟨b13, h⟩ := gd_some h
          refine c_iald hG dX11_ofYard_88 (aS3 (d := 0) (by decide)) b13 rfl ?_
          cases h
          exact K _ _ dX11_ofYard_89
        ·
          rcases if_some h with ⟨c14, h⟩ | ⟨c14, h⟩
          · refine g_tabC (tgt := 90) (c := (3 : Int32)) hG c14 dX11_ofYard_19 (by decide) (by decide) rfl rfl ?_
            refine g_aload_n hG dX11_ofYard_90 rfl ?_
            refine g_get (f := 0) hG dX11_ofYard_91 (eT g A _ X) rfl inX11 (by decide) rfl f_X11_40 rfl ?_
            refine g_iload_n hG dX11_ofYard_94 rfl ?_
            obtain ⟨v15, σ16, q17, h⟩ := ob_some h
            refine g_cV hG dX11_ofYard_95 (c_N_S_carOf (by decide) q17) b_X7_carOf v_X11_123 rfl (eS (by decide)) rfl ⟨Nat.le_of_ble_eq_true rfl, Nat.le_of_ble_eq_true rfl⟩ ⟨rfl, rfl⟩ ⟨Nat.zero_le _, Nat.zero_le _⟩ _ rfl (Nat.le_of_ble_eq_true rfl) ?_
            cases h
            exact K _ _ dX11_ofYard_98
          ·
            rcases if_some h with ⟨c18, h⟩ | ⟨c18, h⟩
            · refine g_tabC (tgt := 99) (c := (4 : Int32)) hG c18 dX11_ofYard_19 (by decide) (by decide) rfl rfl ?_
              refine g_aload_n hG dX11_ofYard_99 rfl ?_
              refine g_get (f := 0) hG dX11_ofYard_100 (eT g A _ X) rfl inX11 (by decide) rfl f_X11_40 rfl ?_
              refine g_getN (f := 4) hG dX11_ofYard_103 (eS (by decide)) rfl inX7 (by decide) rfl f_X11_100 rfl ?_
              refine g_iload_n hG dX11_ofYard_106 rfl ?_
              obtain ⟨b19, h⟩ := gd_some h
              refine c_iald hG dX11_ofYard_107 (aS4 (d := 0) (by decide)) b19 rfl ?_
              cases h
              exact K _ _ dX11_ofYard_108
            ·
              rcases if_some h with ⟨c20, h⟩ | ⟨c20, h⟩
              · refine g_tabC (tgt := 109) (c := (5 : Int32)) hG c20 dX11_ofYard_19 (by decide) (by decide) rfl rfl ?_
                refine g_aload_n hG dX11_ofYard_109 rfl ?_
                refine g_get (f := 0) hG dX11_ofYard_110 (eT g A _ X) rfl inX11 (by decide) rfl f_X11_40 rfl ?_
                refine g_iload_n hG dX11_ofYard_113 rfl ?_
                obtain ⟨v21, σ22, q23, h⟩ := ob_some h
                refine g_cV hG dX11_ofYard_114 (c_N_S_fallsNow (by decide) q23) b_X7_fallsNow v_X11_126 rfl (eS (by decide)) rfl ⟨Nat.le_of_ble_eq_true rfl, Nat.le_of_ble_eq_true rfl⟩ ⟨rfl, rfl⟩ ⟨Nat.zero_le _, Nat.zero_le _⟩ _ rfl (Nat.le_of_ble_eq_true rfl) ?_
                cases h
                exact K _ _ dX11_ofYard_117
              ·
                rcases if_some h with ⟨c24, h⟩ | ⟨c24, h⟩
                · refine g_tabC (tgt := 118) (c := (6 : Int32)) hG c24 dX11_ofYard_19 (by decide) (by decide) rfl rfl ?_
                  refine g_aload_n hG dX11_ofYard_118 rfl ?_
                  refine g_get (f := 0) hG dX11_ofYard_119 (eT g A _ X) rfl inX11 (by decide) rfl f_X11_40 rfl ?_
                  refine g_iload_n hG dX11_ofYard_122 rfl ?_
                  obtain ⟨v25, σ26, q27, h⟩ := ob_some h
                  refine g_cV hG dX11_ofYard_123 (c_N_S_takesNow (by decide) q27) b_X7_takesNow v_X11_129 rfl (eS (by decide)) rfl ⟨Nat.le_of_ble_eq_true rfl, Nat.le_of_ble_eq_true rfl⟩ ⟨rfl, rfl⟩ ⟨Nat.zero_le _, Nat.zero_le _⟩ _ rfl (Nat.le_of_ble_eq_true rfl) ?_
                  cases h
                  exact K _ _ dX11_ofYard_126
                ·
                  refine g_tableOut (tgt := 127) hG dX11_ofYard_19 (by have n0 := i32ne c8 (n := 0) (by decide); have n1 := i32ne c10 (n := 1) (by decide); have n2 := i32ne c12 (n := 2) (by decide); have n3 := i32ne c14 (n := 3) (by decide); have n4 := i32ne c18 (n := 4) (by decide); have n5 := i32ne c20 (n := 5) (by decide); have n6 := i32ne c24 (n := 6) (by decide); omega) rfl ?_
                  refine g_aload_n hG dX11_ofYard_127 rfl ?_
                  refine g_ldc hG dX11_ofYard_128 k_X11_83 ?_
                  obtain ⟨v28, σ29, q30, h⟩ := ob_some h
                  refine g_cV hG dX11_ofYard_130 (c_N_T_fail q30) b_X11_fail v_X11_84 rfl (eT g A _ X) rfl ⟨Nat.le_of_ble_eq_true rfl, Nat.le_of_ble_eq_true rfl⟩ ⟨rfl, rfl⟩ ⟨Nat.zero_le _, Nat.zero_le _⟩ _ rfl (Nat.le_of_ble_eq_true rfl) ?_
                  cases h
                  exact K _ _ dX11_ofYard_133
def N_T_change (x1 : Int32) (x2 : Int32) (x3 : Int32) (σ : CS) : Option (Int32 × CS) := (ob (N_S_has 0 x1 σ) fun v1 σ2 => (if v1 = 0 then (ob (N_T_fail (-1000000001 : Int32) σ2) fun v5 σ6 => (some (v5, σ6))) else (ob (N_T_within x2 (0 : Int32) (2 : Int32) σ2) fun v8 σ9 => (if v8 = 0 then (ob (N_T_fail (-1000000001 : Int32) σ9) fun v12 σ13 => (some (v12, σ13))) else (ob (N_T_mostOfYard x2 σ9) fun v15 σ16 => (ob (N_T_within x3 (0 : Int32) v15 σ16) fun v18 σ19 => (if v18 = 0 then (ob (N_T_fail (-1000000001 : Int32) σ19) fun v22 σ23 => (some (v22, σ23))) else (if x2 = 0 then (gd (inb x1 12) (lt (σ19.2.1 0 3 (ix x1)) fun v27 => (gd (inb x1 12) (lt (sa σ19 0 3 (upd (σ19.2.1 0 3) (ix x1) x3)) fun σ29 => (some (v27, σ29)))))) else (if x2 = (1 : Int32) then (ob (N_S_carOf 0 x1 σ19) fun v33 σ34 => (ob (N_S_park 0 x1 (if x3 = (1 : Int32) then (1 : Int32) else (0 : Int32)) σ34) fun v38 σ39 => (some (v33, σ39)))) else (gd (inb x1 12) (lt (σ19.2.1 0 4 (ix x1)) fun v42 => (gd (inb x1 12) (lt (sa σ19 0 4 (upd (σ19.2.1 0 4) (ix x1) x3)) fun σ44 => (some (v42, σ44)))))))))))))))
set_option maxRecDepth 100000 in
set_option maxHeartbeats 4000000 in
theorem c_N_T_change {g : GP} {l : Launch} {A : Nat → Nat → Nat} {X : va_W} {v9 : Int32} {s9 : CS} {x1 : Int32} {x2 : Int32} {x3 : Int32} {σ : CS} (h : N_T_change x1 x2 x3 σ = some (v9, s9)) : CI g l yX11_change cX11_change 5 (some .int) { frames := 2, cells := 0, slots := 0, locals := 43 } [.ref (A 5 99), .int x1, .int x2, .int x3] (wC g A σ X) (fun r0 w => r0 = v9 ∧ w = wC g A s9 X) := by
  refine CI.mk (by decide) (Nat.le_of_ble_eq_true rfl) (fun G hG hret => ?_)
  have K : ∀ L pc, decode cX11_change pc = .ok (.ireturn, 1) → G 0 0 (wC g A s9 X) L pc [.int v9] := fun L pc d => hret _ L pc v9 d rfl ⟨rfl, rfl⟩
  unfold N_T_change at h
  refine g_aload_n hG dX11_change_0 rfl ?_
  refine g_get (f := 0) hG dX11_change_1 (eT g A _ X) rfl inX11 (by decide) rfl f_X11_40 rfl ?_
  refine g_iload_n hG dX11_change_4 rfl ?_
  obtain ⟨v1, σ2, q3, h⟩ := ob_some h
  refine g_cV hG dX11_change_5 (c_N_S_has (by decide) q3) b_X7_has v_X11_113 rfl (eS (by decide)) rfl ⟨Nat.le_of_ble_eq_true rfl, Nat.le_of_ble_eq_true rfl⟩ ⟨rfl, rfl⟩ ⟨Nat.zero_le _, Nat.zero_le _⟩ _ rfl (Nat.le_of_ble_eq_true rfl) ?_
  rcases if_some h with ⟨c4, h⟩ | ⟨c4, h⟩
  · refine g_if_eq (tgt := 32) hG dX11_change_8 rfl (fun _ => ?_) (fun q => absurd c4 q)
    refine g_aload_n hG dX11_change_32 rfl ?_
    refine g_ldc hG dX11_change_33 k_X11_83 ?_
    obtain ⟨v5, σ6, q7, h⟩ := ob_some h
    refine g_cV hG dX11_change_35 (c_N_T_fail q7) b_X11_fail v_X11_84 rfl (eT g A _ X) rfl ⟨Nat.le_of_ble_eq_true rfl, Nat.le_of_ble_eq_true rfl⟩ ⟨rfl, rfl⟩ ⟨Nat.zero_le _, Nat.zero_le _⟩ _ rfl (Nat.le_of_ble_eq_true rfl) ?_
    cases h
    exact K _ _ dX11_change_38
  · refine g_if_eq (tgt := 32) hG dX11_change_8 rfl (fun q => absurd q c4) (fun _ => ?_)
    refine g_iload_n hG dX11_change_11 rfl ?_
    refine g_iconstv hG dX11_change_12 ki_0 ?_
    refine g_iconstv hG dX11_change_13 ki_2 ?_
    obtain ⟨v8, σ9, q10, h⟩ := ob_some h
    refine g_cS hG dX11_change_14 (c_N_T_within q10) b_X11_within v_X11_79 rfl ⟨Nat.le_of_ble_eq_true rfl, Nat.le_of_ble_eq_true rfl⟩ ⟨rfl, rfl⟩ ⟨Nat.zero_le _, Nat.zero_le _⟩ _ rfl (Nat.le_of_ble_eq_true rfl) ?_
    rcases if_some h with ⟨c11, h⟩ | ⟨c11, h⟩
    · refine g_if_eq (tgt := 32) hG dX11_change_17 rfl (fun _ => ?_) (fun q => absurd c11 q)
      refine g_aload_n hG dX11_change_32 rfl ?_
      refine g_ldc hG dX11_change_33 k_X11_83 ?_
      obtain ⟨v12, σ13, q14, h⟩ := ob_some h
      refine g_cV hG dX11_change_35 (c_N_T_fail q14) b_X11_fail v_X11_84 rfl (eT g A _ X) rfl ⟨Nat.le_of_ble_eq_true rfl, Nat.le_of_ble_eq_true rfl⟩ ⟨rfl, rfl⟩ ⟨Nat.zero_le _, Nat.zero_le _⟩ _ rfl (Nat.le_of_ble_eq_true rfl) ?_
      cases h
      exact K _ _ dX11_change_38
    · refine g_if_eq (tgt := 32) hG dX11_change_17 rfl (fun q => absurd q c11) (fun _ => ?_)
      refine g_iload_n hG dX11_change_20 rfl ?_
      refine g_iconstv hG dX11_change_21 ki_0 ?_
      refine g_iload_n hG dX11_change_22 rfl ?_
      obtain ⟨v15, σ16, q17, h⟩ := ob_some h
      refine g_cS hG dX11_change_23 (c_N_T_mostOfYard q17) b_X11_mostOfYard v_X11_132 rfl ⟨Nat.le_of_ble_eq_true rfl, Nat.le_of_ble_eq_true rfl⟩ ⟨rfl, rfl⟩ ⟨Nat.zero_le _, Nat.zero_le _⟩ _ rfl (Nat.le_of_ble_eq_true rfl) ?_
      obtain ⟨v18, σ19, q20, h⟩ := ob_some h
      refine g_cS hG dX11_change_26 (c_N_T_within q20) b_X11_within v_X11_79 rfl ⟨Nat.le_of_ble_eq_true rfl, Nat.le_of_ble_eq_true rfl⟩ ⟨rfl, rfl⟩ ⟨Nat.zero_le _, Nat.zero_le _⟩ _ rfl (Nat.le_of_ble_eq_true rfl) ?_
      rcases if_some h with ⟨c21, h⟩ | ⟨c21, h⟩
      · refine g_if_ne (tgt := 39) hG dX11_change_29 rfl (fun q => absurd c21 q) (fun _ => ?_)
        refine g_aload_n hG dX11_change_32 rfl ?_
        refine g_ldc hG dX11_change_33 k_X11_83 ?_
        obtain ⟨v22, σ23, q24, h⟩ := ob_some h
        refine g_cV hG dX11_change_35 (c_N_T_fail q24) b_X11_fail v_X11_84 rfl (eT g A _ X) rfl ⟨Nat.le_of_ble_eq_true rfl, Nat.le_of_ble_eq_true rfl⟩ ⟨rfl, rfl⟩ ⟨Nat.zero_le _, Nat.zero_le _⟩ _ rfl (Nat.le_of_ble_eq_true rfl) ?_
        cases h
        exact K _ _ dX11_change_38
      · refine g_if_ne (tgt := 39) hG dX11_change_29 rfl (fun _ => ?_) (fun q => absurd q c21)
        refine g_iload_n hG dX11_change_39 rfl ?_
        rcases if_some h with ⟨c25, h⟩ | ⟨c25, h⟩
        · refine g_if_ne (tgt := 67) hG dX11_change_40 rfl (fun q => absurd c25 q) (fun _ => ?_)
          refine g_aload_n hG dX11_change_43 rfl ?_
          refine g_get (f := 0) hG dX11_change_44 (eT g A _ X) rfl inX11 (by decide) rfl f_X11_40 rfl ?_
          refine g_getN (f := 3) hG dX11_change_47 (eS (by decide)) rfl inX7 (by decide) rfl f_X11_97 rfl ?_
          refine g_iload_n hG dX11_change_50 rfl ?_
          obtain ⟨b26, h⟩ := gd_some h
          refine c_iald hG dX11_change_51 (aS3 (d := 0) (by decide)) b26 rfl ?_
          obtain ⟨v27, e28, h⟩ := lt_ex h
          refine g_nam e28 ?_
          refine g_istore hG dX11_change_52 (by decide) ?_
          refine g_aload_n hG dX11_change_54 rfl ?_
          refine g_get (f := 0) hG dX11_change_55 (eT g A _ X) rfl inX11 (by decide) rfl f_X11_40 rfl ?_
          refine g_getN (f := 3) hG dX11_change_58 (eS (by decide)) rfl inX7 (by decide) rfl f_X11_97 rfl ?_
          refine g_iload_n hG dX11_change_61 rfl ?_
          refine g_iload_n hG dX11_change_62 rfl ?_
          obtain ⟨b31, h⟩ := gd_some h
          obtain ⟨σ29, e30, h⟩ := lt_ex h
          refine c_iast hG e30 dX11_change_63 (aS3 (d := 0) (by decide)) b31 rfl ?_
          refine g_goto (tgt := 124) hG dX11_change_64 rfl ?_
          refine g_iload hG dX11_change_124 rfl ?_
          cases h
          exact K _ _ dX11_change_126
        · refine g_if_ne (tgt := 67) hG dX11_change_40 rfl (fun _ => ?_) (fun q => absurd q c25)
          refine g_iload_n hG dX11_change_67 rfl ?_
          refine g_iconstv hG dX11_change_68 ki_1 ?_
          rcases if_some h with ⟨c32, h⟩ | ⟨c32, h⟩
          · refine g_icmp_ne (tgt := 103) hG dX11_change_69 rfl (fun q => absurd c32 q) (fun _ => ?_)
            refine g_aload_n hG dX11_change_72 rfl ?_
            refine g_get (f := 0) hG dX11_change_73 (eT g A _ X) rfl inX11 (by decide) rfl f_X11_40 rfl ?_
            refine g_iload_n hG dX11_change_76 rfl ?_
            obtain ⟨v33, σ34, q35, h⟩ := ob_some h
            refine g_cV hG dX11_change_77 (c_N_S_carOf (by decide) q35) b_X7_carOf v_X11_123 rfl (eS (by decide)) rfl ⟨Nat.le_of_ble_eq_true rfl, Nat.le_of_ble_eq_true rfl⟩ ⟨rfl, rfl⟩ ⟨Nat.zero_le _, Nat.zero_le _⟩ _ rfl (Nat.le_of_ble_eq_true rfl) ?_
            refine g_istore hG dX11_change_80 (by decide) ?_
            refine g_aload_n hG dX11_change_82 rfl ?_
            refine g_get (f := 0) hG dX11_change_83 (eT g A _ X) rfl inX11 (by decide) rfl f_X11_40 rfl ?_
            refine g_iload_n hG dX11_change_86 rfl ?_
            refine g_iload_n hG dX11_change_87 rfl ?_
            refine g_iconstv hG dX11_change_88 ki_1 ?_
            refine g_dia2 (if x3 = (1 : Int32) then (1 : Int32) else (0 : Int32)) 97 (fun J36 => ?_) ?_
            · by_cases c37 : x3 = (1 : Int32)
              · refine g_icmp_ne (tgt := 96) hG dX11_change_89 rfl (fun q => absurd c37 q) (fun _ => ?_)
                refine g_iconstv hG dX11_change_92 ki_1 ?_
                refine g_goto (tgt := 97) hG dX11_change_93 rfl ?_
                rw [if_pos c37] at J36
                exact J36
              · refine g_icmp_ne (tgt := 96) hG dX11_change_89 rfl (fun _ => ?_) (fun q => absurd q c37)
                refine g_iconstv hG dX11_change_96 ki_0 ?_
                rw [if_neg c37] at J36
                exact J36
            obtain ⟨v38, σ39, q40, h⟩ := ob_some h
            refine g_cVv hG dX11_change_97 (c_N_S_park (by decide) q40) b_X7_park v_X11_109 rfl (eS (by decide)) rfl ⟨Nat.le_of_ble_eq_true rfl, Nat.le_of_ble_eq_true rfl⟩ ⟨rfl, rfl⟩ ⟨Nat.zero_le _, Nat.zero_le _⟩ _ rfl (Nat.le_of_ble_eq_true rfl) ?_
            refine g_goto (tgt := 124) hG dX11_change_100 rfl ?_
            refine g_iload hG dX11_change_124 rfl ?_
            cases h
            exact K _ _ dX11_change_126
          · refine g_icmp_ne (tgt := 103) hG dX11_change_69 rfl (fun _ => ?_) (fun q => absurd q c32)
            refine g_aload_n hG dX11_change_103 rfl ?_
            refine g_get (f := 0) hG dX11_change_104 (eT g A _ X) rfl inX11 (by decide) rfl f_X11_40 rfl ?_
            refine g_getN (f := 4) hG dX11_change_107 (eS (by decide)) rfl inX7 (by decide) rfl f_X11_100 rfl ?_
            refine g_iload_n hG dX11_change_110 rfl ?_
            obtain ⟨b41, h⟩ := gd_some h
            refine c_iald hG dX11_change_111 (aS4 (d := 0) (by decide)) b41 rfl ?_
            obtain ⟨v42, e43, h⟩ := lt_ex h
            refine g_nam e43 ?_
            refine g_istore hG dX11_change_112 (by decide) ?_
            refine g_aload_n hG dX11_change_114 rfl ?_
            refine g_get (f := 0) hG dX11_change_115 (eT g A _ X) rfl inX11 (by decide) rfl f_X11_40 rfl ?_
            refine g_getN (f := 4) hG dX11_change_118 (eS (by decide)) rfl inX7 (by decide) rfl f_X11_100 rfl ?_
            refine g_iload_n hG dX11_change_121 rfl ?_
            refine g_iload_n hG dX11_change_122 rfl ?_
            obtain ⟨b46, h⟩ := gd_some h
            obtain ⟨σ44, e45, h⟩ := lt_ex h
            refine c_iast hG e45 dX11_change_123 (aS4 (d := 0) (by decide)) b46 rfl ?_
            refine g_iload hG dX11_change_124 rfl ?_
            cases h
            exact K _ _ dX11_change_126
def N_T_set (x1 : Int32) (x2 : Int32) (σ : CS) : Option (Int32 × CS) := (ob (N_T_within x1 (0 : Int32) (2 : Int32) σ) fun v1 σ2 => (if v1 = 0 then (ob (N_T_fail (-1000000001 : Int32) σ2) fun v5 σ6 => (some (v5, σ6))) else (ob (N_T_mostOfStreet x1 σ2) fun v8 σ9 => (ob (N_T_within x2 (0 : Int32) v8 σ9) fun v11 σ12 => (if v11 = 0 then (ob (N_T_fail (-1000000001 : Int32) σ12) fun v15 σ16 => (some (v15, σ16))) else (if x1 = 0 then (lt (σ12.1 0 8) fun v19 => (lt (si σ12 0 8 x2) fun σ21 => (some (v19, σ21)))) else (if x1 = (1 : Int32) then (lt (σ12.1 0 9) fun v24 => (lt (si σ12 0 9 x2) fun σ26 => (some (v24, σ26)))) else (lt (σ12.1 0 10) fun v28 => (lt (si σ12 0 10 x2) fun σ30 => (some (v28, σ30)))))))))))
set_option maxRecDepth 100000 in
set_option maxHeartbeats 4000000 in
theorem c_N_T_set {g : GP} {l : Launch} {A : Nat → Nat → Nat} {X : va_W} {v9 : Int32} {s9 : CS} {x1 : Int32} {x2 : Int32} {σ : CS} (h : N_T_set x1 x2 σ = some (v9, s9)) : CI g l yX11_set cX11_set 4 (some .int) { frames := 1, cells := 0, slots := 0, locals := 22 } [.ref (A 5 99), .int x1, .int x2] (wC g A σ X) (fun r0 w => r0 = v9 ∧ w = wC g A s9 X) := by
  refine CI.mk (by decide) (Nat.le_of_ble_eq_true rfl) (fun G hG hret => ?_)
  have K : ∀ L pc, decode cX11_set pc = .ok (.ireturn, 1) → G 0 0 (wC g A s9 X) L pc [.int v9] := fun L pc d => hret _ L pc v9 d rfl ⟨rfl, rfl⟩
  unfold N_T_set at h
  refine g_iload_n hG dX11_set_0 rfl ?_
  refine g_iconstv hG dX11_set_1 ki_0 ?_
  refine g_iconstv hG dX11_set_2 ki_2 ?_
  obtain ⟨v1, σ2, q3, h⟩ := ob_some h
  refine g_cS hG dX11_set_3 (c_N_T_within q3) b_X11_within v_X11_79 rfl ⟨Nat.le_of_ble_eq_true rfl, Nat.le_of_ble_eq_true rfl⟩ ⟨rfl, rfl⟩ ⟨Nat.zero_le _, Nat.zero_le _⟩ _ rfl (Nat.le_of_ble_eq_true rfl) ?_
  rcases if_some h with ⟨c4, h⟩ | ⟨c4, h⟩
  · refine g_if_eq (tgt := 21) hG dX11_set_6 rfl (fun _ => ?_) (fun q => absurd c4 q)
    refine g_aload_n hG dX11_set_21 rfl ?_
    refine g_ldc hG dX11_set_22 k_X11_83 ?_
    obtain ⟨v5, σ6, q7, h⟩ := ob_some h
    refine g_cV hG dX11_set_24 (c_N_T_fail q7) b_X11_fail v_X11_84 rfl (eT g A _ X) rfl ⟨Nat.le_of_ble_eq_true rfl, Nat.le_of_ble_eq_true rfl⟩ ⟨rfl, rfl⟩ ⟨Nat.zero_le _, Nat.zero_le _⟩ _ rfl (Nat.le_of_ble_eq_true rfl) ?_
    cases h
    exact K _ _ dX11_set_27
  · refine g_if_eq (tgt := 21) hG dX11_set_6 rfl (fun q => absurd q c4) (fun _ => ?_)
    refine g_iload_n hG dX11_set_9 rfl ?_
    refine g_iconstv hG dX11_set_10 ki_0 ?_
    refine g_iload_n hG dX11_set_11 rfl ?_
    obtain ⟨v8, σ9, q10, h⟩ := ob_some h
    refine g_cS hG dX11_set_12 (c_N_T_mostOfStreet q10) b_X11_mostOfStreet v_X11_135 rfl ⟨Nat.le_of_ble_eq_true rfl, Nat.le_of_ble_eq_true rfl⟩ ⟨rfl, rfl⟩ ⟨Nat.zero_le _, Nat.zero_le _⟩ _ rfl (Nat.le_of_ble_eq_true rfl) ?_
    obtain ⟨v11, σ12, q13, h⟩ := ob_some h
    refine g_cS hG dX11_set_15 (c_N_T_within q13) b_X11_within v_X11_79 rfl ⟨Nat.le_of_ble_eq_true rfl, Nat.le_of_ble_eq_true rfl⟩ ⟨rfl, rfl⟩ ⟨Nat.zero_le _, Nat.zero_le _⟩ _ rfl (Nat.le_of_ble_eq_true rfl) ?_
    rcases if_some h with ⟨c14, h⟩ | ⟨c14, h⟩
    · refine g_if_ne (tgt := 28) hG dX11_set_18 rfl (fun q => absurd c14 q) (fun _ => ?_)
      refine g_aload_n hG dX11_set_21 rfl ?_
      refine g_ldc hG dX11_set_22 k_X11_83 ?_
      obtain ⟨v15, σ16, q17, h⟩ := ob_some h
      refine g_cV hG dX11_set_24 (c_N_T_fail q17) b_X11_fail v_X11_84 rfl (eT g A _ X) rfl ⟨Nat.le_of_ble_eq_true rfl, Nat.le_of_ble_eq_true rfl⟩ ⟨rfl, rfl⟩ ⟨Nat.zero_le _, Nat.zero_le _⟩ _ rfl (Nat.le_of_ble_eq_true rfl) ?_
      cases h
      exact K _ _ dX11_set_27
    · refine g_if_ne (tgt := 28) hG dX11_set_18 rfl (fun _ => ?_) (fun q => absurd q c14)
      refine g_iload_n hG dX11_set_28 rfl ?_
      rcases if_some h with ⟨c18, h⟩ | ⟨c18, h⟩
      · refine g_if_ne (tgt := 51) hG dX11_set_29 rfl (fun q => absurd c18 q) (fun _ => ?_)
        refine g_aload_n hG dX11_set_32 rfl ?_
        refine g_get (f := 0) hG dX11_set_33 (eT g A _ X) rfl inX11 (by decide) rfl f_X11_40 rfl ?_
        refine g_getN (f := 8) hG dX11_set_36 (eS (by decide)) rfl inX7 (by decide) rfl f_X11_138 rfl ?_
        obtain ⟨v19, e20, h⟩ := lt_ex h
        refine g_nam e20 ?_
        refine g_istore_n hG dX11_set_39 (by decide) ?_
        refine g_aload_n hG dX11_set_40 rfl ?_
        refine g_get (f := 0) hG dX11_set_41 (eT g A _ X) rfl inX11 (by decide) rfl f_X11_40 rfl ?_
        refine g_iload_n hG dX11_set_44 rfl ?_
        obtain ⟨σ21, e22, h⟩ := lt_ex h
        refine t_putN 8 hG (by decide) e22 dX11_set_45 f_X11_138 (by decide) (by decide) rfl rfl rfl ?_
        refine g_goto (tgt := 91) hG dX11_set_48 rfl ?_
        refine g_iload_n hG dX11_set_91 rfl ?_
        cases h
        exact K _ _ dX11_set_92
      · refine g_if_ne (tgt := 51) hG dX11_set_29 rfl (fun _ => ?_) (fun q => absurd q c18)
        refine g_iload_n hG dX11_set_51 rfl ?_
        refine g_iconstv hG dX11_set_52 ki_1 ?_
        rcases if_some h with ⟨c23, h⟩ | ⟨c23, h⟩
        · refine g_icmp_ne (tgt := 75) hG dX11_set_53 rfl (fun q => absurd c23 q) (fun _ => ?_)
          refine g_aload_n hG dX11_set_56 rfl ?_
          refine g_get (f := 0) hG dX11_set_57 (eT g A _ X) rfl inX11 (by decide) rfl f_X11_40 rfl ?_
          refine g_getN (f := 9) hG dX11_set_60 (eS (by decide)) rfl inX7 (by decide) rfl f_X11_141 rfl ?_
          obtain ⟨v24, e25, h⟩ := lt_ex h
          refine g_nam e25 ?_
          refine g_istore_n hG dX11_set_63 (by decide) ?_
          refine g_aload_n hG dX11_set_64 rfl ?_
          refine g_get (f := 0) hG dX11_set_65 (eT g A _ X) rfl inX11 (by decide) rfl f_X11_40 rfl ?_
          refine g_iload_n hG dX11_set_68 rfl ?_
          obtain ⟨σ26, e27, h⟩ := lt_ex h
          refine t_putN 9 hG (by decide) e27 dX11_set_69 f_X11_141 (by decide) (by decide) rfl rfl rfl ?_
          refine g_goto (tgt := 91) hG dX11_set_72 rfl ?_
          refine g_iload_n hG dX11_set_91 rfl ?_
          cases h
          exact K _ _ dX11_set_92
        · refine g_icmp_ne (tgt := 75) hG dX11_set_53 rfl (fun _ => ?_) (fun q => absurd q c23)
          refine g_aload_n hG dX11_set_75 rfl ?_
          refine g_get (f := 0) hG dX11_set_76 (eT g A _ X) rfl inX11 (by decide) rfl f_X11_40 rfl ?_
          refine g_getN (f := 10) hG dX11_set_79 (eS (by decide)) rfl inX7 (by decide) rfl f_X11_144 rfl ?_
          obtain ⟨v28, e29, h⟩ := lt_ex h
          refine g_nam e29 ?_
          refine g_istore_n hG dX11_set_82 (by decide) ?_
          refine g_aload_n hG dX11_set_83 rfl ?_
          refine g_get (f := 0) hG dX11_set_84 (eT g A _ X) rfl inX11 (by decide) rfl f_X11_40 rfl ?_
          refine g_iload_n hG dX11_set_87 rfl ?_
          obtain ⟨σ30, e31, h⟩ := lt_ex h
          refine t_putN 10 hG (by decide) e31 dX11_set_88 f_X11_144 (by decide) (by decide) rfl rfl rfl ?_
          refine g_iload_n hG dX11_set_91 rfl ?_
          cases h
          exact K _ _ dX11_set_92
def N_T_become (x1 : Int32) (x2 : Int32) (σ : CS) : Option (Int32 × CS) := (ob (N_S_has 0 x1 σ) fun v1 σ2 => (if v1 = 0 then (ob (N_T_fail (-1000000001 : Int32) σ2) fun v5 σ6 => (some (v5, σ6))) else (ob (N_T_within x2 (0 : Int32) (69 : Int32) σ2) fun v8 σ9 => (if v8 = 0 then (ob (N_T_fail (-1000000001 : Int32) σ9) fun v12 σ13 => (some (v12, σ13))) else (gd (inb x1 12) (lt (σ9.2.1 0 1 (ix x1)) fun v16 => (ob (N_S_shape 0 x1 x2 σ9) fun v18 σ19 => (some (v16, σ19)))))))))
set_option maxRecDepth 100000 in
set_option maxHeartbeats 4000000 in
theorem c_N_T_become {g : GP} {l : Launch} {A : Nat → Nat → Nat} {X : va_W} {v9 : Int32} {s9 : CS} {x1 : Int32} {x2 : Int32} {σ : CS} (h : N_T_become x1 x2 σ = some (v9, s9)) : CI g l yX11_become cX11_become 4 (some .int) { frames := 2, cells := 0, slots := 0, locals := 43 } [.ref (A 5 99), .int x1, .int x2] (wC g A σ X) (fun r0 w => r0 = v9 ∧ w = wC g A s9 X) := by
  refine CI.mk (by decide) (Nat.le_of_ble_eq_true rfl) (fun G hG hret => ?_)
  have K : ∀ L pc, decode cX11_become pc = .ok (.ireturn, 1) → G 0 0 (wC g A s9 X) L pc [.int v9] := fun L pc d => hret _ L pc v9 d rfl ⟨rfl, rfl⟩
  unfold N_T_become at h
  refine g_aload_n hG dX11_become_0 rfl ?_
  refine g_get (f := 0) hG dX11_become_1 (eT g A _ X) rfl inX11 (by decide) rfl f_X11_40 rfl ?_
  refine g_iload_n hG dX11_become_4 rfl ?_
  obtain ⟨v1, σ2, q3, h⟩ := ob_some h
  refine g_cV hG dX11_become_5 (c_N_S_has (by decide) q3) b_X7_has v_X11_113 rfl (eS (by decide)) rfl ⟨Nat.le_of_ble_eq_true rfl, Nat.le_of_ble_eq_true rfl⟩ ⟨rfl, rfl⟩ ⟨Nat.zero_le _, Nat.zero_le _⟩ _ rfl (Nat.le_of_ble_eq_true rfl) ?_
  rcases if_some h with ⟨c4, h⟩ | ⟨c4, h⟩
  · refine g_if_eq (tgt := 21) hG dX11_become_8 rfl (fun _ => ?_) (fun q => absurd c4 q)
    refine g_aload_n hG dX11_become_21 rfl ?_
    refine g_ldc hG dX11_become_22 k_X11_83 ?_
    obtain ⟨v5, σ6, q7, h⟩ := ob_some h
    refine g_cV hG dX11_become_24 (c_N_T_fail q7) b_X11_fail v_X11_84 rfl (eT g A _ X) rfl ⟨Nat.le_of_ble_eq_true rfl, Nat.le_of_ble_eq_true rfl⟩ ⟨rfl, rfl⟩ ⟨Nat.zero_le _, Nat.zero_le _⟩ _ rfl (Nat.le_of_ble_eq_true rfl) ?_
    cases h
    exact K _ _ dX11_become_27
  · refine g_if_eq (tgt := 21) hG dX11_become_8 rfl (fun q => absurd q c4) (fun _ => ?_)
    refine g_iload_n hG dX11_become_11 rfl ?_
    refine g_iconstv hG dX11_become_12 ki_0 ?_
    refine g_bipushv hG dX11_become_13 kb_69 ?_
    obtain ⟨v8, σ9, q10, h⟩ := ob_some h
    refine g_cS hG dX11_become_15 (c_N_T_within q10) b_X11_within v_X11_79 rfl ⟨Nat.le_of_ble_eq_true rfl, Nat.le_of_ble_eq_true rfl⟩ ⟨rfl, rfl⟩ ⟨Nat.zero_le _, Nat.zero_le _⟩ _ rfl (Nat.le_of_ble_eq_true rfl) ?_
    rcases if_some h with ⟨c11, h⟩ | ⟨c11, h⟩
    · refine g_if_ne (tgt := 28) hG dX11_become_18 rfl (fun q => absurd c11 q) (fun _ => ?_)
      refine g_aload_n hG dX11_become_21 rfl ?_
      refine g_ldc hG dX11_become_22 k_X11_83 ?_
      obtain ⟨v12, σ13, q14, h⟩ := ob_some h
      refine g_cV hG dX11_become_24 (c_N_T_fail q14) b_X11_fail v_X11_84 rfl (eT g A _ X) rfl ⟨Nat.le_of_ble_eq_true rfl, Nat.le_of_ble_eq_true rfl⟩ ⟨rfl, rfl⟩ ⟨Nat.zero_le _, Nat.zero_le _⟩ _ rfl (Nat.le_of_ble_eq_true rfl) ?_
      cases h
      exact K _ _ dX11_become_27
    · refine g_if_ne (tgt := 28) hG dX11_become_18 rfl (fun _ => ?_) (fun q => absurd q c11)
      refine g_aload_n hG dX11_become_28 rfl ?_
      refine g_get (f := 0) hG dX11_become_29 (eT g A _ X) rfl inX11 (by decide) rfl f_X11_40 rfl ?_
      refine g_getN (f := 1) hG dX11_become_32 (eS (by decide)) rfl inX7 (by decide) rfl f_X11_117 rfl ?_
      refine g_iload_n hG dX11_become_35 rfl ?_
      obtain ⟨b15, h⟩ := gd_some h
      refine c_iald hG dX11_become_36 (aS1 (d := 0) (by decide)) b15 rfl ?_
      obtain ⟨v16, e17, h⟩ := lt_ex h
      refine g_nam e17 ?_
      refine g_istore_n hG dX11_become_37 (by decide) ?_
      refine g_aload_n hG dX11_become_38 rfl ?_
      refine g_get (f := 0) hG dX11_become_39 (eT g A _ X) rfl inX11 (by decide) rfl f_X11_40 rfl ?_
      refine g_iload_n hG dX11_become_42 rfl ?_
      refine g_iload_n hG dX11_become_43 rfl ?_
      obtain ⟨v18, σ19, q20, h⟩ := ob_some h
      refine g_cVv hG dX11_become_44 (c_N_S_shape (by decide) q20) b_X7_shape v_X11_93 rfl (eS (by decide)) rfl ⟨Nat.le_of_ble_eq_true rfl, Nat.le_of_ble_eq_true rfl⟩ ⟨rfl, rfl⟩ ⟨Nat.zero_le _, Nat.zero_le _⟩ _ rfl (Nat.le_of_ble_eq_true rfl) ?_
      refine g_iload_n hG dX11_become_47 rfl ?_
      cases h
      exact K _ _ dX11_become_48
def N_T_sign (x1 : Int32) (x2 : Int32) (σ : CS) : Option (Int32 × CS) := (ob (N_T_within x1 (0 : Int32) (1 : Int32) σ) fun v1 σ2 => (if v1 = 0 then (ob (N_T_fail (-1000000001 : Int32) σ2) fun v5 σ6 => (some (v5, σ6))) else (ob (N_T_within x2 (0 : Int32) (99 : Int32) σ2) fun v8 σ9 => (if v8 = 0 then (ob (N_T_fail (-1000000001 : Int32) σ9) fun v12 σ13 => (some (v12, σ13))) else (ob (N_S_signOf 0 x1 ((σ9.1 0 7) + x2) σ9) fun v15 σ16 => (some (v15, σ16)))))))
set_option maxRecDepth 100000 in
set_option maxHeartbeats 4000000 in
theorem c_N_T_sign {g : GP} {l : Launch} {A : Nat → Nat → Nat} {X : va_W} {v9 : Int32} {s9 : CS} {x1 : Int32} {x2 : Int32} {σ : CS} (h : N_T_sign x1 x2 σ = some (v9, s9)) : CI g l yX11_sign cX11_sign 3 (some .int) { frames := 3, cells := 0, slots := 0, locals := 112 } [.ref (A 5 99), .int x1, .int x2] (wC g A σ X) (fun r0 w => r0 = v9 ∧ w = wC g A s9 X) := by
  refine CI.mk (by decide) (Nat.le_of_ble_eq_true rfl) (fun G hG hret => ?_)
  have K : ∀ L pc, decode cX11_sign pc = .ok (.ireturn, 1) → G 0 0 (wC g A s9 X) L pc [.int v9] := fun L pc d => hret _ L pc v9 d rfl ⟨rfl, rfl⟩
  unfold N_T_sign at h
  refine g_iload_n hG dX11_sign_0 rfl ?_
  refine g_iconstv hG dX11_sign_1 ki_0 ?_
  refine g_iconstv hG dX11_sign_2 ki_1 ?_
  obtain ⟨v1, σ2, q3, h⟩ := ob_some h
  refine g_cS hG dX11_sign_3 (c_N_T_within q3) b_X11_within v_X11_79 rfl ⟨Nat.le_of_ble_eq_true rfl, Nat.le_of_ble_eq_true rfl⟩ ⟨rfl, rfl⟩ ⟨Nat.zero_le _, Nat.zero_le _⟩ _ rfl (Nat.le_of_ble_eq_true rfl) ?_
  rcases if_some h with ⟨c4, h⟩ | ⟨c4, h⟩
  · refine g_if_eq (tgt := 19) hG dX11_sign_6 rfl (fun _ => ?_) (fun q => absurd c4 q)
    refine g_aload_n hG dX11_sign_19 rfl ?_
    refine g_ldc hG dX11_sign_20 k_X11_83 ?_
    obtain ⟨v5, σ6, q7, h⟩ := ob_some h
    refine g_cV hG dX11_sign_22 (c_N_T_fail q7) b_X11_fail v_X11_84 rfl (eT g A _ X) rfl ⟨Nat.le_of_ble_eq_true rfl, Nat.le_of_ble_eq_true rfl⟩ ⟨rfl, rfl⟩ ⟨Nat.zero_le _, Nat.zero_le _⟩ _ rfl (Nat.le_of_ble_eq_true rfl) ?_
    cases h
    exact K _ _ dX11_sign_25
  · refine g_if_eq (tgt := 19) hG dX11_sign_6 rfl (fun q => absurd q c4) (fun _ => ?_)
    refine g_iload_n hG dX11_sign_9 rfl ?_
    refine g_iconstv hG dX11_sign_10 ki_0 ?_
    refine g_bipushv hG dX11_sign_11 kb_99 ?_
    obtain ⟨v8, σ9, q10, h⟩ := ob_some h
    refine g_cS hG dX11_sign_13 (c_N_T_within q10) b_X11_within v_X11_79 rfl ⟨Nat.le_of_ble_eq_true rfl, Nat.le_of_ble_eq_true rfl⟩ ⟨rfl, rfl⟩ ⟨Nat.zero_le _, Nat.zero_le _⟩ _ rfl (Nat.le_of_ble_eq_true rfl) ?_
    rcases if_some h with ⟨c11, h⟩ | ⟨c11, h⟩
    · refine g_if_ne (tgt := 26) hG dX11_sign_16 rfl (fun q => absurd c11 q) (fun _ => ?_)
      refine g_aload_n hG dX11_sign_19 rfl ?_
      refine g_ldc hG dX11_sign_20 k_X11_83 ?_
      obtain ⟨v12, σ13, q14, h⟩ := ob_some h
      refine g_cV hG dX11_sign_22 (c_N_T_fail q14) b_X11_fail v_X11_84 rfl (eT g A _ X) rfl ⟨Nat.le_of_ble_eq_true rfl, Nat.le_of_ble_eq_true rfl⟩ ⟨rfl, rfl⟩ ⟨Nat.zero_le _, Nat.zero_le _⟩ _ rfl (Nat.le_of_ble_eq_true rfl) ?_
      cases h
      exact K _ _ dX11_sign_25
    · refine g_if_ne (tgt := 26) hG dX11_sign_16 rfl (fun _ => ?_) (fun q => absurd q c11)
      refine g_aload_n hG dX11_sign_26 rfl ?_
      refine g_get (f := 0) hG dX11_sign_27 (eT g A _ X) rfl inX11 (by decide) rfl f_X11_40 rfl ?_
      refine g_iload_n hG dX11_sign_30 rfl ?_
      refine g_aload_n hG dX11_sign_31 rfl ?_
      refine g_get (f := 0) hG dX11_sign_32 (eT g A _ X) rfl inX11 (by decide) rfl f_X11_40 rfl ?_
      refine g_getN (f := 7) hG dX11_sign_35 (eS (by decide)) rfl inX7 (by decide) rfl f_X11_155 rfl ?_
      refine g_iload_n hG dX11_sign_38 rfl ?_
      refine g_iadd hG dX11_sign_39 ?_
      obtain ⟨v15, σ16, q17, h⟩ := ob_some h
      refine g_cV hG dX11_sign_40 (c_N_S_signOf (by decide) q17) b_X7_signOf v_X11_158 rfl (eS (by decide)) rfl ⟨Nat.le_of_ble_eq_true rfl, Nat.le_of_ble_eq_true rfl⟩ ⟨rfl, rfl⟩ ⟨Nat.zero_le _, Nat.zero_le _⟩ _ rfl (Nat.le_of_ble_eq_true rfl) ?_
      cases h
      exact K _ _ dX11_sign_43
def N_T_feed_b41 : Nat → Int64 → Int32 → Int32 → CS → Option (Int32 × CS)
  | 0, _, _, _, _ => none
  | n + 1, x1, x3, x4, σ => (if x3 ≤ x4 then (some ((σ.1 0 14), σ)) else (gd (inb (σ.1 0 14) 50) (lt (sa σ 0 13 (upd (σ.2.1 0 13) (ix (σ.1 0 14)) ((x1.toUInt64 >>> (((8 : Int32) * x4).toInt64.toUInt64 &&& Int64.toUInt64 63)).toInt64.toInt32 &&& (255 : Int32)))) fun σ10 => (lt (si σ10 0 14 ((σ10.1 0 14) + (1 : Int32))) fun σ13 => ((N_T_feed_b41  n) x1 x3 (x4 + (1 : Int32)) σ13)))))
set_option maxRecDepth 100000 in
set_option maxHeartbeats 4000000 in
theorem s_N_T_feed_b41 {g : GP} {l : Launch} {A : Nat → Nat → Nat} {X : va_W} {G : GT} {v9 : Int32} {s9 : CS} (hG : IsG g l yX11_feed cX11_feed 5 { frames := 1, cells := 0, slots := 0, locals := 22 } G) (K : ∀ L pc, decode cX11_feed pc = .ok (.ireturn, 1) → G 0 0 (wC g A s9 X) L pc [.int v9]) : ∀ (n : Nat) (x1 : Int64) (x3 : Int32) (x4 : Int32) (σ : CS) (h : N_T_feed_b41  n x1 x3 x4 σ = some (v9, s9)), G 0 0 (wC g A σ X) [(0, .ref (A 5 99)), (1, .long x1), (3, .int x3), (4, .int x4)] 41 [] := by
  intro n
  induction n with
  | zero => intro _ _ _ σ h; cases h
  | succ n ih =>
    intro x1 x3 x4 σ h
    unfold N_T_feed_b41 at h
    refine g_iload hG dX11_feed_41 rfl ?_
    refine g_iload_n hG dX11_feed_43 rfl ?_
    rcases if_some h with ⟨c9, h⟩ | ⟨c9, h⟩
    · refine g_icmp_ge (tgt := 93) hG dX11_feed_44 rfl (fun _ => ?_) (fun q => absurd c9 q)
      refine g_aload_n hG dX11_feed_93 rfl ?_
      refine g_get (f := 0) hG dX11_feed_94 (eT g A _ X) rfl inX11 (by decide) rfl f_X11_40 rfl ?_
      refine g_getN (f := 14) hG dX11_feed_97 (eS (by decide)) rfl inX7 (by decide) rfl f_X11_161 rfl ?_
      cases h
      exact K _ _ dX11_feed_100
    · refine g_icmp_ge (tgt := 93) hG dX11_feed_44 rfl (fun q => absurd q c9) (fun _ => ?_)
      refine g_aload_n hG dX11_feed_47 rfl ?_
      refine g_get (f := 0) hG dX11_feed_48 (eT g A _ X) rfl inX11 (by decide) rfl f_X11_40 rfl ?_
      refine g_getN (f := 13) hG dX11_feed_51 (eS (by decide)) rfl inX7 (by decide) rfl f_X11_164 rfl ?_
      refine g_aload_n hG dX11_feed_54 rfl ?_
      refine g_get (f := 0) hG dX11_feed_55 (eT g A _ X) rfl inX11 (by decide) rfl f_X11_40 rfl ?_
      refine g_getN (f := 14) hG dX11_feed_58 (eS (by decide)) rfl inX7 (by decide) rfl f_X11_161 rfl ?_
      refine g_lload_n hG dX11_feed_61 rfl ?_
      refine g_bipushv hG dX11_feed_62 kb_8 ?_
      refine g_iload hG dX11_feed_64 rfl ?_
      refine g_imul hG dX11_feed_66 ?_
      refine g_lushr hG dX11_feed_67 ?_
      refine g_l2i hG dX11_feed_68 ?_
      refine g_sipushv hG dX11_feed_69 ks_255 ?_
      refine g_iand hG dX11_feed_72 ?_
      obtain ⟨b12, h⟩ := gd_some h
      obtain ⟨σ10, e11, h⟩ := lt_ex h
      refine c_iast hG e11 dX11_feed_73 (aS13 (d := 0) (by decide)) b12 rfl ?_
      refine g_aload_n hG dX11_feed_74 rfl ?_
      refine g_get (f := 0) hG dX11_feed_75 (eT g A _ X) rfl inX11 (by decide) rfl f_X11_40 rfl ?_
      refine g_dup hG dX11_feed_78 rfl ?_
      refine g_getN (f := 14) hG dX11_feed_79 (eS (by decide)) rfl inX7 (by decide) rfl f_X11_161 rfl ?_
      refine g_iconstv hG dX11_feed_82 ki_1 ?_
      refine g_iadd hG dX11_feed_83 ?_
      obtain ⟨σ13, e14, h⟩ := lt_ex h
      refine t_putN 14 hG (by decide) e14 dX11_feed_84 f_X11_161 (by decide) (by decide) rfl rfl rfl ?_
      refine g_iincv (c := (1 : Int32)) hG dX11_feed_87 rfl (by decide) (by decide) ?_
      refine g_goto (tgt := 41) hG dX11_feed_90 rfl ?_
      refine g_loc hG [(0, .ref (A 5 99)), (1, .long x1), (3, .int x3), (4, .int (x4 + (1 : Int32)))] ⟨rfl, rfl, rfl, rfl, trivial⟩ ?_
      exact ih _ _ _ _ h
def N_T_feed (x1 : Int64) (x3 : Int32) (σ : CS) : Option (Int32 × CS) := (ob (N_T_within x3 (1 : Int32) (8 : Int32) σ) fun v1 σ2 => (if v1 = 0 then (ob (N_T_fail (-1000000001 : Int32) σ2) fun v5 σ6 => (some (v5, σ6))) else (if ((σ2.1 0 14) + x3) ≤ (50 : Int32) then (N_T_feed_b41  FU x1 x3 (0 : Int32) σ2) else (ob (N_T_fail (-1000000004 : Int32) σ2) fun v15 σ16 => (some (v15, σ16))))))
set_option maxRecDepth 100000 in
set_option maxHeartbeats 4000000 in
theorem c_N_T_feed {g : GP} {l : Launch} {A : Nat → Nat → Nat} {X : va_W} {v9 : Int32} {s9 : CS} {x1 : Int64} {x3 : Int32} {σ : CS} (h : N_T_feed x1 x3 σ = some (v9, s9)) : CI g l yX11_feed cX11_feed 5 (some .int) { frames := 1, cells := 0, slots := 0, locals := 22 } [.ref (A 5 99), .long x1, .int x3] (wC g A σ X) (fun r0 w => r0 = v9 ∧ w = wC g A s9 X) := by
  refine CI.mk (by decide) (Nat.le_of_ble_eq_true rfl) (fun G hG hret => ?_)
  have K : ∀ L pc, decode cX11_feed pc = .ok (.ireturn, 1) → G 0 0 (wC g A s9 X) L pc [.int v9] := fun L pc d => hret _ L pc v9 d rfl ⟨rfl, rfl⟩
  unfold N_T_feed at h
  refine g_iload_n hG dX11_feed_0 rfl ?_
  refine g_iconstv hG dX11_feed_1 ki_1 ?_
  refine g_bipushv hG dX11_feed_2 kb_8 ?_
  obtain ⟨v1, σ2, q3, h⟩ := ob_some h
  refine g_cS hG dX11_feed_4 (c_N_T_within q3) b_X11_within v_X11_79 rfl ⟨Nat.le_of_ble_eq_true rfl, Nat.le_of_ble_eq_true rfl⟩ ⟨rfl, rfl⟩ ⟨Nat.zero_le _, Nat.zero_le _⟩ _ rfl (Nat.le_of_ble_eq_true rfl) ?_
  rcases if_some h with ⟨c4, h⟩ | ⟨c4, h⟩
  · refine g_if_ne (tgt := 17) hG dX11_feed_7 rfl (fun q => absurd c4 q) (fun _ => ?_)
    refine g_aload_n hG dX11_feed_10 rfl ?_
    refine g_ldc hG dX11_feed_11 k_X11_83 ?_
    obtain ⟨v5, σ6, q7, h⟩ := ob_some h
    refine g_cV hG dX11_feed_13 (c_N_T_fail q7) b_X11_fail v_X11_84 rfl (eT g A _ X) rfl ⟨Nat.le_of_ble_eq_true rfl, Nat.le_of_ble_eq_true rfl⟩ ⟨rfl, rfl⟩ ⟨Nat.zero_le _, Nat.zero_le _⟩ _ rfl (Nat.le_of_ble_eq_true rfl) ?_
    cases h
    exact K _ _ dX11_feed_16
  · refine g_if_ne (tgt := 17) hG dX11_feed_7 rfl (fun _ => ?_) (fun q => absurd q c4)
    refine g_aload_n hG dX11_feed_17 rfl ?_
    refine g_get (f := 0) hG dX11_feed_18 (eT g A _ X) rfl inX11 (by decide) rfl f_X11_40 rfl ?_
    refine g_getN (f := 14) hG dX11_feed_21 (eS (by decide)) rfl inX7 (by decide) rfl f_X11_161 rfl ?_
    refine g_iload_n hG dX11_feed_24 rfl ?_
    refine g_iadd hG dX11_feed_25 ?_
    refine g_bipushv hG dX11_feed_26 kb_50 ?_
    rcases if_some h with ⟨c8, h⟩ | ⟨c8, h⟩
    · refine g_icmp_le (tgt := 38) hG dX11_feed_28 rfl (fun _ => ?_) (fun q => absurd c8 q)
      refine g_iconstv hG dX11_feed_38 ki_0 ?_
      refine g_istore hG dX11_feed_39 (by decide) ?_
      refine g_loc hG [(0, .ref (A 5 99)), (1, .long x1), (3, .int x3), (4, .int (0 : Int32))] ⟨rfl, rfl, rfl, rfl, trivial⟩ ?_
      exact s_N_T_feed_b41  hG K FU _ _ _ _ h
    · refine g_icmp_le (tgt := 38) hG dX11_feed_28 rfl (fun q => absurd q c8) (fun _ => ?_)
      refine g_aload_n hG dX11_feed_31 rfl ?_
      refine g_ldc hG dX11_feed_32 k_X11_92 ?_
      obtain ⟨v15, σ16, q17, h⟩ := ob_some h
      refine g_cV hG dX11_feed_34 (c_N_T_fail q17) b_X11_fail v_X11_84 rfl (eT g A _ X) rfl ⟨Nat.le_of_ble_eq_true rfl, Nat.le_of_ble_eq_true rfl⟩ ⟨rfl, rfl⟩ ⟨Nat.zero_le _, Nat.zero_le _⟩ _ rfl (Nat.le_of_ble_eq_true rfl) ?_
      cases h
      exact K _ _ dX11_feed_37
def N_T_law (x1 : Int32) (x2 : Int32) (x3 : Int32) (x4 : Int32) (σ : CS) : Option (Int32 × CS) := (ob (N_T_within x1 (0 : Int32) (1 : Int32) σ) fun v1 σ2 => (if v1 = 0 then (ob (N_T_fail (-1000000001 : Int32) σ2) fun v5 σ6 => (some (v5, σ6))) else (if x1 = 0 then (gd (decide ((σ2.2.2 0 11) < σ2.2.2 7 0)) (ob (N_L_give (σ2.2.2 0 11) x2 x3 x4 σ2) fun v9 σ10 => (some (v9, σ10)))) else (gd (decide ((σ2.2.2 0 12) < σ2.2.2 7 0)) (ob (N_L_give (σ2.2.2 0 12) x2 x3 x4 σ2) fun v13 σ14 => (some (v13, σ14)))))))
set_option maxRecDepth 100000 in
set_option maxHeartbeats 4000000 in
theorem c_N_T_law {g : GP} {l : Launch} {A : Nat → Nat → Nat} {X : va_W} {v9 : Int32} {s9 : CS} {x1 : Int32} {x2 : Int32} {x3 : Int32} {x4 : Int32} {σ : CS} (h : N_T_law x1 x2 x3 x4 σ = some (v9, s9)) : CI g l yX11_law cX11_law 5 (some .int) { frames := 2, cells := 0, slots := 0, locals := 90 } [.ref (A 5 99), .int x1, .int x2, .int x3, .int x4] (wC g A σ X) (fun r0 w => r0 = v9 ∧ w = wC g A s9 X) := by
  refine CI.mk (by decide) (Nat.le_of_ble_eq_true rfl) (fun G hG hret => ?_)
  have K : ∀ L pc, decode cX11_law pc = .ok (.ireturn, 1) → G 0 0 (wC g A s9 X) L pc [.int v9] := fun L pc d => hret _ L pc v9 d rfl ⟨rfl, rfl⟩
  unfold N_T_law at h
  refine g_iload_n hG dX11_law_0 rfl ?_
  refine g_iconstv hG dX11_law_1 ki_0 ?_
  refine g_iconstv hG dX11_law_2 ki_1 ?_
  obtain ⟨v1, σ2, q3, h⟩ := ob_some h
  refine g_cS hG dX11_law_3 (c_N_T_within q3) b_X11_within v_X11_79 rfl ⟨Nat.le_of_ble_eq_true rfl, Nat.le_of_ble_eq_true rfl⟩ ⟨rfl, rfl⟩ ⟨Nat.zero_le _, Nat.zero_le _⟩ _ rfl (Nat.le_of_ble_eq_true rfl) ?_
  rcases if_some h with ⟨c4, h⟩ | ⟨c4, h⟩
  · refine g_if_ne (tgt := 16) hG dX11_law_6 rfl (fun q => absurd c4 q) (fun _ => ?_)
    refine g_aload_n hG dX11_law_9 rfl ?_
    refine g_ldc hG dX11_law_10 k_X11_83 ?_
    obtain ⟨v5, σ6, q7, h⟩ := ob_some h
    refine g_cV hG dX11_law_12 (c_N_T_fail q7) b_X11_fail v_X11_84 rfl (eT g A _ X) rfl ⟨Nat.le_of_ble_eq_true rfl, Nat.le_of_ble_eq_true rfl⟩ ⟨rfl, rfl⟩ ⟨Nat.zero_le _, Nat.zero_le _⟩ _ rfl (Nat.le_of_ble_eq_true rfl) ?_
    cases h
    exact K _ _ dX11_law_15
  · refine g_if_ne (tgt := 16) hG dX11_law_6 rfl (fun _ => ?_) (fun q => absurd q c4)
    refine g_iload_n hG dX11_law_16 rfl ?_
    rcases if_some h with ⟨c8, h⟩ | ⟨c8, h⟩
    · refine g_if_ne (tgt := 37) hG dX11_law_17 rfl (fun q => absurd c8 q) (fun _ => ?_)
      refine g_aload_n hG dX11_law_20 rfl ?_
      refine g_get (f := 0) hG dX11_law_21 (eT g A _ X) rfl inX11 (by decide) rfl f_X11_40 rfl ?_
      refine g_getN (f := 11) hG dX11_law_24 (eS (by decide)) rfl inX7 (by decide) rfl f_X11_175 rfl ?_
      refine g_iload_n hG dX11_law_27 rfl ?_
      refine g_iload_n hG dX11_law_28 rfl ?_
      refine g_iload hG dX11_law_29 rfl ?_
      obtain ⟨b12, h⟩ := gd_some h
      obtain ⟨v9, σ10, q11, h⟩ := ob_some h
      refine g_cV hG dX11_law_31 (c_N_L_give q11) b_X4_give v_X11_182 rfl (wC_law g A _ X _ (of_decide_eq_true b12)).1 rfl ⟨Nat.le_of_ble_eq_true rfl, Nat.le_of_ble_eq_true rfl⟩ ⟨rfl, rfl⟩ ⟨Nat.zero_le _, Nat.zero_le _⟩ _ rfl (Nat.le_of_ble_eq_true rfl) ?_
      refine g_goto (tgt := 51) hG dX11_law_34 rfl ?_
      cases h
      exact K _ _ dX11_law_51
    · refine g_if_ne (tgt := 37) hG dX11_law_17 rfl (fun _ => ?_) (fun q => absurd q c8)
      refine g_aload_n hG dX11_law_37 rfl ?_
      refine g_get (f := 0) hG dX11_law_38 (eT g A _ X) rfl inX11 (by decide) rfl f_X11_40 rfl ?_
      refine g_getN (f := 12) hG dX11_law_41 (eS (by decide)) rfl inX7 (by decide) rfl f_X11_179 rfl ?_
      refine g_iload_n hG dX11_law_44 rfl ?_
      refine g_iload_n hG dX11_law_45 rfl ?_
      refine g_iload hG dX11_law_46 rfl ?_
      obtain ⟨b16, h⟩ := gd_some h
      obtain ⟨v13, σ14, q15, h⟩ := ob_some h
      refine g_cV hG dX11_law_48 (c_N_L_give q15) b_X4_give v_X11_182 rfl (wC_law g A _ X _ (of_decide_eq_true b16)).1 rfl ⟨Nat.le_of_ble_eq_true rfl, Nat.le_of_ble_eq_true rfl⟩ ⟨rfl, rfl⟩ ⟨Nat.zero_le _, Nat.zero_le _⟩ _ rfl (Nat.le_of_ble_eq_true rfl) ?_
      cases h
      exact K _ _ dX11_law_51
def N_T_days (x1 : Int32) (σ : CS) : Option (Int32 × CS) := (ob (N_T_within x1 (1 : Int32) (60 : Int32) σ) fun v1 σ2 => (if v1 = 0 then (ob (N_T_fail (-1000000001 : Int32) σ2) fun v5 σ6 => (some (v5, σ6))) else (if ((σ2.1 0 7) + x1) ≤ (9999 : Int32) then (ob (N_S_passAll 0 x1 σ2) fun v9 σ10 => (ob (N_S_dirtOfAll 0  σ10) fun v12 σ13 => (some (v12, σ13)))) else (ob (N_T_fail (-1000000003 : Int32) σ2) fun v15 σ16 => (some (v15, σ16))))))
set_option maxRecDepth 100000 in
set_option maxHeartbeats 4000000 in
theorem c_N_T_days {g : GP} {l : Launch} {A : Nat → Nat → Nat} {X : va_W} {v9 : Int32} {s9 : CS} {x1 : Int32} {σ : CS} (h : N_T_days x1 σ = some (v9, s9)) : CI g l yX11_days cX11_days 2 (some .int) { frames := 5, cells := 0, slots := 0, locals := 159 } [.ref (A 5 99), .int x1] (wC g A σ X) (fun r0 w => r0 = v9 ∧ w = wC g A s9 X) := by
  refine CI.mk (by decide) (Nat.le_of_ble_eq_true rfl) (fun G hG hret => ?_)
  have K : ∀ L pc, decode cX11_days pc = .ok (.ireturn, 1) → G 0 0 (wC g A s9 X) L pc [.int v9] := fun L pc d => hret _ L pc v9 d rfl ⟨rfl, rfl⟩
  unfold N_T_days at h
  refine g_iload_n hG dX11_days_0 rfl ?_
  refine g_iconstv hG dX11_days_1 ki_1 ?_
  refine g_bipushv hG dX11_days_2 kb_60 ?_
  obtain ⟨v1, σ2, q3, h⟩ := ob_some h
  refine g_cS hG dX11_days_4 (c_N_T_within q3) b_X11_within v_X11_79 rfl ⟨Nat.le_of_ble_eq_true rfl, Nat.le_of_ble_eq_true rfl⟩ ⟨rfl, rfl⟩ ⟨Nat.zero_le _, Nat.zero_le _⟩ _ rfl (Nat.le_of_ble_eq_true rfl) ?_
  rcases if_some h with ⟨c4, h⟩ | ⟨c4, h⟩
  · refine g_if_ne (tgt := 17) hG dX11_days_7 rfl (fun q => absurd c4 q) (fun _ => ?_)
    refine g_aload_n hG dX11_days_10 rfl ?_
    refine g_ldc hG dX11_days_11 k_X11_83 ?_
    obtain ⟨v5, σ6, q7, h⟩ := ob_some h
    refine g_cV hG dX11_days_13 (c_N_T_fail q7) b_X11_fail v_X11_84 rfl (eT g A _ X) rfl ⟨Nat.le_of_ble_eq_true rfl, Nat.le_of_ble_eq_true rfl⟩ ⟨rfl, rfl⟩ ⟨Nat.zero_le _, Nat.zero_le _⟩ _ rfl (Nat.le_of_ble_eq_true rfl) ?_
    cases h
    exact K _ _ dX11_days_16
  · refine g_if_ne (tgt := 17) hG dX11_days_7 rfl (fun _ => ?_) (fun q => absurd q c4)
    refine g_aload_n hG dX11_days_17 rfl ?_
    refine g_get (f := 0) hG dX11_days_18 (eT g A _ X) rfl inX11 (by decide) rfl f_X11_40 rfl ?_
    refine g_getN (f := 7) hG dX11_days_21 (eS (by decide)) rfl inX7 (by decide) rfl f_X11_155 rfl ?_
    refine g_iload_n hG dX11_days_24 rfl ?_
    refine g_iadd hG dX11_days_25 ?_
    refine g_sipushv hG dX11_days_26 ks_9999 ?_
    rcases if_some h with ⟨c8, h⟩ | ⟨c8, h⟩
    · refine g_icmp_le (tgt := 39) hG dX11_days_29 rfl (fun _ => ?_) (fun q => absurd c8 q)
      refine g_aload_n hG dX11_days_39 rfl ?_
      refine g_get (f := 0) hG dX11_days_40 (eT g A _ X) rfl inX11 (by decide) rfl f_X11_40 rfl ?_
      refine g_iload_n hG dX11_days_43 rfl ?_
      obtain ⟨v9, σ10, q11, h⟩ := ob_some h
      refine g_cVv hG dX11_days_44 (c_N_S_passAll (by decide) q11) b_X7_passAll v_X11_187 rfl (eS (by decide)) rfl ⟨Nat.le_of_ble_eq_true rfl, Nat.le_of_ble_eq_true rfl⟩ ⟨rfl, rfl⟩ ⟨Nat.zero_le _, Nat.zero_le _⟩ _ rfl (Nat.le_of_ble_eq_true rfl) ?_
      refine g_aload_n hG dX11_days_47 rfl ?_
      refine g_get (f := 0) hG dX11_days_48 (eT g A _ X) rfl inX11 (by decide) rfl f_X11_40 rfl ?_
      obtain ⟨v12, σ13, q14, h⟩ := ob_some h
      refine g_cV hG dX11_days_51 (c_N_S_dirtOfAll (by decide) q14) b_X7_dirtOfAll v_X11_191 rfl (eS (by decide)) rfl ⟨Nat.le_of_ble_eq_true rfl, Nat.le_of_ble_eq_true rfl⟩ ⟨rfl, rfl⟩ ⟨Nat.zero_le _, Nat.zero_le _⟩ _ rfl (Nat.le_of_ble_eq_true rfl) ?_
      cases h
      exact K _ _ dX11_days_54
    · refine g_icmp_le (tgt := 39) hG dX11_days_29 rfl (fun q => absurd q c8) (fun _ => ?_)
      refine g_aload_n hG dX11_days_32 rfl ?_
      refine g_ldc hG dX11_days_33 k_X11_186 ?_
      obtain ⟨v15, σ16, q17, h⟩ := ob_some h
      refine g_cV hG dX11_days_35 (c_N_T_fail q17) b_X11_fail v_X11_84 rfl (eT g A _ X) rfl ⟨Nat.le_of_ble_eq_true rfl, Nat.le_of_ble_eq_true rfl⟩ ⟨rfl, rfl⟩ ⟨Nat.zero_le _, Nat.zero_le _⟩ _ rfl (Nat.le_of_ble_eq_true rfl) ?_
      cases h
      exact K _ _ dX11_days_38
def N_T_loose_b41 : Nat → Int32 → Int32 → CS → Option (Int32 × CS)
  | 0, _, _, _ => none
  | n + 1, x1, x2, σ => (if x1 ≤ x2 then (ob (N_S_dirtOfAll 0  σ) fun v10 σ11 => (some (v10, σ11))) else (ob (N_S_drawWindAndCar 0  σ) fun v13 σ14 => (ob (N_S_passAll 0 (1 : Int32) σ14) fun v16 σ17 => ((N_T_loose_b41  n) x1 (x2 + (1 : Int32)) σ17))))
set_option maxRecDepth 100000 in
set_option maxHeartbeats 4000000 in
theorem s_N_T_loose_b41 {g : GP} {l : Launch} {A : Nat → Nat → Nat} {X : va_W} {G : GT} {v9 : Int32} {s9 : CS} (hG : IsG g l yX11_loose cX11_loose 3 { frames := 5, cells := 0, slots := 0, locals := 159 } G) (K : ∀ L pc, decode cX11_loose pc = .ok (.ireturn, 1) → G 0 0 (wC g A s9 X) L pc [.int v9]) : ∀ (n : Nat) (x1 : Int32) (x2 : Int32) (σ : CS) (h : N_T_loose_b41  n x1 x2 σ = some (v9, s9)), G 0 0 (wC g A σ X) [(0, .ref (A 5 99)), (1, .int x1), (2, .int x2)] 41 [] := by
  intro n
  induction n with
  | zero => intro _ _ σ h; cases h
  | succ n ih =>
    intro x1 x2 σ h
    unfold N_T_loose_b41 at h
    refine g_iload_n hG dX11_loose_41 rfl ?_
    refine g_iload_n hG dX11_loose_42 rfl ?_
    rcases if_some h with ⟨c9, h⟩ | ⟨c9, h⟩
    · refine g_icmp_ge (tgt := 67) hG dX11_loose_43 rfl (fun _ => ?_) (fun q => absurd c9 q)
      refine g_aload_n hG dX11_loose_67 rfl ?_
      refine g_get (f := 0) hG dX11_loose_68 (eT g A _ X) rfl inX11 (by decide) rfl f_X11_40 rfl ?_
      obtain ⟨v10, σ11, q12, h⟩ := ob_some h
      refine g_cV hG dX11_loose_71 (c_N_S_dirtOfAll (by decide) q12) b_X7_dirtOfAll v_X11_191 rfl (eS (by decide)) rfl ⟨Nat.le_of_ble_eq_true rfl, Nat.le_of_ble_eq_true rfl⟩ ⟨rfl, rfl⟩ ⟨Nat.zero_le _, Nat.zero_le _⟩ _ rfl (Nat.le_of_ble_eq_true rfl) ?_
      cases h
      exact K _ _ dX11_loose_74
    · refine g_icmp_ge (tgt := 67) hG dX11_loose_43 rfl (fun q => absurd q c9) (fun _ => ?_)
      refine g_aload_n hG dX11_loose_46 rfl ?_
      refine g_get (f := 0) hG dX11_loose_47 (eT g A _ X) rfl inX11 (by decide) rfl f_X11_40 rfl ?_
      obtain ⟨v13, σ14, q15, h⟩ := ob_some h
      refine g_cVv hG dX11_loose_50 (c_N_S_drawWindAndCar (by decide) q15) b_X7_drawWindAndCar v_X11_195 rfl (eS (by decide)) rfl ⟨Nat.le_of_ble_eq_true rfl, Nat.le_of_ble_eq_true rfl⟩ ⟨rfl, rfl⟩ ⟨Nat.zero_le _, Nat.zero_le _⟩ _ rfl (Nat.le_of_ble_eq_true rfl) ?_
      refine g_aload_n hG dX11_loose_53 rfl ?_
      refine g_get (f := 0) hG dX11_loose_54 (eT g A _ X) rfl inX11 (by decide) rfl f_X11_40 rfl ?_
      refine g_iconstv hG dX11_loose_57 ki_1 ?_
      obtain ⟨v16, σ17, q18, h⟩ := ob_some h
      refine g_cVv hG dX11_loose_58 (c_N_S_passAll (by decide) q18) b_X7_passAll v_X11_187 rfl (eS (by decide)) rfl ⟨Nat.le_of_ble_eq_true rfl, Nat.le_of_ble_eq_true rfl⟩ ⟨rfl, rfl⟩ ⟨Nat.zero_le _, Nat.zero_le _⟩ _ rfl (Nat.le_of_ble_eq_true rfl) ?_
      refine g_iincv (c := (1 : Int32)) hG dX11_loose_61 rfl (by decide) (by decide) ?_
      refine g_goto (tgt := 41) hG dX11_loose_64 rfl ?_
      refine g_loc hG [(0, .ref (A 5 99)), (1, .int x1), (2, .int (x2 + (1 : Int32)))] ⟨rfl, rfl, rfl, trivial⟩ ?_
      exact ih _ _ _ h
def N_T_loose (x1 : Int32) (σ : CS) : Option (Int32 × CS) := (ob (N_T_within x1 (1 : Int32) (40 : Int32) σ) fun v1 σ2 => (if v1 = 0 then (ob (N_T_fail (-1000000001 : Int32) σ2) fun v5 σ6 => (some (v5, σ6))) else (if ((σ2.1 0 7) + x1) ≤ (9999 : Int32) then (N_T_loose_b41  FU x1 (0 : Int32) σ2) else (ob (N_T_fail (-1000000003 : Int32) σ2) fun v19 σ20 => (some (v19, σ20))))))
set_option maxRecDepth 100000 in
set_option maxHeartbeats 4000000 in
theorem c_N_T_loose {g : GP} {l : Launch} {A : Nat → Nat → Nat} {X : va_W} {v9 : Int32} {s9 : CS} {x1 : Int32} {σ : CS} (h : N_T_loose x1 σ = some (v9, s9)) : CI g l yX11_loose cX11_loose 3 (some .int) { frames := 5, cells := 0, slots := 0, locals := 159 } [.ref (A 5 99), .int x1] (wC g A σ X) (fun r0 w => r0 = v9 ∧ w = wC g A s9 X) := by
  refine CI.mk (by decide) (Nat.le_of_ble_eq_true rfl) (fun G hG hret => ?_)
  have K : ∀ L pc, decode cX11_loose pc = .ok (.ireturn, 1) → G 0 0 (wC g A s9 X) L pc [.int v9] := fun L pc d => hret _ L pc v9 d rfl ⟨rfl, rfl⟩
  unfold N_T_loose at h
  refine g_iload_n hG dX11_loose_0 rfl ?_
  refine g_iconstv hG dX11_loose_1 ki_1 ?_
  refine g_bipushv hG dX11_loose_2 kb_40 ?_
  obtain ⟨v1, σ2, q3, h⟩ := ob_some h
  refine g_cS hG dX11_loose_4 (c_N_T_within q3) b_X11_within v_X11_79 rfl ⟨Nat.le_of_ble_eq_true rfl, Nat.le_of_ble_eq_true rfl⟩ ⟨rfl, rfl⟩ ⟨Nat.zero_le _, Nat.zero_le _⟩ _ rfl (Nat.le_of_ble_eq_true rfl) ?_
  rcases if_some h with ⟨c4, h⟩ | ⟨c4, h⟩
  · refine g_if_ne (tgt := 17) hG dX11_loose_7 rfl (fun q => absurd c4 q) (fun _ => ?_)
    refine g_aload_n hG dX11_loose_10 rfl ?_
    refine g_ldc hG dX11_loose_11 k_X11_83 ?_
    obtain ⟨v5, σ6, q7, h⟩ := ob_some h
    refine g_cV hG dX11_loose_13 (c_N_T_fail q7) b_X11_fail v_X11_84 rfl (eT g A _ X) rfl ⟨Nat.le_of_ble_eq_true rfl, Nat.le_of_ble_eq_true rfl⟩ ⟨rfl, rfl⟩ ⟨Nat.zero_le _, Nat.zero_le _⟩ _ rfl (Nat.le_of_ble_eq_true rfl) ?_
    cases h
    exact K _ _ dX11_loose_16
  · refine g_if_ne (tgt := 17) hG dX11_loose_7 rfl (fun _ => ?_) (fun q => absurd q c4)
    refine g_aload_n hG dX11_loose_17 rfl ?_
    refine g_get (f := 0) hG dX11_loose_18 (eT g A _ X) rfl inX11 (by decide) rfl f_X11_40 rfl ?_
    refine g_getN (f := 7) hG dX11_loose_21 (eS (by decide)) rfl inX7 (by decide) rfl f_X11_155 rfl ?_
    refine g_iload_n hG dX11_loose_24 rfl ?_
    refine g_iadd hG dX11_loose_25 ?_
    refine g_sipushv hG dX11_loose_26 ks_9999 ?_
    rcases if_some h with ⟨c8, h⟩ | ⟨c8, h⟩
    · refine g_icmp_le (tgt := 39) hG dX11_loose_29 rfl (fun _ => ?_) (fun q => absurd c8 q)
      refine g_iconstv hG dX11_loose_39 ki_0 ?_
      refine g_istore_n hG dX11_loose_40 (by decide) ?_
      refine g_loc hG [(0, .ref (A 5 99)), (1, .int x1), (2, .int (0 : Int32))] ⟨rfl, rfl, rfl, trivial⟩ ?_
      exact s_N_T_loose_b41  hG K FU _ _ _ h
    · refine g_icmp_le (tgt := 39) hG dX11_loose_29 rfl (fun q => absurd q c8) (fun _ => ?_)
      refine g_aload_n hG dX11_loose_32 rfl ?_
      refine g_ldc hG dX11_loose_33 k_X11_186 ?_
      obtain ⟨v19, σ20, q21, h⟩ := ob_some h
      refine g_cV hG dX11_loose_35 (c_N_T_fail q21) b_X11_fail v_X11_84 rfl (eT g A _ X) rfl ⟨Nat.le_of_ble_eq_true rfl, Nat.le_of_ble_eq_true rfl⟩ ⟨rfl, rfl⟩ ⟨Nat.zero_le _, Nat.zero_le _⟩ _ rfl (Nat.le_of_ble_eq_true rfl) ?_
      cases h
      exact K _ _ dX11_loose_38
def N_T_then (x1 : Int32) (x2 : Int32) (σ : CS) : Option (Int32 × CS) := (ob (N_T_within x1 (0 : Int32) (60 : Int32) σ) fun v1 σ2 => (if v1 = 0 then (ob (N_T_fail (-1000000001 : Int32) σ2) fun v5 σ6 => (some (v5, σ6))) else (ob (N_S_has 0 x2 σ2) fun v8 σ9 => (if v8 = 0 then (ob (N_T_fail (-1000000001 : Int32) σ9) fun v12 σ13 => (some (v12, σ13))) else (ob (N_S_thinkOf 1 0  σ9) fun v15 σ16 => (ob (N_S_dirtBehind 1 x1 x2 σ16) fun v18 σ19 => (some (v18, σ19))))))))
set_option maxRecDepth 100000 in
set_option maxHeartbeats 4000000 in
theorem c_N_T_then {g : GP} {l : Launch} {A : Nat → Nat → Nat} {X : va_W} {v9 : Int32} {s9 : CS} {x1 : Int32} {x2 : Int32} {σ : CS} (h : N_T_then x1 x2 σ = some (v9, s9)) : CI g l yX11_then cX11_then 3 (some .int) { frames := 5, cells := 0, slots := 0, locals := 162 } [.ref (A 5 99), .int x1, .int x2] (wC g A σ X) (fun r0 w => r0 = v9 ∧ w = wC g A s9 X) := by
  refine CI.mk (by decide) (Nat.le_of_ble_eq_true rfl) (fun G hG hret => ?_)
  have K : ∀ L pc, decode cX11_then pc = .ok (.ireturn, 1) → G 0 0 (wC g A s9 X) L pc [.int v9] := fun L pc d => hret _ L pc v9 d rfl ⟨rfl, rfl⟩
  unfold N_T_then at h
  refine g_iload_n hG dX11_then_0 rfl ?_
  refine g_iconstv hG dX11_then_1 ki_0 ?_
  refine g_bipushv hG dX11_then_2 kb_60 ?_
  obtain ⟨v1, σ2, q3, h⟩ := ob_some h
  refine g_cS hG dX11_then_4 (c_N_T_within q3) b_X11_within v_X11_79 rfl ⟨Nat.le_of_ble_eq_true rfl, Nat.le_of_ble_eq_true rfl⟩ ⟨rfl, rfl⟩ ⟨Nat.zero_le _, Nat.zero_le _⟩ _ rfl (Nat.le_of_ble_eq_true rfl) ?_
  rcases if_some h with ⟨c4, h⟩ | ⟨c4, h⟩
  · refine g_if_eq (tgt := 21) hG dX11_then_7 rfl (fun _ => ?_) (fun q => absurd c4 q)
    refine g_aload_n hG dX11_then_21 rfl ?_
    refine g_ldc hG dX11_then_22 k_X11_83 ?_
    obtain ⟨v5, σ6, q7, h⟩ := ob_some h
    refine g_cV hG dX11_then_24 (c_N_T_fail q7) b_X11_fail v_X11_84 rfl (eT g A _ X) rfl ⟨Nat.le_of_ble_eq_true rfl, Nat.le_of_ble_eq_true rfl⟩ ⟨rfl, rfl⟩ ⟨Nat.zero_le _, Nat.zero_le _⟩ _ rfl (Nat.le_of_ble_eq_true rfl) ?_
    cases h
    exact K _ _ dX11_then_27
  · refine g_if_eq (tgt := 21) hG dX11_then_7 rfl (fun q => absurd q c4) (fun _ => ?_)
    refine g_aload_n hG dX11_then_10 rfl ?_
    refine g_get (f := 0) hG dX11_then_11 (eT g A _ X) rfl inX11 (by decide) rfl f_X11_40 rfl ?_
    refine g_iload_n hG dX11_then_14 rfl ?_
    obtain ⟨v8, σ9, q10, h⟩ := ob_some h
    refine g_cV hG dX11_then_15 (c_N_S_has (by decide) q10) b_X7_has v_X11_113 rfl (eS (by decide)) rfl ⟨Nat.le_of_ble_eq_true rfl, Nat.le_of_ble_eq_true rfl⟩ ⟨rfl, rfl⟩ ⟨Nat.zero_le _, Nat.zero_le _⟩ _ rfl (Nat.le_of_ble_eq_true rfl) ?_
    rcases if_some h with ⟨c11, h⟩ | ⟨c11, h⟩
    · refine g_if_ne (tgt := 28) hG dX11_then_18 rfl (fun q => absurd c11 q) (fun _ => ?_)
      refine g_aload_n hG dX11_then_21 rfl ?_
      refine g_ldc hG dX11_then_22 k_X11_83 ?_
      obtain ⟨v12, σ13, q14, h⟩ := ob_some h
      refine g_cV hG dX11_then_24 (c_N_T_fail q14) b_X11_fail v_X11_84 rfl (eT g A _ X) rfl ⟨Nat.le_of_ble_eq_true rfl, Nat.le_of_ble_eq_true rfl⟩ ⟨rfl, rfl⟩ ⟨Nat.zero_le _, Nat.zero_le _⟩ _ rfl (Nat.le_of_ble_eq_true rfl) ?_
      cases h
      exact K _ _ dX11_then_27
    · refine g_if_ne (tgt := 28) hG dX11_then_18 rfl (fun _ => ?_) (fun q => absurd q c11)
      refine g_aload_n hG dX11_then_28 rfl ?_
      refine g_get (f := 1) hG dX11_then_29 (eT g A _ X) rfl inX11 (by decide) rfl f_X11_44 rfl ?_
      refine g_aload_n hG dX11_then_32 rfl ?_
      refine g_get (f := 0) hG dX11_then_33 (eT g A _ X) rfl inX11 (by decide) rfl f_X11_40 rfl ?_
      obtain ⟨v15, σ16, q17, h⟩ := ob_some h
      refine g_cVv hG dX11_then_36 (c_N_S_thinkOf (by decide) (by decide) q17) b_X7_thinkOf v_X11_198 rfl (eS (by decide)) rfl ⟨Nat.le_of_ble_eq_true rfl, Nat.le_of_ble_eq_true rfl⟩ ⟨rfl, rfl⟩ ⟨Nat.zero_le _, Nat.zero_le _⟩ _ rfl (Nat.le_of_ble_eq_true rfl) ?_
      refine g_aload_n hG dX11_then_39 rfl ?_
      refine g_get (f := 1) hG dX11_then_40 (eT g A _ X) rfl inX11 (by decide) rfl f_X11_44 rfl ?_
      refine g_iload_n hG dX11_then_43 rfl ?_
      refine g_iload_n hG dX11_then_44 rfl ?_
      obtain ⟨v18, σ19, q20, h⟩ := ob_some h
      refine g_cV hG dX11_then_45 (c_N_S_dirtBehind (by decide) q20) b_X7_dirtBehind v_X11_202 rfl (eS (by decide)) rfl ⟨Nat.le_of_ble_eq_true rfl, Nat.le_of_ble_eq_true rfl⟩ ⟨rfl, rfl⟩ ⟨Nat.zero_le _, Nat.zero_le _⟩ _ rfl (Nat.le_of_ble_eq_true rfl) ?_
      cases h
      exact K _ _ dX11_then_48
def N_T_worst_b40 : Nat → Int32 → Int32 → Int32 → CS → Option (Int32 × CS)
  | 0, _, _, _, _ => none
  | n + 1, x1, x2, x3, σ => (if (60 : Int32) < x3 then (ob (N_T_fail (-1000000002 : Int32) σ) fun v19 σ20 => (some (v19, σ20))) else (ob (N_S_firstWith 1 x1 σ) fun v22 σ23 => (if v22 < 0 then (ob (N_S_passAll 1 (1 : Int32) σ23) fun v26 σ27 => ((N_T_worst_b40  n) x1 x2 (x3 + (1 : Int32)) σ27)) else (some ((if x2 = 0 then x3 else v22), σ23)))))
set_option maxRecDepth 100000 in
set_option maxHeartbeats 4000000 in
theorem s_N_T_worst_b40 {g : GP} {l : Launch} {A : Nat → Nat → Nat} {X : va_W} {G : GT} {v9 : Int32} {s9 : CS} (hG : IsG g l yX11_worst cX11_worst 5 { frames := 5, cells := 0, slots := 0, locals := 159 } G) (K : ∀ L pc, decode cX11_worst pc = .ok (.ireturn, 1) → G 0 0 (wC g A s9 X) L pc [.int v9]) : ∀ (n : Nat) (x1 : Int32) (x2 : Int32) (x3 : Int32) (σ : CS) (h : N_T_worst_b40  n x1 x2 x3 σ = some (v9, s9)), G 0 0 (wC g A σ X) [(0, .ref (A 5 99)), (1, .int x1), (2, .int x2), (3, .int x3)] 40 [] := by
  intro n
  induction n with
  | zero => intro _ _ _ σ h; cases h
  | succ n ih =>
    intro x1 x2 x3 σ h
    unfold N_T_worst_b40 at h
    refine g_iload_n hG dX11_worst_40 rfl ?_
    refine g_bipushv hG dX11_worst_41 kb_60 ?_
    rcases if_some h with ⟨c18, h⟩ | ⟨c18, h⟩
    · refine g_icmp_gt (tgt := 86) hG dX11_worst_43 rfl (fun _ => ?_) (fun q => absurd c18 q)
      refine g_aload_n hG dX11_worst_86 rfl ?_
      refine g_ldc hG dX11_worst_87 k_X11_208 ?_
      obtain ⟨v19, σ20, q21, h⟩ := ob_some h
      refine g_cV hG dX11_worst_89 (c_N_T_fail q21) b_X11_fail v_X11_84 rfl (eT g A _ X) rfl ⟨Nat.le_of_ble_eq_true rfl, Nat.le_of_ble_eq_true rfl⟩ ⟨rfl, rfl⟩ ⟨Nat.zero_le _, Nat.zero_le _⟩ _ rfl (Nat.le_of_ble_eq_true rfl) ?_
      cases h
      exact K _ _ dX11_worst_92
    · refine g_icmp_gt (tgt := 86) hG dX11_worst_43 rfl (fun q => absurd q c18) (fun _ => ?_)
      refine g_aload_n hG dX11_worst_46 rfl ?_
      refine g_get (f := 1) hG dX11_worst_47 (eT g A _ X) rfl inX11 (by decide) rfl f_X11_44 rfl ?_
      refine g_iload_n hG dX11_worst_50 rfl ?_
      obtain ⟨v22, σ23, q24, h⟩ := ob_some h
      refine g_cV hG dX11_worst_51 (c_N_S_firstWith (by decide) q24) b_X7_firstWith v_X11_205 rfl (eS (by decide)) rfl ⟨Nat.le_of_ble_eq_true rfl, Nat.le_of_ble_eq_true rfl⟩ ⟨rfl, rfl⟩ ⟨Nat.zero_le _, Nat.zero_le _⟩ _ rfl (Nat.le_of_ble_eq_true rfl) ?_
      refine g_istore hG dX11_worst_54 (by decide) ?_
      refine g_iload hG dX11_worst_56 rfl ?_
      rcases if_some h with ⟨c25, h⟩ | ⟨c25, h⟩
      · refine g_if_lt (tgt := 72) hG dX11_worst_58 rfl (fun _ => ?_) (fun q => absurd c25 q)
        refine g_aload_n hG dX11_worst_72 rfl ?_
        refine g_get (f := 1) hG dX11_worst_73 (eT g A _ X) rfl inX11 (by decide) rfl f_X11_44 rfl ?_
        refine g_iconstv hG dX11_worst_76 ki_1 ?_
        obtain ⟨v26, σ27, q28, h⟩ := ob_some h
        refine g_cVv hG dX11_worst_77 (c_N_S_passAll (by decide) q28) b_X7_passAll v_X11_187 rfl (eS (by decide)) rfl ⟨Nat.le_of_ble_eq_true rfl, Nat.le_of_ble_eq_true rfl⟩ ⟨rfl, rfl⟩ ⟨Nat.zero_le _, Nat.zero_le _⟩ _ rfl (Nat.le_of_ble_eq_true rfl) ?_
        refine g_iincv (c := (1 : Int32)) hG dX11_worst_80 rfl (by decide) (by decide) ?_
        refine g_goto (tgt := 40) hG dX11_worst_83 rfl ?_
        refine g_loc hG [(0, .ref (A 5 99)), (1, .int x1), (2, .int x2), (3, .int (x3 + (1 : Int32)))] ⟨rfl, rfl, rfl, rfl, trivial⟩ ?_
        exact ih _ _ _ _ h
      · refine g_if_lt (tgt := 72) hG dX11_worst_58 rfl (fun q => absurd q c25) (fun _ => ?_)
        refine g_iload_n hG dX11_worst_61 rfl ?_
        refine g_dia1 (if x2 = 0 then x3 else v22) 71 (fun J29 => ?_) ?_
        · by_cases c30 : x2 = 0
          · refine g_if_ne (tgt := 69) hG dX11_worst_62 rfl (fun q => absurd c30 q) (fun _ => ?_)
            refine g_iload_n hG dX11_worst_65 rfl ?_
            refine g_goto (tgt := 71) hG dX11_worst_66 rfl ?_
            rw [if_pos c30] at J29
            exact J29
          · refine g_if_ne (tgt := 69) hG dX11_worst_62 rfl (fun _ => ?_) (fun q => absurd q c30)
            refine g_iload hG dX11_worst_69 rfl ?_
            rw [if_neg c30] at J29
            exact J29
        cases h
        exact K _ _ dX11_worst_71
def N_T_worst (x1 : Int32) (x2 : Int32) (σ : CS) : Option (Int32 × CS) := (ob (N_T_within x1 (1 : Int32) (999 : Int32) σ) fun v1 σ2 => (if v1 = 0 then (ob (N_T_fail (-1000000001 : Int32) σ2) fun v5 σ6 => (some (v5, σ6))) else (ob (N_T_within x2 (0 : Int32) (1 : Int32) σ2) fun v8 σ9 => (if v8 = 0 then (ob (N_T_fail (-1000000001 : Int32) σ9) fun v12 σ13 => (some (v12, σ13))) else (ob (N_S_thinkOf 1 0  σ9) fun v15 σ16 => (N_T_worst_b40  FU x1 x2 (0 : Int32) σ16))))))
set_option maxRecDepth 100000 in
set_option maxHeartbeats 4000000 in
theorem c_N_T_worst {g : GP} {l : Launch} {A : Nat → Nat → Nat} {X : va_W} {v9 : Int32} {s9 : CS} {x1 : Int32} {x2 : Int32} {σ : CS} (h : N_T_worst x1 x2 σ = some (v9, s9)) : CI g l yX11_worst cX11_worst 5 (some .int) { frames := 5, cells := 0, slots := 0, locals := 159 } [.ref (A 5 99), .int x1, .int x2] (wC g A σ X) (fun r0 w => r0 = v9 ∧ w = wC g A s9 X) := by
  refine CI.mk (by decide) (Nat.le_of_ble_eq_true rfl) (fun G hG hret => ?_)
  have K : ∀ L pc, decode cX11_worst pc = .ok (.ireturn, 1) → G 0 0 (wC g A s9 X) L pc [.int v9] := fun L pc d => hret _ L pc v9 d rfl ⟨rfl, rfl⟩
  unfold N_T_worst at h
  refine g_iload_n hG dX11_worst_0 rfl ?_
  refine g_iconstv hG dX11_worst_1 ki_1 ?_
  refine g_sipushv hG dX11_worst_2 ks_999 ?_
  obtain ⟨v1, σ2, q3, h⟩ := ob_some h
  refine g_cS hG dX11_worst_5 (c_N_T_within q3) b_X11_within v_X11_79 rfl ⟨Nat.le_of_ble_eq_true rfl, Nat.le_of_ble_eq_true rfl⟩ ⟨rfl, rfl⟩ ⟨Nat.zero_le _, Nat.zero_le _⟩ _ rfl (Nat.le_of_ble_eq_true rfl) ?_
  rcases if_some h with ⟨c4, h⟩ | ⟨c4, h⟩
  · refine g_if_eq (tgt := 20) hG dX11_worst_8 rfl (fun _ => ?_) (fun q => absurd c4 q)
    refine g_aload_n hG dX11_worst_20 rfl ?_
    refine g_ldc hG dX11_worst_21 k_X11_83 ?_
    obtain ⟨v5, σ6, q7, h⟩ := ob_some h
    refine g_cV hG dX11_worst_23 (c_N_T_fail q7) b_X11_fail v_X11_84 rfl (eT g A _ X) rfl ⟨Nat.le_of_ble_eq_true rfl, Nat.le_of_ble_eq_true rfl⟩ ⟨rfl, rfl⟩ ⟨Nat.zero_le _, Nat.zero_le _⟩ _ rfl (Nat.le_of_ble_eq_true rfl) ?_
    cases h
    exact K _ _ dX11_worst_26
  · refine g_if_eq (tgt := 20) hG dX11_worst_8 rfl (fun q => absurd q c4) (fun _ => ?_)
    refine g_iload_n hG dX11_worst_11 rfl ?_
    refine g_iconstv hG dX11_worst_12 ki_0 ?_
    refine g_iconstv hG dX11_worst_13 ki_1 ?_
    obtain ⟨v8, σ9, q10, h⟩ := ob_some h
    refine g_cS hG dX11_worst_14 (c_N_T_within q10) b_X11_within v_X11_79 rfl ⟨Nat.le_of_ble_eq_true rfl, Nat.le_of_ble_eq_true rfl⟩ ⟨rfl, rfl⟩ ⟨Nat.zero_le _, Nat.zero_le _⟩ _ rfl (Nat.le_of_ble_eq_true rfl) ?_
    rcases if_some h with ⟨c11, h⟩ | ⟨c11, h⟩
    · refine g_if_ne (tgt := 27) hG dX11_worst_17 rfl (fun q => absurd c11 q) (fun _ => ?_)
      refine g_aload_n hG dX11_worst_20 rfl ?_
      refine g_ldc hG dX11_worst_21 k_X11_83 ?_
      obtain ⟨v12, σ13, q14, h⟩ := ob_some h
      refine g_cV hG dX11_worst_23 (c_N_T_fail q14) b_X11_fail v_X11_84 rfl (eT g A _ X) rfl ⟨Nat.le_of_ble_eq_true rfl, Nat.le_of_ble_eq_true rfl⟩ ⟨rfl, rfl⟩ ⟨Nat.zero_le _, Nat.zero_le _⟩ _ rfl (Nat.le_of_ble_eq_true rfl) ?_
      cases h
      exact K _ _ dX11_worst_26
    · refine g_if_ne (tgt := 27) hG dX11_worst_17 rfl (fun _ => ?_) (fun q => absurd q c11)
      refine g_aload_n hG dX11_worst_27 rfl ?_
      refine g_get (f := 1) hG dX11_worst_28 (eT g A _ X) rfl inX11 (by decide) rfl f_X11_44 rfl ?_
      refine g_aload_n hG dX11_worst_31 rfl ?_
      refine g_get (f := 0) hG dX11_worst_32 (eT g A _ X) rfl inX11 (by decide) rfl f_X11_40 rfl ?_
      obtain ⟨v15, σ16, q17, h⟩ := ob_some h
      refine g_cVv hG dX11_worst_35 (c_N_S_thinkOf (by decide) (by decide) q17) b_X7_thinkOf v_X11_198 rfl (eS (by decide)) rfl ⟨Nat.le_of_ble_eq_true rfl, Nat.le_of_ble_eq_true rfl⟩ ⟨rfl, rfl⟩ ⟨Nat.zero_le _, Nat.zero_le _⟩ _ rfl (Nat.le_of_ble_eq_true rfl) ?_
      refine g_iconstv hG dX11_worst_38 ki_0 ?_
      refine g_istore_n hG dX11_worst_39 (by decide) ?_
      refine g_loc hG [(0, .ref (A 5 99)), (1, .int x1), (2, .int x2), (3, .int (0 : Int32))] ⟨rfl, rfl, rfl, rfl, trivial⟩ ?_
      exact s_N_T_worst_b40  hG K FU _ _ _ _ h
def N_T_stay  (σ : CS) : Option (Int32 × CS) := (ob (N_S_stayers 0 (0 : Int32) σ) fun v1 σ2 => (ob (N_S_stayers 0 (1 : Int32) σ2) fun v4 σ5 => (some ((v1 ||| v4), σ5))))
set_option maxRecDepth 100000 in
set_option maxHeartbeats 4000000 in
theorem c_N_T_stay {g : GP} {l : Launch} {A : Nat → Nat → Nat} {X : va_W} {v9 : Int32} {s9 : CS} {σ : CS} (h : N_T_stay  σ = some (v9, s9)) : CI g l yX11_stay cX11_stay 1 (some .int) { frames := 3, cells := 0, slots := 0, locals := 68 } [.ref (A 5 99)] (wC g A σ X) (fun r0 w => r0 = v9 ∧ w = wC g A s9 X) := by
  refine CI.mk (by decide) (Nat.le_of_ble_eq_true rfl) (fun G hG hret => ?_)
  have K : ∀ L pc, decode cX11_stay pc = .ok (.ireturn, 1) → G 0 0 (wC g A s9 X) L pc [.int v9] := fun L pc d => hret _ L pc v9 d rfl ⟨rfl, rfl⟩
  unfold N_T_stay at h
  refine g_aload_n hG dX11_stay_0 rfl ?_
  refine g_get (f := 0) hG dX11_stay_1 (eT g A _ X) rfl inX11 (by decide) rfl f_X11_40 rfl ?_
  refine g_iconstv hG dX11_stay_4 ki_0 ?_
  obtain ⟨v1, σ2, q3, h⟩ := ob_some h
  refine g_cV hG dX11_stay_5 (c_N_S_stayers (by decide) q3) b_X7_stayers v_X11_209 rfl (eS (by decide)) rfl ⟨Nat.le_of_ble_eq_true rfl, Nat.le_of_ble_eq_true rfl⟩ ⟨rfl, rfl⟩ ⟨Nat.zero_le _, Nat.zero_le _⟩ _ rfl (Nat.le_of_ble_eq_true rfl) ?_
  refine g_aload_n hG dX11_stay_8 rfl ?_
  refine g_get (f := 0) hG dX11_stay_9 (eT g A _ X) rfl inX11 (by decide) rfl f_X11_40 rfl ?_
  refine g_iconstv hG dX11_stay_12 ki_1 ?_
  obtain ⟨v4, σ5, q6, h⟩ := ob_some h
  refine g_cV hG dX11_stay_13 (c_N_S_stayers (by decide) q6) b_X7_stayers v_X11_209 rfl (eS (by decide)) rfl ⟨Nat.le_of_ble_eq_true rfl, Nat.le_of_ble_eq_true rfl⟩ ⟨rfl, rfl⟩ ⟨Nat.zero_le _, Nat.zero_le _⟩ _ rfl (Nat.le_of_ble_eq_true rfl) ?_
  refine g_ior hG dX11_stay_16 ?_
  cases h
  exact K _ _ dX11_stay_17
def N_T_dirtOnceSwept (x1 : Int32) (σ : CS) : Option (Int32 × CS) := (ob (N_S_thinkOf 1 0  σ) fun v1 σ2 => (ob (N_S_sweep 1 (0 : Int32) (σ2.1 1 5) ((1 : Int32) <<< (x1 &&& 31)) σ2) fun v4 σ5 => (ob (N_S_dirtOfAll 1  σ5) fun v7 σ8 => (some (v7, σ8)))))
set_option maxRecDepth 100000 in
set_option maxHeartbeats 4000000 in
theorem c_N_T_dirtOnceSwept {g : GP} {l : Launch} {A : Nat → Nat → Nat} {X : va_W} {v9 : Int32} {s9 : CS} {x1 : Int32} {σ : CS} (h : N_T_dirtOnceSwept x1 σ = some (v9, s9)) : CI g l yX11_dirtOnceSwept cX11_dirtOnceSwept 2 (some .int) { frames := 3, cells := 0, slots := 0, locals := 111 } [.ref (A 5 99), .int x1] (wC g A σ X) (fun r0 w => r0 = v9 ∧ w = wC g A s9 X) := by
  refine CI.mk (by decide) (Nat.le_of_ble_eq_true rfl) (fun G hG hret => ?_)
  have K : ∀ L pc, decode cX11_dirtOnceSwept pc = .ok (.ireturn, 1) → G 0 0 (wC g A s9 X) L pc [.int v9] := fun L pc d => hret _ L pc v9 d rfl ⟨rfl, rfl⟩
  unfold N_T_dirtOnceSwept at h
  refine g_aload_n hG dX11_dirtOnceSwept_0 rfl ?_
  refine g_get (f := 1) hG dX11_dirtOnceSwept_1 (eT g A _ X) rfl inX11 (by decide) rfl f_X11_44 rfl ?_
  refine g_aload_n hG dX11_dirtOnceSwept_4 rfl ?_
  refine g_get (f := 0) hG dX11_dirtOnceSwept_5 (eT g A _ X) rfl inX11 (by decide) rfl f_X11_40 rfl ?_
  obtain ⟨v1, σ2, q3, h⟩ := ob_some h
  refine g_cVv hG dX11_dirtOnceSwept_8 (c_N_S_thinkOf (by decide) (by decide) q3) b_X7_thinkOf v_X11_198 rfl (eS (by decide)) rfl ⟨Nat.le_of_ble_eq_true rfl, Nat.le_of_ble_eq_true rfl⟩ ⟨rfl, rfl⟩ ⟨Nat.zero_le _, Nat.zero_le _⟩ _ rfl (Nat.le_of_ble_eq_true rfl) ?_
  refine g_aload_n hG dX11_dirtOnceSwept_11 rfl ?_
  refine g_get (f := 1) hG dX11_dirtOnceSwept_12 (eT g A _ X) rfl inX11 (by decide) rfl f_X11_44 rfl ?_
  refine g_iconstv hG dX11_dirtOnceSwept_15 ki_0 ?_
  refine g_aload_n hG dX11_dirtOnceSwept_16 rfl ?_
  refine g_get (f := 1) hG dX11_dirtOnceSwept_17 (eT g A _ X) rfl inX11 (by decide) rfl f_X11_44 rfl ?_
  refine g_getN (f := 5) hG dX11_dirtOnceSwept_20 (eS (by decide)) rfl inX7 (by decide) rfl f_X11_88 rfl ?_
  refine g_iconstv hG dX11_dirtOnceSwept_23 ki_1 ?_
  refine g_iload_n hG dX11_dirtOnceSwept_24 rfl ?_
  refine g_ishl hG dX11_dirtOnceSwept_25 ?_
  obtain ⟨v4, σ5, q6, h⟩ := ob_some h
  refine g_cVv hG dX11_dirtOnceSwept_26 (c_N_S_sweep (by decide) q6) b_X7_sweep v_X11_300 rfl (eS (by decide)) rfl ⟨Nat.le_of_ble_eq_true rfl, Nat.le_of_ble_eq_true rfl⟩ ⟨rfl, rfl⟩ ⟨Nat.zero_le _, Nat.zero_le _⟩ _ rfl (Nat.le_of_ble_eq_true rfl) ?_
  refine g_aload_n hG dX11_dirtOnceSwept_29 rfl ?_
  refine g_get (f := 1) hG dX11_dirtOnceSwept_30 (eT g A _ X) rfl inX11 (by decide) rfl f_X11_44 rfl ?_
  obtain ⟨v7, σ8, q9, h⟩ := ob_some h
  refine g_cV hG dX11_dirtOnceSwept_33 (c_N_S_dirtOfAll (by decide) q9) b_X7_dirtOfAll v_X11_191 rfl (eS (by decide)) rfl ⟨Nat.le_of_ble_eq_true rfl, Nat.le_of_ble_eq_true rfl⟩ ⟨rfl, rfl⟩ ⟨Nat.zero_le _, Nat.zero_le _⟩ _ rfl (Nat.le_of_ble_eq_true rfl) ?_
  cases h
  exact K _ _ dX11_dirtOnceSwept_36
def N_T_side (x1 : Int32) (σ : CS) : Option (Int32 × CS) := (ob (N_T_within x1 (0 : Int32) (1 : Int32) σ) fun v1 σ2 => (if v1 = 0 then (ob (N_T_fail (-1000000001 : Int32) σ2) fun v5 σ6 => (some (v5, σ6))) else (ob (N_T_dirtOnceSwept (0 : Int32) σ2) fun v8 σ9 => (ob (N_T_dirtOnceSwept (1 : Int32) σ9) fun v11 σ12 => (if x1 = (1 : Int32) then (some ((if v11 < v8 then v11 else v8), σ12)) else (some ((if v8 ≤ v11 then (0 : Int32) else (1 : Int32)), σ12)))))))
set_option maxRecDepth 100000 in
set_option maxHeartbeats 4000000 in
theorem c_N_T_side {g : GP} {l : Launch} {A : Nat → Nat → Nat} {X : va_W} {v9 : Int32} {s9 : CS} {x1 : Int32} {σ : CS} (h : N_T_side x1 σ = some (v9, s9)) : CI g l yX11_side cX11_side 4 (some .int) { frames := 4, cells := 0, slots := 0, locals := 132 } [.ref (A 5 99), .int x1] (wC g A σ X) (fun r0 w => r0 = v9 ∧ w = wC g A s9 X) := by
  refine CI.mk (by decide) (Nat.le_of_ble_eq_true rfl) (fun G hG hret => ?_)
  have K : ∀ L pc, decode cX11_side pc = .ok (.ireturn, 1) → G 0 0 (wC g A s9 X) L pc [.int v9] := fun L pc d => hret _ L pc v9 d rfl ⟨rfl, rfl⟩
  unfold N_T_side at h
  refine g_iload_n hG dX11_side_0 rfl ?_
  refine g_iconstv hG dX11_side_1 ki_0 ?_
  refine g_iconstv hG dX11_side_2 ki_1 ?_
  obtain ⟨v1, σ2, q3, h⟩ := ob_some h
  refine g_cS hG dX11_side_3 (c_N_T_within q3) b_X11_within v_X11_79 rfl ⟨Nat.le_of_ble_eq_true rfl, Nat.le_of_ble_eq_true rfl⟩ ⟨rfl, rfl⟩ ⟨Nat.zero_le _, Nat.zero_le _⟩ _ rfl (Nat.le_of_ble_eq_true rfl) ?_
  rcases if_some h with ⟨c4, h⟩ | ⟨c4, h⟩
  · refine g_if_ne (tgt := 16) hG dX11_side_6 rfl (fun q => absurd c4 q) (fun _ => ?_)
    refine g_aload_n hG dX11_side_9 rfl ?_
    refine g_ldc hG dX11_side_10 k_X11_83 ?_
    obtain ⟨v5, σ6, q7, h⟩ := ob_some h
    refine g_cV hG dX11_side_12 (c_N_T_fail q7) b_X11_fail v_X11_84 rfl (eT g A _ X) rfl ⟨Nat.le_of_ble_eq_true rfl, Nat.le_of_ble_eq_true rfl⟩ ⟨rfl, rfl⟩ ⟨Nat.zero_le _, Nat.zero_le _⟩ _ rfl (Nat.le_of_ble_eq_true rfl) ?_
    cases h
    exact K _ _ dX11_side_15
  · refine g_if_ne (tgt := 16) hG dX11_side_6 rfl (fun _ => ?_) (fun q => absurd q c4)
    refine g_aload_n hG dX11_side_16 rfl ?_
    refine g_iconstv hG dX11_side_17 ki_0 ?_
    obtain ⟨v8, σ9, q10, h⟩ := ob_some h
    refine g_cV hG dX11_side_18 (c_N_T_dirtOnceSwept q10) b_X11_dirtOnceSwept v_X11_212 rfl (eT g A _ X) rfl ⟨Nat.le_of_ble_eq_true rfl, Nat.le_of_ble_eq_true rfl⟩ ⟨rfl, rfl⟩ ⟨Nat.zero_le _, Nat.zero_le _⟩ _ rfl (Nat.le_of_ble_eq_true rfl) ?_
    refine g_istore_n hG dX11_side_21 (by decide) ?_
    refine g_aload_n hG dX11_side_22 rfl ?_
    refine g_iconstv hG dX11_side_23 ki_1 ?_
    obtain ⟨v11, σ12, q13, h⟩ := ob_some h
    refine g_cV hG dX11_side_24 (c_N_T_dirtOnceSwept q13) b_X11_dirtOnceSwept v_X11_212 rfl (eT g A _ X) rfl ⟨Nat.le_of_ble_eq_true rfl, Nat.le_of_ble_eq_true rfl⟩ ⟨rfl, rfl⟩ ⟨Nat.zero_le _, Nat.zero_le _⟩ _ rfl (Nat.le_of_ble_eq_true rfl) ?_
    refine g_istore_n hG dX11_side_27 (by decide) ?_
    refine g_iload_n hG dX11_side_28 rfl ?_
    refine g_iconstv hG dX11_side_29 ki_1 ?_
    rcases if_some h with ⟨c14, h⟩ | ⟨c14, h⟩
    · refine g_icmp_ne (tgt := 39) hG dX11_side_30 rfl (fun q => absurd c14 q) (fun _ => ?_)
      refine g_iload_n hG dX11_side_33 rfl ?_
      refine g_iload_n hG dX11_side_34 rfl ?_
      refine g_min hG dX11_side_35 v_X11_215 st_min in_Math co_min (Nat.le_of_ble_eq_true rfl) (Nat.le_of_ble_eq_true rfl) (Nat.zero_le _) (Nat.zero_le _) ?_
      cases h
      exact K _ _ dX11_side_38
    · refine g_icmp_ne (tgt := 39) hG dX11_side_30 rfl (fun _ => ?_) (fun q => absurd q c14)
      refine g_iload_n hG dX11_side_39 rfl ?_
      refine g_iload_n hG dX11_side_40 rfl ?_
      refine g_dia2 (if v8 ≤ v11 then (0 : Int32) else (1 : Int32)) 49 (fun J15 => ?_) ?_
      · by_cases c16 : v8 ≤ v11
        · refine g_icmp_ge (tgt := 48) hG dX11_side_41 rfl (fun _ => ?_) (fun q => absurd c16 q)
          refine g_iconstv hG dX11_side_48 ki_0 ?_
          rw [if_pos c16] at J15
          exact J15
        · refine g_icmp_ge (tgt := 48) hG dX11_side_41 rfl (fun q => absurd q c16) (fun _ => ?_)
          refine g_iconstv hG dX11_side_44 ki_1 ?_
          refine g_goto (tgt := 49) hG dX11_side_45 rfl ?_
          rw [if_neg c16] at J15
          exact J15
      cases h
      exact K _ _ dX11_side_49
def N_T_staysBelow_b13 : Nat → Int32 → Int32 → Int32 → CS → Option (Int32 × CS)
  | 0, _, _, _, _ => none
  | n + 1, x1, x2, x3, σ => (if (28 : Int32) < x3 then (some ((1 : Int32), σ)) else (gd (nz x2) (lt (if (irm (σ.1 1 7) x2) = 0 then (3 : Int32) else (0 : Int32)) fun v8 => (ob (N_S_passPart 1 (0 : Int32) (σ.1 1 5) v8 σ) fun v10 σ11 => (ob (N_S_firstWith 1 x1 σ11) fun v13 σ14 => (if v13 < 0 then ((N_T_staysBelow_b13  n) x1 x2 (x3 + (1 : Int32)) σ14) else (some ((0 : Int32), σ14))))))))
set_option maxRecDepth 100000 in
set_option maxHeartbeats 4000000 in
theorem s_N_T_staysBelow_b13 {g : GP} {l : Launch} {A : Nat → Nat → Nat} {X : va_W} {G : GT} {v9 : Int32} {s9 : CS} (hG : IsG g l yX11_staysBelow cX11_staysBelow 5 { frames := 4, cells := 0, slots := 0, locals := 137 } G) (K : ∀ L pc, decode cX11_staysBelow pc = .ok (.ireturn, 1) → isb v9 = true → G 0 0 (wC g A s9 X) L pc [.int v9]) : ∀ (n : Nat) (x1 : Int32) (x2 : Int32) (x3 : Int32) (σ : CS) (h : N_T_staysBelow_b13  n x1 x2 x3 σ = some (v9, s9)), G 0 0 (wC g A σ X) [(0, .ref (A 5 99)), (1, .int x1), (2, .int x2), (3, .int x3)] 13 [] := by
  intro n
  induction n with
  | zero => intro _ _ _ σ h; cases h
  | succ n ih =>
    intro x1 x2 x3 σ h
    unfold N_T_staysBelow_b13 at h
    refine g_iload_n hG dX11_staysBelow_13 rfl ?_
    refine g_bipushv hG dX11_staysBelow_14 kb_28 ?_
    rcases if_some h with ⟨c4, h⟩ | ⟨c4, h⟩
    · refine g_icmp_gt (tgt := 74) hG dX11_staysBelow_16 rfl (fun _ => ?_) (fun q => absurd c4 q)
      refine g_iconstv hG dX11_staysBelow_74 ki_1 ?_
      cases h
      exact K _ _ dX11_staysBelow_75 (by decide)
    · refine g_icmp_gt (tgt := 74) hG dX11_staysBelow_16 rfl (fun q => absurd q c4) (fun _ => ?_)
      refine g_aload_n hG dX11_staysBelow_19 rfl ?_
      refine g_get (f := 1) hG dX11_staysBelow_20 (eT g A _ X) rfl inX11 (by decide) rfl f_X11_44 rfl ?_
      refine g_getN (f := 7) hG dX11_staysBelow_23 (eS (by decide)) rfl inX7 (by decide) rfl f_X11_155 rfl ?_
      refine g_iload_n hG dX11_staysBelow_26 rfl ?_
      obtain ⟨b5, h⟩ := gd_some h
      refine g_irm hG dX11_staysBelow_27 (nz_ne b5) ?_
      refine g_dia1 (if (irm (σ.1 1 7) x2) = 0 then (3 : Int32) else (0 : Int32)) 36 (fun J6 => ?_) ?_
      · by_cases c7 : (irm (σ.1 1 7) x2) = 0
        · refine g_if_ne (tgt := 35) hG dX11_staysBelow_28 rfl (fun q => absurd c7 q) (fun _ => ?_)
          refine g_iconstv hG dX11_staysBelow_31 ki_3 ?_
          refine g_goto (tgt := 36) hG dX11_staysBelow_32 rfl ?_
          rw [if_pos c7] at J6
          exact J6
        · refine g_if_ne (tgt := 35) hG dX11_staysBelow_28 rfl (fun _ => ?_) (fun q => absurd q c7)
          refine g_iconstv hG dX11_staysBelow_35 ki_0 ?_
          rw [if_neg c7] at J6
          exact J6
      obtain ⟨v8, e9, h⟩ := lt_ex h
      refine g_nam e9 ?_
      refine g_istore hG dX11_staysBelow_36 (by decide) ?_
      refine g_aload_n hG dX11_staysBelow_38 rfl ?_
      refine g_get (f := 1) hG dX11_staysBelow_39 (eT g A _ X) rfl inX11 (by decide) rfl f_X11_44 rfl ?_
      refine g_iconstv hG dX11_staysBelow_42 ki_0 ?_
      refine g_aload_n hG dX11_staysBelow_43 rfl ?_
      refine g_get (f := 1) hG dX11_staysBelow_44 (eT g A _ X) rfl inX11 (by decide) rfl f_X11_44 rfl ?_
      refine g_getN (f := 5) hG dX11_staysBelow_47 (eS (by decide)) rfl inX7 (by decide) rfl f_X11_88 rfl ?_
      refine g_iload hG dX11_staysBelow_50 rfl ?_
      obtain ⟨v10, σ11, q12, h⟩ := ob_some h
      refine g_cVv hG dX11_staysBelow_52 (c_N_S_passPart (by decide) q12) b_X7_passPart v_X11_304 rfl (eS (by decide)) rfl ⟨Nat.le_of_ble_eq_true rfl, Nat.le_of_ble_eq_true rfl⟩ ⟨rfl, rfl⟩ ⟨Nat.zero_le _, Nat.zero_le _⟩ _ rfl (Nat.le_of_ble_eq_true rfl) ?_
      refine g_aload_n hG dX11_staysBelow_55 rfl ?_
      refine g_get (f := 1) hG dX11_staysBelow_56 (eT g A _ X) rfl inX11 (by decide) rfl f_X11_44 rfl ?_
      refine g_iload_n hG dX11_staysBelow_59 rfl ?_
      obtain ⟨v13, σ14, q15, h⟩ := ob_some h
      refine g_cV hG dX11_staysBelow_60 (c_N_S_firstWith (by decide) q15) b_X7_firstWith v_X11_205 rfl (eS (by decide)) rfl ⟨Nat.le_of_ble_eq_true rfl, Nat.le_of_ble_eq_true rfl⟩ ⟨rfl, rfl⟩ ⟨Nat.zero_le _, Nat.zero_le _⟩ _ rfl (Nat.le_of_ble_eq_true rfl) ?_
      rcases if_some h with ⟨c16, h⟩ | ⟨c16, h⟩
      · refine g_if_lt (tgt := 68) hG dX11_staysBelow_63 rfl (fun _ => ?_) (fun q => absurd c16 q)
        refine g_iincv (c := (1 : Int32)) hG dX11_staysBelow_68 rfl (by decide) (by decide) ?_
        refine g_goto (tgt := 13) hG dX11_staysBelow_71 rfl ?_
        refine g_loc hG [(0, .ref (A 5 99)), (1, .int x1), (2, .int x2), (3, .int (x3 + (1 : Int32)))] ⟨rfl, rfl, rfl, rfl, trivial⟩ ?_
        exact ih _ _ _ _ h
      · refine g_if_lt (tgt := 68) hG dX11_staysBelow_63 rfl (fun q => absurd q c16) (fun _ => ?_)
        refine g_iconstv hG dX11_staysBelow_66 ki_0 ?_
        cases h
        exact K _ _ dX11_staysBelow_67 (by decide)
def N_T_staysBelow (x1 : Int32) (x2 : Int32) (σ : CS) : Option (Int32 × CS) := (ob (N_S_thinkOf 1 0  σ) fun v1 σ2 => (N_T_staysBelow_b13  FU x1 x2 (1 : Int32) σ2))
set_option maxRecDepth 100000 in
set_option maxHeartbeats 4000000 in
theorem c_N_T_staysBelow {g : GP} {l : Launch} {A : Nat → Nat → Nat} {X : va_W} {v9 : Int32} {s9 : CS} {x1 : Int32} {x2 : Int32} {σ : CS} (h : N_T_staysBelow x1 x2 σ = some (v9, s9)) : CI g l yX11_staysBelow cX11_staysBelow 5 (some .boolean) { frames := 4, cells := 0, slots := 0, locals := 137 } [.ref (A 5 99), .int x1, .int x2] (wC g A σ X) (fun r0 w => r0 = v9 ∧ w = wC g A s9 X) := by
  refine CI.mk (by decide) (Nat.le_of_ble_eq_true rfl) (fun G hG hret => ?_)
  have K : ∀ L pc, decode cX11_staysBelow pc = .ok (.ireturn, 1) → isb v9 = true → G 0 0 (wC g A s9 X) L pc [.int v9] := fun L pc d hz => hret _ L pc v9 d (isb_n hz) ⟨rfl, rfl⟩
  unfold N_T_staysBelow at h
  refine g_aload_n hG dX11_staysBelow_0 rfl ?_
  refine g_get (f := 1) hG dX11_staysBelow_1 (eT g A _ X) rfl inX11 (by decide) rfl f_X11_44 rfl ?_
  refine g_aload_n hG dX11_staysBelow_4 rfl ?_
  refine g_get (f := 0) hG dX11_staysBelow_5 (eT g A _ X) rfl inX11 (by decide) rfl f_X11_40 rfl ?_
  obtain ⟨v1, σ2, q3, h⟩ := ob_some h
  refine g_cVv hG dX11_staysBelow_8 (c_N_S_thinkOf (by decide) (by decide) q3) b_X7_thinkOf v_X11_198 rfl (eS (by decide)) rfl ⟨Nat.le_of_ble_eq_true rfl, Nat.le_of_ble_eq_true rfl⟩ ⟨rfl, rfl⟩ ⟨Nat.zero_le _, Nat.zero_le _⟩ _ rfl (Nat.le_of_ble_eq_true rfl) ?_
  refine g_iconstv hG dX11_staysBelow_11 ki_1 ?_
  refine g_istore_n hG dX11_staysBelow_12 (by decide) ?_
  refine g_loc hG [(0, .ref (A 5 99)), (1, .int x1), (2, .int x2), (3, .int (1 : Int32))] ⟨rfl, rfl, rfl, rfl, trivial⟩ ?_
  exact s_N_T_staysBelow_b13  hG K FU _ _ _ _ h
def N_T_seldom_b21 : Nat → Int32 → Int32 → CS → Option (Int32 × CS)
  | 0, _, _, _ => none
  | n + 1, x1, x2, σ => (if x2 < (1 : Int32) then (ob (N_T_fail (-1000000002 : Int32) σ) fun v9 σ10 => (some (v9, σ10))) else (ob (N_T_staysBelow x1 x2 σ) fun v12 σ13 => (if v12 = 0 then ((N_T_seldom_b21  n) x1 (x2 + (-1 : Int32)) σ13) else (some (x2, σ13)))))
set_option maxRecDepth 100000 in
set_option maxHeartbeats 4000000 in
theorem s_N_T_seldom_b21 {g : GP} {l : Launch} {A : Nat → Nat → Nat} {X : va_W} {G : GT} {v9 : Int32} {s9 : CS} (hG : IsG g l yX11_seldom cX11_seldom 3 { frames := 5, cells := 0, slots := 0, locals := 161 } G) (K : ∀ L pc, decode cX11_seldom pc = .ok (.ireturn, 1) → G 0 0 (wC g A s9 X) L pc [.int v9]) : ∀ (n : Nat) (x1 : Int32) (x2 : Int32) (σ : CS) (h : N_T_seldom_b21  n x1 x2 σ = some (v9, s9)), G 0 0 (wC g A σ X) [(0, .ref (A 5 99)), (1, .int x1), (2, .int x2)] 21 [] := by
  intro n
  induction n with
  | zero => intro _ _ σ h; cases h
  | succ n ih =>
    intro x1 x2 σ h
    unfold N_T_seldom_b21 at h
    refine g_iload_n hG dX11_seldom_21 rfl ?_
    refine g_iconstv hG dX11_seldom_22 ki_1 ?_
    rcases if_some h with ⟨c8, h⟩ | ⟨c8, h⟩
    · refine g_icmp_lt (tgt := 43) hG dX11_seldom_23 rfl (fun _ => ?_) (fun q => absurd c8 q)
      refine g_aload_n hG dX11_seldom_43 rfl ?_
      refine g_ldc hG dX11_seldom_44 k_X11_208 ?_
      obtain ⟨v9, σ10, q11, h⟩ := ob_some h
      refine g_cV hG dX11_seldom_46 (c_N_T_fail q11) b_X11_fail v_X11_84 rfl (eT g A _ X) rfl ⟨Nat.le_of_ble_eq_true rfl, Nat.le_of_ble_eq_true rfl⟩ ⟨rfl, rfl⟩ ⟨Nat.zero_le _, Nat.zero_le _⟩ _ rfl (Nat.le_of_ble_eq_true rfl) ?_
      cases h
      exact K _ _ dX11_seldom_49
    · refine g_icmp_lt (tgt := 43) hG dX11_seldom_23 rfl (fun q => absurd q c8) (fun _ => ?_)
      refine g_aload_n hG dX11_seldom_26 rfl ?_
      refine g_iload_n hG dX11_seldom_27 rfl ?_
      refine g_iload_n hG dX11_seldom_28 rfl ?_
      obtain ⟨v12, σ13, q14, h⟩ := ob_some h
      refine g_cV hG dX11_seldom_29 (c_N_T_staysBelow q14) b_X11_staysBelow v_X11_218 rfl (eT g A _ X) rfl ⟨Nat.le_of_ble_eq_true rfl, Nat.le_of_ble_eq_true rfl⟩ ⟨rfl, rfl⟩ ⟨Nat.zero_le _, Nat.zero_le _⟩ _ rfl (Nat.le_of_ble_eq_true rfl) ?_
      rcases if_some h with ⟨c15, h⟩ | ⟨c15, h⟩
      · refine g_if_eq (tgt := 37) hG dX11_seldom_32 rfl (fun _ => ?_) (fun q => absurd c15 q)
        refine g_iincv (c := (-1 : Int32)) hG dX11_seldom_37 rfl (by decide) (by decide) ?_
        refine g_goto (tgt := 21) hG dX11_seldom_40 rfl ?_
        refine g_loc hG [(0, .ref (A 5 99)), (1, .int x1), (2, .int (x2 + (-1 : Int32)))] ⟨rfl, rfl, rfl, trivial⟩ ?_
        exact ih _ _ _ h
      · refine g_if_eq (tgt := 37) hG dX11_seldom_32 rfl (fun q => absurd q c15) (fun _ => ?_)
        refine g_iload_n hG dX11_seldom_35 rfl ?_
        cases h
        exact K _ _ dX11_seldom_36
def N_T_seldom (x1 : Int32) (σ : CS) : Option (Int32 × CS) := (ob (N_T_within x1 (1 : Int32) (999 : Int32) σ) fun v1 σ2 => (if v1 = 0 then (ob (N_T_fail (-1000000001 : Int32) σ2) fun v5 σ6 => (some (v5, σ6))) else (N_T_seldom_b21  FU x1 (14 : Int32) σ2)))
set_option maxRecDepth 100000 in
set_option maxHeartbeats 4000000 in
theorem c_N_T_seldom {g : GP} {l : Launch} {A : Nat → Nat → Nat} {X : va_W} {v9 : Int32} {s9 : CS} {x1 : Int32} {σ : CS} (h : N_T_seldom x1 σ = some (v9, s9)) : CI g l yX11_seldom cX11_seldom 3 (some .int) { frames := 5, cells := 0, slots := 0, locals := 161 } [.ref (A 5 99), .int x1] (wC g A σ X) (fun r0 w => r0 = v9 ∧ w = wC g A s9 X) := by
  refine CI.mk (by decide) (Nat.le_of_ble_eq_true rfl) (fun G hG hret => ?_)
  have K : ∀ L pc, decode cX11_seldom pc = .ok (.ireturn, 1) → G 0 0 (wC g A s9 X) L pc [.int v9] := fun L pc d => hret _ L pc v9 d rfl ⟨rfl, rfl⟩
  unfold N_T_seldom at h
  refine g_iload_n hG dX11_seldom_0 rfl ?_
  refine g_iconstv hG dX11_seldom_1 ki_1 ?_
  refine g_sipushv hG dX11_seldom_2 ks_999 ?_
  obtain ⟨v1, σ2, q3, h⟩ := ob_some h
  refine g_cS hG dX11_seldom_5 (c_N_T_within q3) b_X11_within v_X11_79 rfl ⟨Nat.le_of_ble_eq_true rfl, Nat.le_of_ble_eq_true rfl⟩ ⟨rfl, rfl⟩ ⟨Nat.zero_le _, Nat.zero_le _⟩ _ rfl (Nat.le_of_ble_eq_true rfl) ?_
  rcases if_some h with ⟨c4, h⟩ | ⟨c4, h⟩
  · refine g_if_ne (tgt := 18) hG dX11_seldom_8 rfl (fun q => absurd c4 q) (fun _ => ?_)
    refine g_aload_n hG dX11_seldom_11 rfl ?_
    refine g_ldc hG dX11_seldom_12 k_X11_83 ?_
    obtain ⟨v5, σ6, q7, h⟩ := ob_some h
    refine g_cV hG dX11_seldom_14 (c_N_T_fail q7) b_X11_fail v_X11_84 rfl (eT g A _ X) rfl ⟨Nat.le_of_ble_eq_true rfl, Nat.le_of_ble_eq_true rfl⟩ ⟨rfl, rfl⟩ ⟨Nat.zero_le _, Nat.zero_le _⟩ _ rfl (Nat.le_of_ble_eq_true rfl) ?_
    cases h
    exact K _ _ dX11_seldom_17
  · refine g_if_ne (tgt := 18) hG dX11_seldom_8 rfl (fun _ => ?_) (fun q => absurd q c4)
    refine g_bipushv hG dX11_seldom_18 kb_14 ?_
    refine g_istore_n hG dX11_seldom_20 (by decide) ?_
    refine g_loc hG [(0, .ref (A 5 99)), (1, .int x1), (2, .int (14 : Int32))] ⟨rfl, rfl, rfl, trivial⟩ ?_
    exact s_N_T_seldom_b21  hG K FU _ _ _ h
def N_T_leastFine_b29 : Nat → Int32 → Int32 → CS → Option (Int32 × CS)
  | 0, _, _, _ => none
  | n + 1, x1, x2, σ => (if (99 : Int32) < x2 then (ob (N_T_fail (-1000000002 : Int32) σ) fun v12 σ13 => (some (v12, σ13))) else (lt (si σ 1 9 x2) fun σ15 => (ob (N_S_stayers 1 x1 σ15) fun v17 σ18 => (if v17 = 0 then (some (x2, σ18)) else ((N_T_leastFine_b29  n) x1 (x2 + (1 : Int32)) σ18)))))
set_option maxRecDepth 100000 in
set_option maxHeartbeats 4000000 in
theorem s_N_T_leastFine_b29 {g : GP} {l : Launch} {A : Nat → Nat → Nat} {X : va_W} {G : GT} {v9 : Int32} {s9 : CS} (hG : IsG g l yX11_leastFine cX11_leastFine 3 { frames := 3, cells := 0, slots := 0, locals := 85 } G) (K : ∀ L pc, decode cX11_leastFine pc = .ok (.ireturn, 1) → G 0 0 (wC g A s9 X) L pc [.int v9]) : ∀ (n : Nat) (x1 : Int32) (x2 : Int32) (σ : CS) (h : N_T_leastFine_b29  n x1 x2 σ = some (v9, s9)), G 0 0 (wC g A σ X) [(0, .ref (A 5 99)), (1, .int x1), (2, .int x2)] 29 [] := by
  intro n
  induction n with
  | zero => intro _ _ σ h; cases h
  | succ n ih =>
    intro x1 x2 σ h
    unfold N_T_leastFine_b29 at h
    refine g_iload_n hG dX11_leastFine_29 rfl ?_
    refine g_bipushv hG dX11_leastFine_30 kb_99 ?_
    rcases if_some h with ⟨c11, h⟩ | ⟨c11, h⟩
    · refine g_icmp_gt (tgt := 62) hG dX11_leastFine_32 rfl (fun _ => ?_) (fun q => absurd c11 q)
      refine g_aload_n hG dX11_leastFine_62 rfl ?_
      refine g_ldc hG dX11_leastFine_63 k_X11_208 ?_
      obtain ⟨v12, σ13, q14, h⟩ := ob_some h
      refine g_cV hG dX11_leastFine_65 (c_N_T_fail q14) b_X11_fail v_X11_84 rfl (eT g A _ X) rfl ⟨Nat.le_of_ble_eq_true rfl, Nat.le_of_ble_eq_true rfl⟩ ⟨rfl, rfl⟩ ⟨Nat.zero_le _, Nat.zero_le _⟩ _ rfl (Nat.le_of_ble_eq_true rfl) ?_
      cases h
      exact K _ _ dX11_leastFine_68
    · refine g_icmp_gt (tgt := 62) hG dX11_leastFine_32 rfl (fun q => absurd q c11) (fun _ => ?_)
      refine g_aload_n hG dX11_leastFine_35 rfl ?_
      refine g_get (f := 1) hG dX11_leastFine_36 (eT g A _ X) rfl inX11 (by decide) rfl f_X11_44 rfl ?_
      refine g_iload_n hG dX11_leastFine_39 rfl ?_
      obtain ⟨σ15, e16, h⟩ := lt_ex h
      refine t_putN 9 hG (by decide) e16 dX11_leastFine_40 f_X11_141 (by decide) (by decide) rfl rfl rfl ?_
      refine g_aload_n hG dX11_leastFine_43 rfl ?_
      refine g_get (f := 1) hG dX11_leastFine_44 (eT g A _ X) rfl inX11 (by decide) rfl f_X11_44 rfl ?_
      refine g_iload_n hG dX11_leastFine_47 rfl ?_
      obtain ⟨v17, σ18, q19, h⟩ := ob_some h
      refine g_cV hG dX11_leastFine_48 (c_N_S_stayers (by decide) q19) b_X7_stayers v_X11_209 rfl (eS (by decide)) rfl ⟨Nat.le_of_ble_eq_true rfl, Nat.le_of_ble_eq_true rfl⟩ ⟨rfl, rfl⟩ ⟨Nat.zero_le _, Nat.zero_le _⟩ _ rfl (Nat.le_of_ble_eq_true rfl) ?_
      rcases if_some h with ⟨c20, h⟩ | ⟨c20, h⟩
      · refine g_if_ne (tgt := 56) hG dX11_leastFine_51 rfl (fun q => absurd c20 q) (fun _ => ?_)
        refine g_iload_n hG dX11_leastFine_54 rfl ?_
        cases h
        exact K _ _ dX11_leastFine_55
      · refine g_if_ne (tgt := 56) hG dX11_leastFine_51 rfl (fun _ => ?_) (fun q => absurd q c20)
        refine g_iincv (c := (1 : Int32)) hG dX11_leastFine_56 rfl (by decide) (by decide) ?_
        refine g_goto (tgt := 29) hG dX11_leastFine_59 rfl ?_
        refine g_loc hG [(0, .ref (A 5 99)), (1, .int x1), (2, .int (x2 + (1 : Int32)))] ⟨rfl, rfl, rfl, trivial⟩ ?_
        exact ih _ _ _ h
def N_T_leastFine (x1 : Int32) (σ : CS) : Option (Int32 × CS) := (ob (N_T_within x1 (0 : Int32) (1 : Int32) σ) fun v1 σ2 => (if v1 = 0 then (ob (N_T_fail (-1000000001 : Int32) σ2) fun v5 σ6 => (some (v5, σ6))) else (ob (N_S_thinkOf 1 0  σ2) fun v8 σ9 => (N_T_leastFine_b29  FU x1 (0 : Int32) σ9))))
set_option maxRecDepth 100000 in
set_option maxHeartbeats 4000000 in
theorem c_N_T_leastFine {g : GP} {l : Launch} {A : Nat → Nat → Nat} {X : va_W} {v9 : Int32} {s9 : CS} {x1 : Int32} {σ : CS} (h : N_T_leastFine x1 σ = some (v9, s9)) : CI g l yX11_leastFine cX11_leastFine 3 (some .int) { frames := 3, cells := 0, slots := 0, locals := 85 } [.ref (A 5 99), .int x1] (wC g A σ X) (fun r0 w => r0 = v9 ∧ w = wC g A s9 X) := by
  refine CI.mk (by decide) (Nat.le_of_ble_eq_true rfl) (fun G hG hret => ?_)
  have K : ∀ L pc, decode cX11_leastFine pc = .ok (.ireturn, 1) → G 0 0 (wC g A s9 X) L pc [.int v9] := fun L pc d => hret _ L pc v9 d rfl ⟨rfl, rfl⟩
  unfold N_T_leastFine at h
  refine g_iload_n hG dX11_leastFine_0 rfl ?_
  refine g_iconstv hG dX11_leastFine_1 ki_0 ?_
  refine g_iconstv hG dX11_leastFine_2 ki_1 ?_
  obtain ⟨v1, σ2, q3, h⟩ := ob_some h
  refine g_cS hG dX11_leastFine_3 (c_N_T_within q3) b_X11_within v_X11_79 rfl ⟨Nat.le_of_ble_eq_true rfl, Nat.le_of_ble_eq_true rfl⟩ ⟨rfl, rfl⟩ ⟨Nat.zero_le _, Nat.zero_le _⟩ _ rfl (Nat.le_of_ble_eq_true rfl) ?_
  rcases if_some h with ⟨c4, h⟩ | ⟨c4, h⟩
  · refine g_if_ne (tgt := 16) hG dX11_leastFine_6 rfl (fun q => absurd c4 q) (fun _ => ?_)
    refine g_aload_n hG dX11_leastFine_9 rfl ?_
    refine g_ldc hG dX11_leastFine_10 k_X11_83 ?_
    obtain ⟨v5, σ6, q7, h⟩ := ob_some h
    refine g_cV hG dX11_leastFine_12 (c_N_T_fail q7) b_X11_fail v_X11_84 rfl (eT g A _ X) rfl ⟨Nat.le_of_ble_eq_true rfl, Nat.le_of_ble_eq_true rfl⟩ ⟨rfl, rfl⟩ ⟨Nat.zero_le _, Nat.zero_le _⟩ _ rfl (Nat.le_of_ble_eq_true rfl) ?_
    cases h
    exact K _ _ dX11_leastFine_15
  · refine g_if_ne (tgt := 16) hG dX11_leastFine_6 rfl (fun _ => ?_) (fun q => absurd q c4)
    refine g_aload_n hG dX11_leastFine_16 rfl ?_
    refine g_get (f := 1) hG dX11_leastFine_17 (eT g A _ X) rfl inX11 (by decide) rfl f_X11_44 rfl ?_
    refine g_aload_n hG dX11_leastFine_20 rfl ?_
    refine g_get (f := 0) hG dX11_leastFine_21 (eT g A _ X) rfl inX11 (by decide) rfl f_X11_40 rfl ?_
    obtain ⟨v8, σ9, q10, h⟩ := ob_some h
    refine g_cVv hG dX11_leastFine_24 (c_N_S_thinkOf (by decide) (by decide) q10) b_X7_thinkOf v_X11_198 rfl (eS (by decide)) rfl ⟨Nat.le_of_ble_eq_true rfl, Nat.le_of_ble_eq_true rfl⟩ ⟨rfl, rfl⟩ ⟨Nat.zero_le _, Nat.zero_le _⟩ _ rfl (Nat.le_of_ble_eq_true rfl) ?_
    refine g_iconstv hG dX11_leastFine_27 ki_0 ?_
    refine g_istore_n hG dX11_leastFine_28 (by decide) ?_
    refine g_loc hG [(0, .ref (A 5 99)), (1, .int x1), (2, .int (0 : Int32))] ⟨rfl, rfl, rfl, trivial⟩ ?_
    exact s_N_T_leastFine_b29  hG K FU _ _ _ h
