def N_S_fallsNow (d : Nat) (x1 : Int32) (σ : CS) : Option (Int32 × CS) := (gd (inb x1 12) (gd (decide ((σ.2.2 d 11) < σ.2.2 7 0)) (ob (N_L_give (σ.2.2 d 11) x1 (irm (σ.1 d 7) (30 : Int32)) (σ.2.1 d 3 (ix x1)) σ) fun v2 σ3 => (ob (N_S_kindOf d x1 σ3) fun v6 σ7 => (gd (inb x1 12) (ob (N_S_carOf d x1 σ7) fun v11 σ12 => (ob (D_fallen v6 v2 (σ7.2.1 d 2 (ix x1)) v11 (σ12.1 d 7) (σ12.1 d 8) σ12) fun v14 σ15 => (some ((if (0 : Int32) < v14 then v14 else (0 : Int32)), σ15)))))))))
set_option maxRecDepth 100000 in
set_option maxHeartbeats 4000000 in
theorem c_N_S_fallsNow {g : GP} {l : Launch} {A : Nat → Nat → Nat} {X : va_W} {v9 : Int32} {s9 : CS} {d : Nat} (hd : d < 3) {x1 : Int32} {σ : CS} (h : N_S_fallsNow d x1 σ = some (v9, s9)) : CI g l yX7_fallsNow cX7_fallsNow 3 (some .int) { frames := 2, cells := 0, slots := 0, locals := 90 } [.ref (A d 99), .int x1] (wC g A σ X) (fun r0 w => r0 = v9 ∧ w = wC g A s9 X) := by
  refine CI.mk (by decide) (Nat.le_of_ble_eq_true rfl) (fun G hG hret => ?_)
  have K : ∀ L pc, decode cX7_fallsNow pc = .ok (.ireturn, 1) → G 0 0 (wC g A s9 X) L pc [.int v9] := fun L pc d => hret _ L pc v9 d rfl ⟨rfl, rfl⟩
  unfold N_S_fallsNow at h
  refine g_aload_n hG dX7_fallsNow_0 rfl ?_
  refine g_get (f := 11) hG dX7_fallsNow_1 (eS hd) rfl inX7 (by decide) rfl f_X7_41 rfl ?_
  refine g_iload_n hG dX7_fallsNow_4 rfl ?_
  refine g_aload_n hG dX7_fallsNow_5 rfl ?_
  refine g_get (f := 7) hG dX7_fallsNow_6 (eS hd) rfl inX7 (by decide) rfl f_X7_60 rfl ?_
  refine g_bipushv hG dX7_fallsNow_9 kb_30 ?_
  refine g_irm hG dX7_fallsNow_11 (by decide) ?_
  refine g_aload_n hG dX7_fallsNow_12 rfl ?_
  refine g_get (f := 3) hG dX7_fallsNow_13 (eS hd) rfl inX7 (by decide) rfl f_X7_18 rfl ?_
  refine g_iload_n hG dX7_fallsNow_16 rfl ?_
  obtain ⟨b1, h⟩ := gd_some h
  refine c_iald hG dX7_fallsNow_17 (aS3 hd) b1 rfl ?_
  obtain ⟨b5, h⟩ := gd_some h
  obtain ⟨v2, σ3, q4, h⟩ := ob_some h
  refine g_cV hG dX7_fallsNow_18 (c_N_L_give q4) b_X4_give v_X7_83 rfl (wC_law g A _ X _ (of_decide_eq_true b5)).1 rfl ⟨Nat.le_of_ble_eq_true rfl, Nat.le_of_ble_eq_true rfl⟩ ⟨rfl, rfl⟩ ⟨Nat.zero_le _, Nat.zero_le _⟩ _ rfl (Nat.le_of_ble_eq_true rfl) ?_
  refine g_istore_n hG dX7_fallsNow_21 (by decide) ?_
  refine g_iconstv hG dX7_fallsNow_22 ki_0 ?_
  refine g_aload_n hG dX7_fallsNow_23 rfl ?_
  refine g_iload_n hG dX7_fallsNow_24 rfl ?_
  obtain ⟨v6, σ7, q8, h⟩ := ob_some h
  refine g_kindOf hG dX7_fallsNow_25 hd v_X7_89 q8 ⟨Nat.le_of_ble_eq_true rfl, Nat.le_of_ble_eq_true rfl⟩ (Nat.le_of_ble_eq_true rfl) (fun b9 => ?_)
  refine g_iload_n hG dX7_fallsNow_28 rfl ?_
  refine g_aload_n hG dX7_fallsNow_29 rfl ?_
  refine g_get (f := 2) hG dX7_fallsNow_30 (eS hd) rfl inX7 (by decide) rfl f_X7_15 rfl ?_
  refine g_iload_n hG dX7_fallsNow_33 rfl ?_
  obtain ⟨b10, h⟩ := gd_some h
  refine c_iald hG dX7_fallsNow_34 (aS2 hd) b10 rfl ?_
  refine g_aload_n hG dX7_fallsNow_35 rfl ?_
  refine g_iload_n hG dX7_fallsNow_36 rfl ?_
  obtain ⟨v11, σ12, q13, h⟩ := ob_some h
  refine g_cV hG dX7_fallsNow_37 (c_N_S_carOf hd q13) b_X7_carOf v_X7_93 rfl (eS hd) rfl ⟨Nat.le_of_ble_eq_true rfl, Nat.le_of_ble_eq_true rfl⟩ ⟨rfl, rfl⟩ ⟨Nat.zero_le _, Nat.zero_le _⟩ _ rfl (Nat.le_of_ble_eq_true rfl) ?_
  refine g_aload_n hG dX7_fallsNow_40 rfl ?_
  refine g_get (f := 7) hG dX7_fallsNow_41 (eS hd) rfl inX7 (by decide) rfl f_X7_60 rfl ?_
  refine g_aload_n hG dX7_fallsNow_44 rfl ?_
  refine g_get (f := 8) hG dX7_fallsNow_45 (eS hd) rfl inX7 (by decide) rfl f_X7_63 rfl ?_
  obtain ⟨v14, σ15, q16, h⟩ := ob_some h
  refine kc_X7_97 hG dX7_fallsNow_48 b9 q16 _ rfl ⟨Nat.le_of_ble_eq_true rfl, Nat.le_of_ble_eq_true rfl⟩ (Nat.le_of_ble_eq_true rfl) rfl ?_
  refine g_max hG dX7_fallsNow_51 v_X7_103 st_max in_Math co_max (Nat.le_of_ble_eq_true rfl) (Nat.le_of_ble_eq_true rfl) (Nat.zero_le _) (Nat.zero_le _) ?_
  cases h
  exact K _ _ dX7_fallsNow_54
def N_S_takesNow (d : Nat) (x1 : Int32) (σ : CS) : Option (Int32 × CS) := (ob (N_S_kindOf d x1 σ) fun v1 σ2 => (gd (inb x1 12) (ob (D_taken v1 (σ2.2.1 d 3 (ix x1)) σ2) fun v6 σ7 => (some (v6, σ7)))))
set_option maxRecDepth 100000 in
set_option maxHeartbeats 4000000 in
theorem c_N_S_takesNow {g : GP} {l : Launch} {A : Nat → Nat → Nat} {X : va_W} {v9 : Int32} {s9 : CS} {d : Nat} (hd : d < 3) {x1 : Int32} {σ : CS} (h : N_S_takesNow d x1 σ = some (v9, s9)) : CI g l yX7_takesNow cX7_takesNow 2 (some .int) { frames := 2, cells := 0, slots := 0, locals := 85 } [.ref (A d 99), .int x1] (wC g A σ X) (fun r0 w => r0 = v9 ∧ w = wC g A s9 X) := by
  refine CI.mk (by decide) (Nat.le_of_ble_eq_true rfl) (fun G hG hret => ?_)
  have K : ∀ L pc, decode cX7_takesNow pc = .ok (.ireturn, 1) → G 0 0 (wC g A s9 X) L pc [.int v9] := fun L pc d => hret _ L pc v9 d rfl ⟨rfl, rfl⟩
  unfold N_S_takesNow at h
  refine g_aload_n hG dX7_takesNow_0 rfl ?_
  refine g_iload_n hG dX7_takesNow_1 rfl ?_
  obtain ⟨v1, σ2, q3, h⟩ := ob_some h
  refine g_kindOf hG dX7_takesNow_2 hd v_X7_89 q3 ⟨Nat.le_of_ble_eq_true rfl, Nat.le_of_ble_eq_true rfl⟩ (Nat.le_of_ble_eq_true rfl) (fun b4 => ?_)
  refine g_aload_n hG dX7_takesNow_5 rfl ?_
  refine g_get (f := 3) hG dX7_takesNow_6 (eS hd) rfl inX7 (by decide) rfl f_X7_18 rfl ?_
  refine g_iload_n hG dX7_takesNow_9 rfl ?_
  obtain ⟨b5, h⟩ := gd_some h
  refine c_iald hG dX7_takesNow_10 (aS3 hd) b5 rfl ?_
  obtain ⟨v6, σ7, q8, h⟩ := ob_some h
  refine kc_X7_109 hG dX7_takesNow_11 b4 q8 _ rfl ⟨Nat.le_of_ble_eq_true rfl, Nat.le_of_ble_eq_true rfl⟩ (Nat.le_of_ble_eq_true rfl) rfl ?_
  cases h
  exact K _ _ dX7_takesNow_14
def N_S_sweep_b124 (d : Nat) (ag3 : Int32 → Int32 → Int32 → Int32 → CS → Option (Int32 × CS)) (x1 : Int32) (x2 : Int32) (x3 : Int32) (x4 : Int32) (σ : CS) : Option (Int32 × CS) := (ag3 x1 x2 x3 (x4 + (1 : Int32)) σ)
set_option maxRecDepth 100000 in
set_option maxHeartbeats 4000000 in
theorem s_N_S_sweep_b124 {g : GP} {l : Launch} {A : Nat → Nat → Nat} {X : va_W} {G : GT} {v9 : Int32} {s9 : CS} {d : Nat} (hd : d < 3) (hG : IsG g l yX7_sweep cX7_sweep 7 { frames := 2, cells := 0, slots := 0, locals := 85 } G) (K : ∀ L pc, decode cX7_sweep pc = .ok (.return_, 1) → G 0 0 (wC g A s9 X) L pc []) {ag3 : Int32 → Int32 → Int32 → Int32 → CS → Option (Int32 × CS)} (hag3 : ∀ (x1 : Int32) (x2 : Int32) (x3 : Int32) (x4 : Int32) (σ : CS), ag3 x1 x2 x3 x4 σ = some (v9, s9) → G 0 0 (wC g A σ X) [(0, .ref (A d 99)), (1, .int x1), (2, .int x2), (3, .int x3), (4, .int x4)] 3 []) {x1 : Int32} {x2 : Int32} {x3 : Int32} {x4 : Int32} {σ : CS} (h : N_S_sweep_b124 d ag3 x1 x2 x3 x4 σ = some (v9, s9)) : G 0 0 (wC g A σ X) [(0, .ref (A d 99)), (1, .int x1), (2, .int x2), (3, .int x3), (4, .int x4)] 124 [] := by
  unfold N_S_sweep_b124 at h
  refine g_iincv (c := (1 : Int32)) hG dX7_sweep_124 rfl (by decide) (by decide) ?_
  refine g_goto (tgt := 3) hG dX7_sweep_127 rfl ?_
  refine g_loc hG [(0, .ref (A d 99)), (1, .int x1), (2, .int x2), (3, .int x3), (4, .int (x4 + (1 : Int32)))] ⟨rfl, rfl, rfl, rfl, rfl, trivial⟩ ?_
  exact hag3 _ _ _ _ _ h
def N_S_sweep_b118 (d : Nat) (ag3 : Int32 → Int32 → Int32 → Int32 → CS → Option (Int32 × CS)) (ag54 : Int32 → Int32 → Int32 → Int32 → Int32 → Int32 → CS → Option (Int32 × CS)) (x1 : Int32) (x2 : Int32) (x3 : Int32) (x4 : Int32) (x5 : Int32) (x6 : Int32) (σ : CS) : Option (Int32 × CS) := (ag54 x1 x2 x3 x4 x5 (x6 + (2 : Int32)) σ)
set_option maxRecDepth 100000 in
set_option maxHeartbeats 4000000 in
theorem s_N_S_sweep_b118 {g : GP} {l : Launch} {A : Nat → Nat → Nat} {X : va_W} {G : GT} {v9 : Int32} {s9 : CS} {d : Nat} (hd : d < 3) (hG : IsG g l yX7_sweep cX7_sweep 7 { frames := 2, cells := 0, slots := 0, locals := 85 } G) (K : ∀ L pc, decode cX7_sweep pc = .ok (.return_, 1) → G 0 0 (wC g A s9 X) L pc []) {ag3 : Int32 → Int32 → Int32 → Int32 → CS → Option (Int32 × CS)} (hag3 : ∀ (x1 : Int32) (x2 : Int32) (x3 : Int32) (x4 : Int32) (σ : CS), ag3 x1 x2 x3 x4 σ = some (v9, s9) → G 0 0 (wC g A σ X) [(0, .ref (A d 99)), (1, .int x1), (2, .int x2), (3, .int x3), (4, .int x4)] 3 []) {ag54 : Int32 → Int32 → Int32 → Int32 → Int32 → Int32 → CS → Option (Int32 × CS)} (hag54 : ∀ (x1 : Int32) (x2 : Int32) (x3 : Int32) (x4 : Int32) (x5 : Int32) (x6 : Int32) (σ : CS), ag54 x1 x2 x3 x4 x5 x6 σ = some (v9, s9) → G 0 0 (wC g A σ X) [(0, .ref (A d 99)), (1, .int x1), (2, .int x2), (3, .int x3), (4, .int x4), (5, .int x5), (6, .int x6)] 54 []) {x1 : Int32} {x2 : Int32} {x3 : Int32} {x4 : Int32} {x5 : Int32} {x6 : Int32} {σ : CS} (h : N_S_sweep_b118 d ag3 ag54 x1 x2 x3 x4 x5 x6 σ = some (v9, s9)) : G 0 0 (wC g A σ X) [(0, .ref (A d 99)), (1, .int x1), (2, .int x2), (3, .int x3), (4, .int x4), (5, .int x5), (6, .int x6)] 118 [] := by
  unfold N_S_sweep_b118 at h
  refine g_iincv (c := (2 : Int32)) hG dX7_sweep_118 rfl (by decide) (by decide) ?_
  refine g_goto (tgt := 54) hG dX7_sweep_121 rfl ?_
  refine g_loc hG [(0, .ref (A d 99)), (1, .int x1), (2, .int x2), (3, .int x3), (4, .int x4), (5, .int x5), (6, .int (x6 + (2 : Int32)))] ⟨rfl, rfl, rfl, rfl, rfl, rfl, rfl, trivial⟩ ?_
  exact hag54 _ _ _ _ _ _ _ h
def N_S_sweep_b54 (d : Nat) (ag3 : Int32 → Int32 → Int32 → Int32 → CS → Option (Int32 × CS)) : Nat → Int32 → Int32 → Int32 → Int32 → Int32 → Int32 → CS → Option (Int32 × CS)
  | 0, _, _, _, _, _, _, _ => none
  | n + 1, x1, x2, x3, x4, x5, x6, σ => (if x2 ≤ x6 then (N_S_sweep_b124 d ag3 x1 x2 x3 x4 σ) else (if ((x5 >>> (x6 &&& 31)) &&& (1 : Int32)) = (1 : Int32) then (lt (si σ d 10 (if ((σ.1 d 10) + (σ.1 d 9)) < (99999 : Int32) then ((σ.1 d 10) + (σ.1 d 9)) else (99999 : Int32))) fun σ8 => (N_S_sweep_b118 d ag3 (N_S_sweep_b54 d ag3 n) x1 x2 x3 x4 x5 x6 σ8)) else (gd (inb x6 12) (ob (N_S_kindOf d x6 σ) fun v11 σ12 => (gd (inb x6 12) (ob (D_taken v11 (σ12.2.1 d 3 (ix x6)) σ12) fun v16 σ17 => (gd (inb x6 12) (lt (sa σ17 d 3 (upd (σ17.2.1 d 3) (ix x6) ((σ.2.1 d 3 (ix x6)) - v16))) fun σ19 => (N_S_sweep_b118 d ag3 (N_S_sweep_b54 d ag3 n) x1 x2 x3 x4 x5 x6 σ19)))))))))
set_option maxRecDepth 100000 in
set_option maxHeartbeats 4000000 in
theorem s_N_S_sweep_b54 {g : GP} {l : Launch} {A : Nat → Nat → Nat} {X : va_W} {G : GT} {v9 : Int32} {s9 : CS} {d : Nat} (hd : d < 3) (hG : IsG g l yX7_sweep cX7_sweep 7 { frames := 2, cells := 0, slots := 0, locals := 85 } G) (K : ∀ L pc, decode cX7_sweep pc = .ok (.return_, 1) → G 0 0 (wC g A s9 X) L pc []) {ag3 : Int32 → Int32 → Int32 → Int32 → CS → Option (Int32 × CS)} (hag3 : ∀ (x1 : Int32) (x2 : Int32) (x3 : Int32) (x4 : Int32) (σ : CS), ag3 x1 x2 x3 x4 σ = some (v9, s9) → G 0 0 (wC g A σ X) [(0, .ref (A d 99)), (1, .int x1), (2, .int x2), (3, .int x3), (4, .int x4)] 3 []) : ∀ (n : Nat) (x1 : Int32) (x2 : Int32) (x3 : Int32) (x4 : Int32) (x5 : Int32) (x6 : Int32) (σ : CS) (h : N_S_sweep_b54 d ag3 n x1 x2 x3 x4 x5 x6 σ = some (v9, s9)), G 0 0 (wC g A σ X) [(0, .ref (A d 99)), (1, .int x1), (2, .int x2), (3, .int x3), (4, .int x4), (5, .int x5), (6, .int x6)] 54 [] := by
  intro n
  induction n with
  | zero => intro _ _ _ _ _ _ σ h; cases h
  | succ n ih =>
    intro x1 x2 x3 x4 x5 x6 σ h
    unfold N_S_sweep_b54 at h
    refine g_iload hG dX7_sweep_54 rfl ?_
    refine g_iload_n hG dX7_sweep_56 rfl ?_
    rcases if_some h with ⟨c6, h⟩ | ⟨c6, h⟩
    · refine g_icmp_ge (tgt := 124) hG dX7_sweep_57 rfl (fun _ => ?_) (fun q => absurd c6 q)
      refine g_loc hG [(0, .ref (A d 99)), (1, .int x1), (2, .int x2), (3, .int x3), (4, .int x4)] ⟨rfl, rfl, rfl, rfl, rfl, trivial⟩ ?_
      exact s_N_S_sweep_b124 hd hG K hag3 h
    · refine g_icmp_ge (tgt := 124) hG dX7_sweep_57 rfl (fun q => absurd q c6) (fun _ => ?_)
      refine g_iload hG dX7_sweep_60 rfl ?_
      refine g_iload hG dX7_sweep_62 rfl ?_
      refine g_ishr hG dX7_sweep_64 ?_
      refine g_iconstv hG dX7_sweep_65 ki_1 ?_
      refine g_iand hG dX7_sweep_66 ?_
      refine g_iconstv hG dX7_sweep_67 ki_1 ?_
      rcases if_some h with ⟨c7, h⟩ | ⟨c7, h⟩
      · refine g_icmp_ne (tgt := 92) hG dX7_sweep_68 rfl (fun q => absurd c7 q) (fun _ => ?_)
        refine g_aload_n hG dX7_sweep_71 rfl ?_
        refine g_ldc hG dX7_sweep_72 k_X7_135 ?_
        refine g_aload_n hG dX7_sweep_74 rfl ?_
        refine g_get (f := 10) hG dX7_sweep_75 (eS hd) rfl inX7 (by decide) rfl f_X7_66 rfl ?_
        refine g_aload_n hG dX7_sweep_78 rfl ?_
        refine g_get (f := 9) hG dX7_sweep_79 (eS hd) rfl inX7 (by decide) rfl f_X7_24 rfl ?_
        refine g_iadd hG dX7_sweep_82 ?_
        refine g_min hG dX7_sweep_83 v_X7_123 st_min in_Math co_min (Nat.le_of_ble_eq_true rfl) (Nat.le_of_ble_eq_true rfl) (Nat.zero_le _) (Nat.zero_le _) ?_
        obtain ⟨σ8, e9, h⟩ := lt_ex h
        refine t_put 10 hG hd e9 dX7_sweep_86 f_X7_66 (by decide) (by decide) rfl rfl rfl ?_
        refine g_goto (tgt := 118) hG dX7_sweep_89 rfl ?_
        refine g_loc hG [(0, .ref (A d 99)), (1, .int x1), (2, .int x2), (3, .int x3), (4, .int x4), (5, .int x5), (6, .int x6)] ⟨rfl, rfl, rfl, rfl, rfl, rfl, rfl, trivial⟩ ?_
        exact s_N_S_sweep_b118 hd hG K hag3 ih h
      · refine g_icmp_ne (tgt := 92) hG dX7_sweep_68 rfl (fun _ => ?_) (fun q => absurd q c7)
        refine g_aload_n hG dX7_sweep_92 rfl ?_
        refine g_get (f := 3) hG dX7_sweep_93 (eS hd) rfl inX7 (by decide) rfl f_X7_18 rfl ?_
        refine g_iload hG dX7_sweep_96 rfl ?_
        refine g_dup2 hG dX7_sweep_98 rfl rfl ?_
        obtain ⟨b10, h⟩ := gd_some h
        refine c_iald hG dX7_sweep_99 (aS3 hd) b10 rfl ?_
        refine g_aload_n hG dX7_sweep_100 rfl ?_
        refine g_iload hG dX7_sweep_101 rfl ?_
        obtain ⟨v11, σ12, q13, h⟩ := ob_some h
        refine g_kindOf hG dX7_sweep_103 hd v_X7_89 q13 ⟨Nat.le_of_ble_eq_true rfl, Nat.le_of_ble_eq_true rfl⟩ (Nat.le_of_ble_eq_true rfl) (fun b14 => ?_)
        refine g_aload_n hG dX7_sweep_106 rfl ?_
        refine g_get (f := 3) hG dX7_sweep_107 (eS hd) rfl inX7 (by decide) rfl f_X7_18 rfl ?_
        refine g_iload hG dX7_sweep_110 rfl ?_
        obtain ⟨b15, h⟩ := gd_some h
        refine c_iald hG dX7_sweep_112 (aS3 hd) b15 rfl ?_
        obtain ⟨v16, σ17, q18, h⟩ := ob_some h
        refine kc_X7_109 hG dX7_sweep_113 b14 q18 _ rfl ⟨Nat.le_of_ble_eq_true rfl, Nat.le_of_ble_eq_true rfl⟩ (Nat.le_of_ble_eq_true rfl) rfl ?_
        refine g_isub hG dX7_sweep_116 ?_
        obtain ⟨b21, h⟩ := gd_some h
        obtain ⟨σ19, e20, h⟩ := lt_ex h
        refine c_iast hG e20 dX7_sweep_117 (aS3 hd) b21 rfl ?_
        refine g_loc hG [(0, .ref (A d 99)), (1, .int x1), (2, .int x2), (3, .int x3), (4, .int x4), (5, .int x5), (6, .int x6)] ⟨rfl, rfl, rfl, rfl, rfl, rfl, rfl, trivial⟩ ?_
        exact s_N_S_sweep_b118 hd hG K hag3 ih h
def N_S_sweep_b46 (d : Nat) (ag3 : Int32 → Int32 → Int32 → Int32 → CS → Option (Int32 × CS)) (x1 : Int32) (x2 : Int32) (x3 : Int32) (x4 : Int32) (s0 : Int32) (σ : CS) : Option (Int32 × CS) := (lt (x1 + x4) fun v4 => (N_S_sweep_b54 d ag3 FU x1 x2 x3 x4 s0 v4 σ))
set_option maxRecDepth 100000 in
set_option maxHeartbeats 4000000 in
theorem s_N_S_sweep_b46 {g : GP} {l : Launch} {A : Nat → Nat → Nat} {X : va_W} {G : GT} {v9 : Int32} {s9 : CS} {d : Nat} (hd : d < 3) (hG : IsG g l yX7_sweep cX7_sweep 7 { frames := 2, cells := 0, slots := 0, locals := 85 } G) (K : ∀ L pc, decode cX7_sweep pc = .ok (.return_, 1) → G 0 0 (wC g A s9 X) L pc []) {ag3 : Int32 → Int32 → Int32 → Int32 → CS → Option (Int32 × CS)} (hag3 : ∀ (x1 : Int32) (x2 : Int32) (x3 : Int32) (x4 : Int32) (σ : CS), ag3 x1 x2 x3 x4 σ = some (v9, s9) → G 0 0 (wC g A σ X) [(0, .ref (A d 99)), (1, .int x1), (2, .int x2), (3, .int x3), (4, .int x4)] 3 []) {x1 : Int32} {x2 : Int32} {x3 : Int32} {x4 : Int32} {s0 : Int32} {σ : CS} (h : N_S_sweep_b46 d ag3 x1 x2 x3 x4 s0 σ = some (v9, s9)) : G 0 0 (wC g A σ X) [(0, .ref (A d 99)), (1, .int x1), (2, .int x2), (3, .int x3), (4, .int x4)] 46 [.int s0] := by
  unfold N_S_sweep_b46 at h
  refine g_istore hG dX7_sweep_46 (by decide) ?_
  refine g_iload_n hG dX7_sweep_48 rfl ?_
  refine g_iload hG dX7_sweep_49 rfl ?_
  refine g_iadd hG dX7_sweep_51 ?_
  obtain ⟨v4, e5, h⟩ := lt_ex h
  refine g_nam e5 ?_
  refine g_istore hG dX7_sweep_52 (by decide) ?_
  refine g_loc hG [(0, .ref (A d 99)), (1, .int x1), (2, .int x2), (3, .int x3), (4, .int x4), (5, .int s0), (6, .int v4)] ⟨rfl, rfl, rfl, rfl, rfl, rfl, rfl, trivial⟩ ?_
  exact s_N_S_sweep_b54 hd hG K hag3 FU _ _ _ _ _ _ _ h
def N_S_sweep_b3 (d : Nat) : Nat → Int32 → Int32 → Int32 → Int32 → CS → Option (Int32 × CS)
  | 0, _, _, _, _, _ => none
  | n + 1, x1, x2, x3, x4, σ => (if (1 : Int32) < x4 then (some ((0 : Int32), σ)) else (if ((x3 >>> (x4 &&& 31)) &&& (1 : Int32)) = 0 then (N_S_sweep_b124 d (N_S_sweep_b3 d  n) x1 x2 x3 x4 σ) else (if x3 = (3 : Int32) then (N_S_sweep_b46 d (N_S_sweep_b3 d  n) x1 x2 x3 x4 (σ.1 d 6) σ) else (ob (N_S_goers d x4 σ) fun v22 σ23 => (N_S_sweep_b46 d (N_S_sweep_b3 d  n) x1 x2 x3 x4 ((σ.1 d 6) &&& (v22 ^^^ (-1 : Int32))) σ23)))))
set_option maxRecDepth 100000 in
set_option maxHeartbeats 4000000 in
theorem s_N_S_sweep_b3 {g : GP} {l : Launch} {A : Nat → Nat → Nat} {X : va_W} {G : GT} {v9 : Int32} {s9 : CS} {d : Nat} (hd : d < 3) (hG : IsG g l yX7_sweep cX7_sweep 7 { frames := 2, cells := 0, slots := 0, locals := 85 } G) (K : ∀ L pc, decode cX7_sweep pc = .ok (.return_, 1) → G 0 0 (wC g A s9 X) L pc []) : ∀ (n : Nat) (x1 : Int32) (x2 : Int32) (x3 : Int32) (x4 : Int32) (σ : CS) (h : N_S_sweep_b3 d  n x1 x2 x3 x4 σ = some (v9, s9)), G 0 0 (wC g A σ X) [(0, .ref (A d 99)), (1, .int x1), (2, .int x2), (3, .int x3), (4, .int x4)] 3 [] := by
  intro n
  induction n with
  | zero => intro _ _ _ _ σ h; cases h
  | succ n ih =>
    intro x1 x2 x3 x4 σ h
    unfold N_S_sweep_b3 at h
    refine g_iload hG dX7_sweep_3 rfl ?_
    refine g_iconstv hG dX7_sweep_5 ki_1 ?_
    rcases if_some h with ⟨c1, h⟩ | ⟨c1, h⟩
    · refine g_icmp_gt (tgt := 130) hG dX7_sweep_6 rfl (fun _ => ?_) (fun q => absurd c1 q)
      cases h
      exact K _ _ dX7_sweep_130
    · refine g_icmp_gt (tgt := 130) hG dX7_sweep_6 rfl (fun q => absurd q c1) (fun _ => ?_)
      refine g_iload_n hG dX7_sweep_9 rfl ?_
      refine g_iload hG dX7_sweep_10 rfl ?_
      refine g_ishr hG dX7_sweep_12 ?_
      refine g_iconstv hG dX7_sweep_13 ki_1 ?_
      refine g_iand hG dX7_sweep_14 ?_
      rcases if_some h with ⟨c2, h⟩ | ⟨c2, h⟩
      · refine g_if_ne (tgt := 21) hG dX7_sweep_15 rfl (fun q => absurd c2 q) (fun _ => ?_)
        refine g_goto (tgt := 124) hG dX7_sweep_18 rfl ?_
        refine g_loc hG [(0, .ref (A d 99)), (1, .int x1), (2, .int x2), (3, .int x3), (4, .int x4)] ⟨rfl, rfl, rfl, rfl, rfl, trivial⟩ ?_
        exact s_N_S_sweep_b124 hd hG K ih h
      · refine g_if_ne (tgt := 21) hG dX7_sweep_15 rfl (fun _ => ?_) (fun q => absurd q c2)
        refine g_iload_n hG dX7_sweep_21 rfl ?_
        refine g_iconstv hG dX7_sweep_22 ki_3 ?_
        rcases if_some h with ⟨c3, h⟩ | ⟨c3, h⟩
        · refine g_icmp_ne (tgt := 33) hG dX7_sweep_23 rfl (fun q => absurd c3 q) (fun _ => ?_)
          refine g_aload_n hG dX7_sweep_26 rfl ?_
          refine g_get (f := 6) hG dX7_sweep_27 (eS hd) rfl inX7 (by decide) rfl f_X7_57 rfl ?_
          refine g_goto (tgt := 46) hG dX7_sweep_30 rfl ?_
          refine g_loc hG [(0, .ref (A d 99)), (1, .int x1), (2, .int x2), (3, .int x3), (4, .int x4)] ⟨rfl, rfl, rfl, rfl, rfl, trivial⟩ ?_
          exact s_N_S_sweep_b46 hd hG K ih h
        · refine g_icmp_ne (tgt := 33) hG dX7_sweep_23 rfl (fun _ => ?_) (fun q => absurd q c3)
          refine g_aload_n hG dX7_sweep_33 rfl ?_
          refine g_get (f := 6) hG dX7_sweep_34 (eS hd) rfl inX7 (by decide) rfl f_X7_57 rfl ?_
          refine g_aload_n hG dX7_sweep_37 rfl ?_
          refine g_iload hG dX7_sweep_38 rfl ?_
          obtain ⟨v22, σ23, q24, h⟩ := ob_some h
          refine g_cV hG dX7_sweep_40 (c_N_S_goers hd q24) b_X7_goers v_X7_132 rfl (eS hd) rfl ⟨Nat.le_of_ble_eq_true rfl, Nat.le_of_ble_eq_true rfl⟩ ⟨rfl, rfl⟩ ⟨Nat.zero_le _, Nat.zero_le _⟩ _ rfl (Nat.le_of_ble_eq_true rfl) ?_
          refine g_iconstv hG dX7_sweep_43 ki_m1 ?_
          refine g_ixor hG dX7_sweep_44 ?_
          refine g_iand hG dX7_sweep_45 ?_
          refine g_loc hG [(0, .ref (A d 99)), (1, .int x1), (2, .int x2), (3, .int x3), (4, .int x4)] ⟨rfl, rfl, rfl, rfl, rfl, trivial⟩ ?_
          exact s_N_S_sweep_b46 hd hG K ih h
def N_S_sweep (d : Nat) (x1 : Int32) (x2 : Int32) (x3 : Int32) (σ : CS) : Option (Int32 × CS) := (N_S_sweep_b3 d  FU x1 x2 x3 (0 : Int32) σ)
set_option maxRecDepth 100000 in
set_option maxHeartbeats 4000000 in
theorem c_N_S_sweep {g : GP} {l : Launch} {A : Nat → Nat → Nat} {X : va_W} {v9 : Int32} {s9 : CS} {d : Nat} (hd : d < 3) {x1 : Int32} {x2 : Int32} {x3 : Int32} {σ : CS} (h : N_S_sweep d x1 x2 x3 σ = some (v9, s9)) : CV g l yX7_sweep cX7_sweep 7 { frames := 2, cells := 0, slots := 0, locals := 85 } [.ref (A d 99), .int x1, .int x2, .int x3] (wC g A σ X) (fun w => w = wC g A s9 X) := by
  refine CV.mk (by decide) (Nat.le_of_ble_eq_true rfl) (fun G hG hret => ?_)
  have K : ∀ L pc, decode cX7_sweep pc = .ok (.return_, 1) → G 0 0 (wC g A s9 X) L pc [] := fun L pc d => hret _ L pc d rfl
  unfold N_S_sweep at h
  refine g_iconstv hG dX7_sweep_0 ki_0 ?_
  refine g_istore hG dX7_sweep_1 (by decide) ?_
  refine g_loc hG [(0, .ref (A d 99)), (1, .int x1), (2, .int x2), (3, .int x3), (4, .int (0 : Int32))] ⟨rfl, rfl, rfl, rfl, rfl, trivial⟩ ?_
  exact s_N_S_sweep_b3 hd hG K FU _ _ _ _ _ h
def N_S_passPart_b47 (d : Nat) : Nat → Int32 → Int32 → Int32 → Int32 → CS → Option (Int32 × CS)
  | 0, _, _, _, _, _ => none
  | n + 1, x1, x2, x3, x4, σ => (if x2 ≤ x4 then (ob (N_S_sweep d x1 x2 x3 σ) fun v5 σ6 => (lt (si σ6 d 7 ((σ6.1 d 7) + (1 : Int32))) fun σ8 => (some ((0 : Int32), σ8)))) else (gd (inb x4 12) (lt (((σ.2.1 d 3 (ix x4)) * (σ.1 d 8)) / (20 : Int32)) fun v11 => (gd (inb x4 12) (gd (inb x4 12) (lt (sa σ d 3 (upd (σ.2.1 d 3) (ix x4) ((σ.2.1 d 3 (ix x4)) - v11))) fun σ14 => (gd (inb (x4 - (1 : Int32)) 12) (gd (inb (x4 - (1 : Int32)) 12) (lt (sa σ14 d 3 (upd (σ14.2.1 d 3) (ix (x4 - (1 : Int32))) (if ((σ14.2.1 d 3 (ix (x4 - (1 : Int32)))) + v11) < (999 : Int32) then ((σ14.2.1 d 3 (ix (x4 - (1 : Int32)))) + v11) else (999 : Int32)))) fun σ18 => ((N_S_passPart_b47 d  n) x1 x2 x3 (x4 + (2 : Int32)) σ18))))))))))
set_option maxRecDepth 100000 in
set_option maxHeartbeats 4000000 in
theorem s_N_S_passPart_b47 {g : GP} {l : Launch} {A : Nat → Nat → Nat} {X : va_W} {G : GT} {v9 : Int32} {s9 : CS} {d : Nat} (hd : d < 3) (hG : IsG g l yX7_passPart cX7_passPart 6 { frames := 3, cells := 0, slots := 0, locals := 112 } G) (K : ∀ L pc, decode cX7_passPart pc = .ok (.return_, 1) → G 0 0 (wC g A s9 X) L pc []) : ∀ (n : Nat) (x1 : Int32) (x2 : Int32) (x3 : Int32) (x4 : Int32) (σ : CS) (h : N_S_passPart_b47 d  n x1 x2 x3 x4 σ = some (v9, s9)), G 0 0 (wC g A σ X) [(0, .ref (A d 99)), (1, .int x1), (2, .int x2), (3, .int x3), (4, .int x4)] 47 [] := by
  intro n
  induction n with
  | zero => intro _ _ _ _ σ h; cases h
  | succ n ih =>
    intro x1 x2 x3 x4 σ h
    unfold N_S_passPart_b47 at h
    refine g_iload hG dX7_passPart_47 rfl ?_
    refine g_iload_n hG dX7_passPart_49 rfl ?_
    rcases if_some h with ⟨c4, h⟩ | ⟨c4, h⟩
    · refine g_icmp_ge (tgt := 115) hG dX7_passPart_50 rfl (fun _ => ?_) (fun q => absurd c4 q)
      refine g_aload_n hG dX7_passPart_115 rfl ?_
      refine g_iload_n hG dX7_passPart_116 rfl ?_
      refine g_iload_n hG dX7_passPart_117 rfl ?_
      refine g_iload_n hG dX7_passPart_118 rfl ?_
      obtain ⟨v5, σ6, q7, h⟩ := ob_some h
      refine g_cVv hG dX7_passPart_119 (c_N_S_sweep hd q7) b_X7_sweep v_X7_129 rfl (eS hd) rfl ⟨Nat.le_of_ble_eq_true rfl, Nat.le_of_ble_eq_true rfl⟩ ⟨rfl, rfl⟩ ⟨Nat.zero_le _, Nat.zero_le _⟩ _ rfl (Nat.le_of_ble_eq_true rfl) ?_
      refine g_aload_n hG dX7_passPart_122 rfl ?_
      refine g_dup hG dX7_passPart_123 rfl ?_
      refine g_get (f := 7) hG dX7_passPart_124 (eS hd) rfl inX7 (by decide) rfl f_X7_60 rfl ?_
      refine g_iconstv hG dX7_passPart_127 ki_1 ?_
      refine g_iadd hG dX7_passPart_128 ?_
      obtain ⟨σ8, e9, h⟩ := lt_ex h
      refine t_put 7 hG hd e9 dX7_passPart_129 f_X7_60 (by decide) (by decide) rfl rfl rfl ?_
      cases h
      exact K _ _ dX7_passPart_132
    · refine g_icmp_ge (tgt := 115) hG dX7_passPart_50 rfl (fun q => absurd q c4) (fun _ => ?_)
      refine g_aload_n hG dX7_passPart_53 rfl ?_
      refine g_get (f := 3) hG dX7_passPart_54 (eS hd) rfl inX7 (by decide) rfl f_X7_18 rfl ?_
      refine g_iload hG dX7_passPart_57 rfl ?_
      obtain ⟨b10, h⟩ := gd_some h
      refine c_iald hG dX7_passPart_59 (aS3 hd) b10 rfl ?_
      refine g_aload_n hG dX7_passPart_60 rfl ?_
      refine g_get (f := 8) hG dX7_passPart_61 (eS hd) rfl inX7 (by decide) rfl f_X7_63 rfl ?_
      refine g_imul hG dX7_passPart_64 ?_
      refine g_bipushv hG dX7_passPart_65 kb_20 ?_
      refine g_idiv hG dX7_passPart_67 (by decide) ?_
      obtain ⟨v11, e12, h⟩ := lt_ex h
      refine g_nam e12 ?_
      refine g_istore hG dX7_passPart_68 (by decide) ?_
      refine g_aload_n hG dX7_passPart_70 rfl ?_
      refine g_get (f := 3) hG dX7_passPart_71 (eS hd) rfl inX7 (by decide) rfl f_X7_18 rfl ?_
      refine g_iload hG dX7_passPart_74 rfl ?_
      refine g_dup2 hG dX7_passPart_76 rfl rfl ?_
      obtain ⟨b13, h⟩ := gd_some h
      refine c_iald hG dX7_passPart_77 (aS3 hd) b13 rfl ?_
      refine g_iload hG dX7_passPart_78 rfl ?_
      refine g_isub hG dX7_passPart_80 ?_
      obtain ⟨b16, h⟩ := gd_some h
      obtain ⟨σ14, e15, h⟩ := lt_ex h
      refine c_iast hG e15 dX7_passPart_81 (aS3 hd) b16 rfl ?_
      refine g_aload_n hG dX7_passPart_82 rfl ?_
      refine g_get (f := 3) hG dX7_passPart_83 (eS hd) rfl inX7 (by decide) rfl f_X7_18 rfl ?_
      refine g_iload hG dX7_passPart_86 rfl ?_
      refine g_iconstv hG dX7_passPart_88 ki_1 ?_
      refine g_isub hG dX7_passPart_89 ?_
      refine g_sipushv hG dX7_passPart_90 ks_999 ?_
      refine g_aload_n hG dX7_passPart_93 rfl ?_
      refine g_get (f := 3) hG dX7_passPart_94 (eS hd) rfl inX7 (by decide) rfl f_X7_18 rfl ?_
      refine g_iload hG dX7_passPart_97 rfl ?_
      refine g_iconstv hG dX7_passPart_99 ki_1 ?_
      refine g_isub hG dX7_passPart_100 ?_
      obtain ⟨b17, h⟩ := gd_some h
      refine c_iald hG dX7_passPart_101 (aS3 hd) b17 rfl ?_
      refine g_iload hG dX7_passPart_102 rfl ?_
      refine g_iadd hG dX7_passPart_104 ?_
      refine g_min hG dX7_passPart_105 v_X7_123 st_min in_Math co_min (Nat.le_of_ble_eq_true rfl) (Nat.le_of_ble_eq_true rfl) (Nat.zero_le _) (Nat.zero_le _) ?_
      obtain ⟨b20, h⟩ := gd_some h
      obtain ⟨σ18, e19, h⟩ := lt_ex h
      refine c_iast hG e19 dX7_passPart_108 (aS3 hd) b20 rfl ?_
      refine g_iincv (c := (2 : Int32)) hG dX7_passPart_109 rfl (by decide) (by decide) ?_
      refine g_goto (tgt := 47) hG dX7_passPart_112 rfl ?_
      refine g_loc hG [(0, .ref (A d 99)), (1, .int x1), (2, .int x2), (3, .int x3), (4, .int (x4 + (2 : Int32)))] ⟨rfl, rfl, rfl, rfl, rfl, trivial⟩ ?_
      exact ih _ _ _ _ _ h
def N_S_passPart_b3 (d : Nat) : Nat → Int32 → Int32 → Int32 → Int32 → CS → Option (Int32 × CS)
  | 0, _, _, _, _, _ => none
  | n + 1, x1, x2, x3, x4, σ => (if x2 ≤ x4 then (lt (x1 + (1 : Int32)) fun v2 => (N_S_passPart_b47 d  FU x1 x2 x3 v2 σ)) else (gd (inb x4 12) (ob (N_S_fallsNow d x4 σ) fun v22 σ23 => (gd (inb x4 12) (lt (sa σ23 d 3 (upd (σ23.2.1 d 3) (ix x4) (if ((σ.2.1 d 3 (ix x4)) + v22) < (999 : Int32) then ((σ.2.1 d 3 (ix x4)) + v22) else (999 : Int32)))) fun σ25 => ((N_S_passPart_b3 d  n) x1 x2 x3 (x4 + (1 : Int32)) σ25))))))
set_option maxRecDepth 100000 in
set_option maxHeartbeats 4000000 in
theorem s_N_S_passPart_b3 {g : GP} {l : Launch} {A : Nat → Nat → Nat} {X : va_W} {G : GT} {v9 : Int32} {s9 : CS} {d : Nat} (hd : d < 3) (hG : IsG g l yX7_passPart cX7_passPart 6 { frames := 3, cells := 0, slots := 0, locals := 112 } G) (K : ∀ L pc, decode cX7_passPart pc = .ok (.return_, 1) → G 0 0 (wC g A s9 X) L pc []) : ∀ (n : Nat) (x1 : Int32) (x2 : Int32) (x3 : Int32) (x4 : Int32) (σ : CS) (h : N_S_passPart_b3 d  n x1 x2 x3 x4 σ = some (v9, s9)), G 0 0 (wC g A σ X) [(0, .ref (A d 99)), (1, .int x1), (2, .int x2), (3, .int x3), (4, .int x4)] 3 [] := by
  intro n
  induction n with
  | zero => intro _ _ _ _ σ h; cases h
  | succ n ih =>
    intro x1 x2 x3 x4 σ h
    unfold N_S_passPart_b3 at h
    refine g_iload hG dX7_passPart_3 rfl ?_
    refine g_iload_n hG dX7_passPart_5 rfl ?_
    rcases if_some h with ⟨c1, h⟩ | ⟨c1, h⟩
    · refine g_icmp_ge (tgt := 42) hG dX7_passPart_6 rfl (fun _ => ?_) (fun q => absurd c1 q)
      refine g_iload_n hG dX7_passPart_42 rfl ?_
      refine g_iconstv hG dX7_passPart_43 ki_1 ?_
      refine g_iadd hG dX7_passPart_44 ?_
      obtain ⟨v2, e3, h⟩ := lt_ex h
      refine g_nam e3 ?_
      refine g_istore hG dX7_passPart_45 (by decide) ?_
      refine g_loc hG [(0, .ref (A d 99)), (1, .int x1), (2, .int x2), (3, .int x3), (4, .int v2)] ⟨rfl, rfl, rfl, rfl, rfl, trivial⟩ ?_
      exact s_N_S_passPart_b47 hd hG K FU _ _ _ _ _ h
    · refine g_icmp_ge (tgt := 42) hG dX7_passPart_6 rfl (fun q => absurd q c1) (fun _ => ?_)
      refine g_aload_n hG dX7_passPart_9 rfl ?_
      refine g_get (f := 3) hG dX7_passPart_10 (eS hd) rfl inX7 (by decide) rfl f_X7_18 rfl ?_
      refine g_iload hG dX7_passPart_13 rfl ?_
      refine g_sipushv hG dX7_passPart_15 ks_999 ?_
      refine g_aload_n hG dX7_passPart_18 rfl ?_
      refine g_get (f := 3) hG dX7_passPart_19 (eS hd) rfl inX7 (by decide) rfl f_X7_18 rfl ?_
      refine g_iload hG dX7_passPart_22 rfl ?_
      obtain ⟨b21, h⟩ := gd_some h
      refine c_iald hG dX7_passPart_24 (aS3 hd) b21 rfl ?_
      refine g_aload_n hG dX7_passPart_25 rfl ?_
      refine g_iload hG dX7_passPart_26 rfl ?_
      obtain ⟨v22, σ23, q24, h⟩ := ob_some h
      refine g_cV hG dX7_passPart_28 (c_N_S_fallsNow hd q24) b_X7_fallsNow v_X7_126 rfl (eS hd) rfl ⟨Nat.le_of_ble_eq_true rfl, Nat.le_of_ble_eq_true rfl⟩ ⟨rfl, rfl⟩ ⟨Nat.zero_le _, Nat.zero_le _⟩ _ rfl (Nat.le_of_ble_eq_true rfl) ?_
      refine g_iadd hG dX7_passPart_31 ?_
      refine g_min hG dX7_passPart_32 v_X7_123 st_min in_Math co_min (Nat.le_of_ble_eq_true rfl) (Nat.le_of_ble_eq_true rfl) (Nat.zero_le _) (Nat.zero_le _) ?_
      obtain ⟨b27, h⟩ := gd_some h
      obtain ⟨σ25, e26, h⟩ := lt_ex h
      refine c_iast hG e26 dX7_passPart_35 (aS3 hd) b27 rfl ?_
      refine g_iincv (c := (1 : Int32)) hG dX7_passPart_36 rfl (by decide) (by decide) ?_
      refine g_goto (tgt := 3) hG dX7_passPart_39 rfl ?_
      refine g_loc hG [(0, .ref (A d 99)), (1, .int x1), (2, .int x2), (3, .int x3), (4, .int (x4 + (1 : Int32)))] ⟨rfl, rfl, rfl, rfl, rfl, trivial⟩ ?_
      exact ih _ _ _ _ _ h
def N_S_passPart (d : Nat) (x1 : Int32) (x2 : Int32) (x3 : Int32) (σ : CS) : Option (Int32 × CS) := (N_S_passPart_b3 d  FU x1 x2 x3 x1 σ)
set_option maxRecDepth 100000 in
set_option maxHeartbeats 4000000 in
theorem c_N_S_passPart {g : GP} {l : Launch} {A : Nat → Nat → Nat} {X : va_W} {v9 : Int32} {s9 : CS} {d : Nat} (hd : d < 3) {x1 : Int32} {x2 : Int32} {x3 : Int32} {σ : CS} (h : N_S_passPart d x1 x2 x3 σ = some (v9, s9)) : CV g l yX7_passPart cX7_passPart 6 { frames := 3, cells := 0, slots := 0, locals := 112 } [.ref (A d 99), .int x1, .int x2, .int x3] (wC g A σ X) (fun w => w = wC g A s9 X) := by
  refine CV.mk (by decide) (Nat.le_of_ble_eq_true rfl) (fun G hG hret => ?_)
  have K : ∀ L pc, decode cX7_passPart pc = .ok (.return_, 1) → G 0 0 (wC g A s9 X) L pc [] := fun L pc d => hret _ L pc d rfl
  unfold N_S_passPart at h
  refine g_iload_n hG dX7_passPart_0 rfl ?_
  refine g_istore hG dX7_passPart_1 (by decide) ?_
  refine g_loc hG [(0, .ref (A d 99)), (1, .int x1), (2, .int x2), (3, .int x3), (4, .int x1)] ⟨rfl, rfl, rfl, rfl, rfl, trivial⟩ ?_
  exact s_N_S_passPart_b3 hd hG K FU _ _ _ _ _ h
def N_S_passAll_b2 (d : Nat) : Nat → Int32 → Int32 → CS → Option (Int32 × CS)
  | 0, _, _, _ => none
  | n + 1, x1, x2, σ => (if x1 ≤ x2 then (some ((0 : Int32), σ)) else (ob (N_S_signedNow d  σ) fun v2 σ3 => (ob (N_S_passPart d (0 : Int32) (σ.1 d 5) v2 σ3) fun v5 σ6 => ((N_S_passAll_b2 d  n) x1 (x2 + (1 : Int32)) σ6))))
set_option maxRecDepth 100000 in
set_option maxHeartbeats 4000000 in
theorem s_N_S_passAll_b2 {g : GP} {l : Launch} {A : Nat → Nat → Nat} {X : va_W} {G : GT} {v9 : Int32} {s9 : CS} {d : Nat} (hd : d < 3) (hG : IsG g l yX7_passAll cX7_passAll 3 { frames := 4, cells := 0, slots := 0, locals := 137 } G) (K : ∀ L pc, decode cX7_passAll pc = .ok (.return_, 1) → G 0 0 (wC g A s9 X) L pc []) : ∀ (n : Nat) (x1 : Int32) (x2 : Int32) (σ : CS) (h : N_S_passAll_b2 d  n x1 x2 σ = some (v9, s9)), G 0 0 (wC g A σ X) [(0, .ref (A d 99)), (1, .int x1), (2, .int x2)] 2 [] := by
  intro n
  induction n with
  | zero => intro _ _ σ h; cases h
  | succ n ih =>
    intro x1 x2 σ h
    unfold N_S_passAll_b2 at h
    refine g_iload_n hG dX7_passAll_2 rfl ?_
    refine g_iload_n hG dX7_passAll_3 rfl ?_
    rcases if_some h with ⟨c1, h⟩ | ⟨c1, h⟩
    · refine g_icmp_ge (tgt := 26) hG dX7_passAll_4 rfl (fun _ => ?_) (fun q => absurd c1 q)
      cases h
      exact K _ _ dX7_passAll_26
    · refine g_icmp_ge (tgt := 26) hG dX7_passAll_4 rfl (fun q => absurd q c1) (fun _ => ?_)
      refine g_aload_n hG dX7_passAll_7 rfl ?_
      refine g_iconstv hG dX7_passAll_8 ki_0 ?_
      refine g_aload_n hG dX7_passAll_9 rfl ?_
      refine g_get (f := 5) hG dX7_passAll_10 (eS hd) rfl inX7 (by decide) rfl f_X7_54 rfl ?_
      refine g_aload_n hG dX7_passAll_13 rfl ?_
      obtain ⟨v2, σ3, q4, h⟩ := ob_some h
      refine g_cV hG dX7_passAll_14 (c_N_S_signedNow hd q4) b_X7_signedNow v_X7_115 rfl (eS hd) rfl ⟨Nat.le_of_ble_eq_true rfl, Nat.le_of_ble_eq_true rfl⟩ ⟨rfl, rfl⟩ ⟨Nat.zero_le _, Nat.zero_le _⟩ _ rfl (Nat.le_of_ble_eq_true rfl) ?_
      obtain ⟨v5, σ6, q7, h⟩ := ob_some h
      refine g_cVv hG dX7_passAll_17 (c_N_S_passPart hd q7) b_X7_passPart v_X7_119 rfl (eS hd) rfl ⟨Nat.le_of_ble_eq_true rfl, Nat.le_of_ble_eq_true rfl⟩ ⟨rfl, rfl⟩ ⟨Nat.zero_le _, Nat.zero_le _⟩ _ rfl (Nat.le_of_ble_eq_true rfl) ?_
      refine g_iincv (c := (1 : Int32)) hG dX7_passAll_20 rfl (by decide) (by decide) ?_
      refine g_goto (tgt := 2) hG dX7_passAll_23 rfl ?_
      refine g_loc hG [(0, .ref (A d 99)), (1, .int x1), (2, .int (x2 + (1 : Int32)))] ⟨rfl, rfl, rfl, trivial⟩ ?_
      exact ih _ _ _ h
def N_S_passAll (d : Nat) (x1 : Int32) (σ : CS) : Option (Int32 × CS) := (N_S_passAll_b2 d  FU x1 (0 : Int32) σ)
set_option maxRecDepth 100000 in
set_option maxHeartbeats 4000000 in
theorem c_N_S_passAll {g : GP} {l : Launch} {A : Nat → Nat → Nat} {X : va_W} {v9 : Int32} {s9 : CS} {d : Nat} (hd : d < 3) {x1 : Int32} {σ : CS} (h : N_S_passAll d x1 σ = some (v9, s9)) : CV g l yX7_passAll cX7_passAll 3 { frames := 4, cells := 0, slots := 0, locals := 137 } [.ref (A d 99), .int x1] (wC g A σ X) (fun w => w = wC g A s9 X) := by
  refine CV.mk (by decide) (Nat.le_of_ble_eq_true rfl) (fun G hG hret => ?_)
  have K : ∀ L pc, decode cX7_passAll pc = .ok (.return_, 1) → G 0 0 (wC g A s9 X) L pc [] := fun L pc d => hret _ L pc d rfl
  unfold N_S_passAll at h
  refine g_iconstv hG dX7_passAll_0 ki_0 ?_
  refine g_istore_n hG dX7_passAll_1 (by decide) ?_
  refine g_loc hG [(0, .ref (A d 99)), (1, .int x1), (2, .int (0 : Int32))] ⟨rfl, rfl, rfl, trivial⟩ ?_
  exact s_N_S_passAll_b2 hd hG K FU _ _ _ h
def N_S_dirtBehind_b21 (d : Nat) : Nat → Int32 → Int32 → Int32 → Int32 → Int32 → CS → Option (Int32 × CS)
  | 0, _, _, _, _, _, _ => none
  | n + 1, x1, x2, x3, x4, x5, σ => (if x1 ≤ x5 then (gd (inb x2 12) (some ((σ.2.1 d 3 (ix x2)), σ))) else (ob (N_S_signedNow d  σ) fun v7 σ8 => (ob (N_S_passPart d x3 x4 v7 σ8) fun v10 σ11 => ((N_S_dirtBehind_b21 d  n) x1 x2 x3 x4 (x5 + (1 : Int32)) σ11))))
set_option maxRecDepth 100000 in
set_option maxHeartbeats 4000000 in
theorem s_N_S_dirtBehind_b21 {g : GP} {l : Launch} {A : Nat → Nat → Nat} {X : va_W} {G : GT} {v9 : Int32} {s9 : CS} {d : Nat} (hd : d < 3) (hG : IsG g l yX7_dirtBehind cX7_dirtBehind 6 { frames := 4, cells := 0, slots := 0, locals := 137 } G) (K : ∀ L pc, decode cX7_dirtBehind pc = .ok (.ireturn, 1) → G 0 0 (wC g A s9 X) L pc [.int v9]) : ∀ (n : Nat) (x1 : Int32) (x2 : Int32) (x3 : Int32) (x4 : Int32) (x5 : Int32) (σ : CS) (h : N_S_dirtBehind_b21 d  n x1 x2 x3 x4 x5 σ = some (v9, s9)), G 0 0 (wC g A σ X) [(0, .ref (A d 99)), (1, .int x1), (2, .int x2), (3, .int x3), (4, .int x4), (5, .int x5)] 21 [] := by
  intro n
  induction n with
  | zero => intro _ _ _ _ _ σ h; cases h
  | succ n ih =>
    intro x1 x2 x3 x4 x5 σ h
    unfold N_S_dirtBehind_b21 at h
    refine g_iload hG dX7_dirtBehind_21 rfl ?_
    refine g_iload_n hG dX7_dirtBehind_23 rfl ?_
    rcases if_some h with ⟨c5, h⟩ | ⟨c5, h⟩
    · refine g_icmp_ge (tgt := 44) hG dX7_dirtBehind_24 rfl (fun _ => ?_) (fun q => absurd c5 q)
      refine g_aload_n hG dX7_dirtBehind_44 rfl ?_
      refine g_get (f := 3) hG dX7_dirtBehind_45 (eS hd) rfl inX7 (by decide) rfl f_X7_18 rfl ?_
      refine g_iload_n hG dX7_dirtBehind_48 rfl ?_
      obtain ⟨b6, h⟩ := gd_some h
      refine c_iald hG dX7_dirtBehind_49 (aS3 hd) b6 rfl ?_
      cases h
      exact K _ _ dX7_dirtBehind_50
    · refine g_icmp_ge (tgt := 44) hG dX7_dirtBehind_24 rfl (fun q => absurd q c5) (fun _ => ?_)
      refine g_aload_n hG dX7_dirtBehind_27 rfl ?_
      refine g_iload_n hG dX7_dirtBehind_28 rfl ?_
      refine g_iload hG dX7_dirtBehind_29 rfl ?_
      refine g_aload_n hG dX7_dirtBehind_31 rfl ?_
      obtain ⟨v7, σ8, q9, h⟩ := ob_some h
      refine g_cV hG dX7_dirtBehind_32 (c_N_S_signedNow hd q9) b_X7_signedNow v_X7_115 rfl (eS hd) rfl ⟨Nat.le_of_ble_eq_true rfl, Nat.le_of_ble_eq_true rfl⟩ ⟨rfl, rfl⟩ ⟨Nat.zero_le _, Nat.zero_le _⟩ _ rfl (Nat.le_of_ble_eq_true rfl) ?_
      obtain ⟨v10, σ11, q12, h⟩ := ob_some h
      refine g_cVv hG dX7_dirtBehind_35 (c_N_S_passPart hd q12) b_X7_passPart v_X7_119 rfl (eS hd) rfl ⟨Nat.le_of_ble_eq_true rfl, Nat.le_of_ble_eq_true rfl⟩ ⟨rfl, rfl⟩ ⟨Nat.zero_le _, Nat.zero_le _⟩ _ rfl (Nat.le_of_ble_eq_true rfl) ?_
      refine g_iincv (c := (1 : Int32)) hG dX7_dirtBehind_38 rfl (by decide) (by decide) ?_
      refine g_goto (tgt := 21) hG dX7_dirtBehind_41 rfl ?_
      refine g_loc hG [(0, .ref (A d 99)), (1, .int x1), (2, .int x2), (3, .int x3), (4, .int x4), (5, .int (x5 + (1 : Int32)))] ⟨rfl, rfl, rfl, rfl, rfl, rfl, trivial⟩ ?_
      exact ih _ _ _ _ _ _ h
def N_S_dirtBehind (d : Nat) (x1 : Int32) (x2 : Int32) (σ : CS) : Option (Int32 × CS) := (lt (x2 - (irm x2 (2 : Int32))) fun v1 => (lt (if (σ.1 d 5) < (v1 + (2 : Int32)) then (σ.1 d 5) else (v1 + (2 : Int32))) fun v3 => (N_S_dirtBehind_b21 d  FU x1 x2 v1 v3 (0 : Int32) σ)))
set_option maxRecDepth 100000 in
set_option maxHeartbeats 4000000 in
theorem c_N_S_dirtBehind {g : GP} {l : Launch} {A : Nat → Nat → Nat} {X : va_W} {v9 : Int32} {s9 : CS} {d : Nat} (hd : d < 3) {x1 : Int32} {x2 : Int32} {σ : CS} (h : N_S_dirtBehind d x1 x2 σ = some (v9, s9)) : CI g l yX7_dirtBehind cX7_dirtBehind 6 (some .int) { frames := 4, cells := 0, slots := 0, locals := 137 } [.ref (A d 99), .int x1, .int x2] (wC g A σ X) (fun r0 w => r0 = v9 ∧ w = wC g A s9 X) := by
  refine CI.mk (by decide) (Nat.le_of_ble_eq_true rfl) (fun G hG hret => ?_)
  have K : ∀ L pc, decode cX7_dirtBehind pc = .ok (.ireturn, 1) → G 0 0 (wC g A s9 X) L pc [.int v9] := fun L pc d => hret _ L pc v9 d rfl ⟨rfl, rfl⟩
  unfold N_S_dirtBehind at h
  refine g_iload_n hG dX7_dirtBehind_0 rfl ?_
  refine g_iload_n hG dX7_dirtBehind_1 rfl ?_
  refine g_iconstv hG dX7_dirtBehind_2 ki_2 ?_
  refine g_irm hG dX7_dirtBehind_3 (by decide) ?_
  refine g_isub hG dX7_dirtBehind_4 ?_
  obtain ⟨v1, e2, h⟩ := lt_ex h
  refine g_nam e2 ?_
  refine g_istore_n hG dX7_dirtBehind_5 (by decide) ?_
  refine g_iload_n hG dX7_dirtBehind_6 rfl ?_
  refine g_iconstv hG dX7_dirtBehind_7 ki_2 ?_
  refine g_iadd hG dX7_dirtBehind_8 ?_
  refine g_aload_n hG dX7_dirtBehind_9 rfl ?_
  refine g_get (f := 5) hG dX7_dirtBehind_10 (eS hd) rfl inX7 (by decide) rfl f_X7_54 rfl ?_
  refine g_min hG dX7_dirtBehind_13 v_X7_123 st_min in_Math co_min (Nat.le_of_ble_eq_true rfl) (Nat.le_of_ble_eq_true rfl) (Nat.zero_le _) (Nat.zero_le _) ?_
  obtain ⟨v3, e4, h⟩ := lt_ex h
  refine g_nam e4 ?_
  refine g_istore hG dX7_dirtBehind_16 (by decide) ?_
  refine g_iconstv hG dX7_dirtBehind_18 ki_0 ?_
  refine g_istore hG dX7_dirtBehind_19 (by decide) ?_
  refine g_loc hG [(0, .ref (A d 99)), (1, .int x1), (2, .int x2), (3, .int v1), (4, .int v3), (5, .int (0 : Int32))] ⟨rfl, rfl, rfl, rfl, rfl, rfl, trivial⟩ ?_
  exact s_N_S_dirtBehind_b21 hd hG K FU _ _ _ _ _ _ h
