def N_T_dirtWithout (x1 : Int32) (x2 : Int32) (x3 : Int32) (σ : CS) : Option (Int32 × CS) := (ob (N_S_thinkOf 1 0  σ) fun v1 σ2 => (lt (si σ2 1 6 ((σ2.1 1 6) &&& (x1 ^^^ (-1 : Int32)))) fun σ4 => (ob (N_S_dirtBehind 1 x3 x2 σ4) fun v6 σ7 => (some (v6, σ7)))))
set_option maxRecDepth 100000 in
set_option maxHeartbeats 4000000 in
theorem c_N_T_dirtWithout {g : GP} {l : Launch} {A : Nat → Nat → Nat} {X : va_W} {v9 : Int32} {s9 : CS} {x1 : Int32} {x2 : Int32} {x3 : Int32} {σ : CS} (h : N_T_dirtWithout x1 x2 x3 σ = some (v9, s9)) : CI g l yX11_dirtWithout cX11_dirtWithout 4 (some .int) { frames := 5, cells := 0, slots := 0, locals := 162 } [.ref (A 5 99), .int x1, .int x2, .int x3] (wC g A σ X) (fun r0 w => r0 = v9 ∧ w = wC g A s9 X) := by
  refine CI.mk (by decide) (Nat.le_of_ble_eq_true rfl) (fun G hG hret => ?_)
  have K : ∀ L pc, decode cX11_dirtWithout pc = .ok (.ireturn, 1) → G 0 0 (wC g A s9 X) L pc [.int v9] := fun L pc d => hret _ L pc v9 d rfl ⟨rfl, rfl⟩
  unfold N_T_dirtWithout at h
  refine g_aload_n hG dX11_dirtWithout_0 rfl ?_
  refine g_get (f := 1) hG dX11_dirtWithout_1 (eT g A _ X) rfl inX11 (by decide) rfl f_X11_44 rfl ?_
  refine g_aload_n hG dX11_dirtWithout_4 rfl ?_
  refine g_get (f := 0) hG dX11_dirtWithout_5 (eT g A _ X) rfl inX11 (by decide) rfl f_X11_40 rfl ?_
  obtain ⟨v1, σ2, q3, h⟩ := ob_some h
  refine g_cVv hG dX11_dirtWithout_8 (c_N_S_thinkOf (by decide) (by decide) q3) b_X7_thinkOf v_X11_198 rfl (eS (by decide)) rfl ⟨Nat.le_of_ble_eq_true rfl, Nat.le_of_ble_eq_true rfl⟩ ⟨rfl, rfl⟩ ⟨Nat.zero_le _, Nat.zero_le _⟩ _ rfl (Nat.le_of_ble_eq_true rfl) ?_
  refine g_aload_n hG dX11_dirtWithout_11 rfl ?_
  refine g_get (f := 1) hG dX11_dirtWithout_12 (eT g A _ X) rfl inX11 (by decide) rfl f_X11_44 rfl ?_
  refine g_dup hG dX11_dirtWithout_15 rfl ?_
  refine g_getN (f := 6) hG dX11_dirtWithout_16 (eS (by decide)) rfl inX7 (by decide) rfl f_X11_236 rfl ?_
  refine g_iload_n hG dX11_dirtWithout_19 rfl ?_
  refine g_iconstv hG dX11_dirtWithout_20 ki_m1 ?_
  refine g_ixor hG dX11_dirtWithout_21 ?_
  refine g_iand hG dX11_dirtWithout_22 ?_
  obtain ⟨σ4, e5, h⟩ := lt_ex h
  refine t_putN 6 hG (by decide) e5 dX11_dirtWithout_23 f_X11_236 (by decide) (by decide) rfl rfl rfl ?_
  refine g_aload_n hG dX11_dirtWithout_26 rfl ?_
  refine g_get (f := 1) hG dX11_dirtWithout_27 (eT g A _ X) rfl inX11 (by decide) rfl f_X11_44 rfl ?_
  refine g_iload_n hG dX11_dirtWithout_30 rfl ?_
  refine g_iload_n hG dX11_dirtWithout_31 rfl ?_
  obtain ⟨v6, σ7, q8, h⟩ := ob_some h
  refine g_cV hG dX11_dirtWithout_32 (c_N_S_dirtBehind (by decide) q8) b_X7_dirtBehind v_X11_202 rfl (eS (by decide)) rfl ⟨Nat.le_of_ble_eq_true rfl, Nat.le_of_ble_eq_true rfl⟩ ⟨rfl, rfl⟩ ⟨Nat.zero_le _, Nat.zero_le _⟩ _ rfl (Nat.le_of_ble_eq_true rfl) ?_
  cases h
  exact K _ _ dX11_dirtWithout_35
def N_T_leastPairToTow_b66 (ag3 : Int32 → Int32 → Int32 → Int32 → CS → Option (Int32 × CS)) (ag18 : Int32 → Int32 → Int32 → Int32 → Int32 → CS → Option (Int32 × CS)) (x1 : Int32) (x2 : Int32) (x3 : Int32) (x4 : Int32) (x5 : Int32) (σ : CS) : Option (Int32 × CS) := (ag18 x1 x2 x3 x4 (x5 + (1 : Int32)) σ)
set_option maxRecDepth 100000 in
set_option maxHeartbeats 4000000 in
theorem s_N_T_leastPairToTow_b66 {g : GP} {l : Launch} {A : Nat → Nat → Nat} {X : va_W} {G : GT} {v9 : Int32} {s9 : CS} (hG : IsG g l yX11_leastPairToTow cX11_leastPairToTow 7 { frames := 6, cells := 0, slots := 0, locals := 185 } G) (K : ∀ L pc, decode cX11_leastPairToTow pc = .ok (.ireturn, 1) → G 0 0 (wC g A s9 X) L pc [.int v9]) {ag3 : Int32 → Int32 → Int32 → Int32 → CS → Option (Int32 × CS)} (hag3 : ∀ (x1 : Int32) (x2 : Int32) (x3 : Int32) (x4 : Int32) (σ : CS), ag3 x1 x2 x3 x4 σ = some (v9, s9) → G 0 0 (wC g A σ X) [(0, .ref (A 5 99)), (1, .int x1), (2, .int x2), (3, .int x3), (4, .int x4)] 3 []) {ag18 : Int32 → Int32 → Int32 → Int32 → Int32 → CS → Option (Int32 × CS)} (hag18 : ∀ (x1 : Int32) (x2 : Int32) (x3 : Int32) (x4 : Int32) (x5 : Int32) (σ : CS), ag18 x1 x2 x3 x4 x5 σ = some (v9, s9) → G 0 0 (wC g A σ X) [(0, .ref (A 5 99)), (1, .int x1), (2, .int x2), (3, .int x3), (4, .int x4), (5, .int x5)] 18 []) {x1 : Int32} {x2 : Int32} {x3 : Int32} {x4 : Int32} {x5 : Int32} {σ : CS} (h : N_T_leastPairToTow_b66 ag3 ag18 x1 x2 x3 x4 x5 σ = some (v9, s9)) : G 0 0 (wC g A σ X) [(0, .ref (A 5 99)), (1, .int x1), (2, .int x2), (3, .int x3), (4, .int x4), (5, .int x5)] 66 [] := by
  unfold N_T_leastPairToTow_b66 at h
  refine g_iincv (c := (1 : Int32)) hG dX11_leastPairToTow_66 rfl (by decide) (by decide) ?_
  refine g_goto (tgt := 18) hG dX11_leastPairToTow_69 rfl ?_
  refine g_loc hG [(0, .ref (A 5 99)), (1, .int x1), (2, .int x2), (3, .int x3), (4, .int x4), (5, .int (x5 + (1 : Int32)))] ⟨rfl, rfl, rfl, rfl, rfl, rfl, trivial⟩ ?_
  exact hag18 _ _ _ _ _ _ h
def N_T_leastPairToTow_b18 (ag3 : Int32 → Int32 → Int32 → Int32 → CS → Option (Int32 × CS)) : Nat → Int32 → Int32 → Int32 → Int32 → Int32 → CS → Option (Int32 × CS)
  | 0, _, _, _, _, _, _ => none
  | n + 1, x1, x2, x3, x4, x5, σ => (if x4 ≤ x5 then (ag3 x1 x2 x3 (x4 + (1 : Int32)) σ) else (lt (((1 : Int32) <<< (x4 &&& 31)) ||| ((1 : Int32) <<< (x5 &&& 31))) fun v3 => (if ((σ.1 0 6) &&& v3) = v3 then (ob (N_T_dirtWithout v3 x1 x3 σ) fun v6 σ7 => (if x2 ≤ v6 then (N_T_leastPairToTow_b66 ag3 (N_T_leastPairToTow_b18 ag3 n) x1 x2 x3 x4 x5 σ7) else (some (v3, σ7)))) else (N_T_leastPairToTow_b66 ag3 (N_T_leastPairToTow_b18 ag3 n) x1 x2 x3 x4 x5 σ))))
set_option maxRecDepth 100000 in
set_option maxHeartbeats 4000000 in
theorem s_N_T_leastPairToTow_b18 {g : GP} {l : Launch} {A : Nat → Nat → Nat} {X : va_W} {G : GT} {v9 : Int32} {s9 : CS} (hG : IsG g l yX11_leastPairToTow cX11_leastPairToTow 7 { frames := 6, cells := 0, slots := 0, locals := 185 } G) (K : ∀ L pc, decode cX11_leastPairToTow pc = .ok (.ireturn, 1) → G 0 0 (wC g A s9 X) L pc [.int v9]) {ag3 : Int32 → Int32 → Int32 → Int32 → CS → Option (Int32 × CS)} (hag3 : ∀ (x1 : Int32) (x2 : Int32) (x3 : Int32) (x4 : Int32) (σ : CS), ag3 x1 x2 x3 x4 σ = some (v9, s9) → G 0 0 (wC g A σ X) [(0, .ref (A 5 99)), (1, .int x1), (2, .int x2), (3, .int x3), (4, .int x4)] 3 []) : ∀ (n : Nat) (x1 : Int32) (x2 : Int32) (x3 : Int32) (x4 : Int32) (x5 : Int32) (σ : CS) (h : N_T_leastPairToTow_b18 ag3 n x1 x2 x3 x4 x5 σ = some (v9, s9)), G 0 0 (wC g A σ X) [(0, .ref (A 5 99)), (1, .int x1), (2, .int x2), (3, .int x3), (4, .int x4), (5, .int x5)] 18 [] := by
  intro n
  induction n with
  | zero => intro _ _ _ _ _ σ h; cases h
  | succ n ih =>
    intro x1 x2 x3 x4 x5 σ h
    unfold N_T_leastPairToTow_b18 at h
    refine g_iload hG dX11_leastPairToTow_18 rfl ?_
    refine g_iload hG dX11_leastPairToTow_20 rfl ?_
    rcases if_some h with ⟨c2, h⟩ | ⟨c2, h⟩
    · refine g_icmp_ge (tgt := 72) hG dX11_leastPairToTow_22 rfl (fun _ => ?_) (fun q => absurd c2 q)
      refine g_iincv (c := (1 : Int32)) hG dX11_leastPairToTow_72 rfl (by decide) (by decide) ?_
      refine g_goto (tgt := 3) hG dX11_leastPairToTow_75 rfl ?_
      refine g_loc hG [(0, .ref (A 5 99)), (1, .int x1), (2, .int x2), (3, .int x3), (4, .int (x4 + (1 : Int32)))] ⟨rfl, rfl, rfl, rfl, rfl, trivial⟩ ?_
      exact hag3 _ _ _ _ _ h
    · refine g_icmp_ge (tgt := 72) hG dX11_leastPairToTow_22 rfl (fun q => absurd q c2) (fun _ => ?_)
      refine g_iconstv hG dX11_leastPairToTow_25 ki_1 ?_
      refine g_iload hG dX11_leastPairToTow_26 rfl ?_
      refine g_ishl hG dX11_leastPairToTow_28 ?_
      refine g_iconstv hG dX11_leastPairToTow_29 ki_1 ?_
      refine g_iload hG dX11_leastPairToTow_30 rfl ?_
      refine g_ishl hG dX11_leastPairToTow_32 ?_
      refine g_ior hG dX11_leastPairToTow_33 ?_
      obtain ⟨v3, e4, h⟩ := lt_ex h
      refine g_nam e4 ?_
      refine g_istore hG dX11_leastPairToTow_34 (by decide) ?_
      refine g_aload_n hG dX11_leastPairToTow_36 rfl ?_
      refine g_get (f := 0) hG dX11_leastPairToTow_37 (eT g A _ X) rfl inX11 (by decide) rfl f_X11_40 rfl ?_
      refine g_getN (f := 6) hG dX11_leastPairToTow_40 (eS (by decide)) rfl inX7 (by decide) rfl f_X11_236 rfl ?_
      refine g_iload hG dX11_leastPairToTow_43 rfl ?_
      refine g_iand hG dX11_leastPairToTow_45 ?_
      refine g_iload hG dX11_leastPairToTow_46 rfl ?_
      rcases if_some h with ⟨c5, h⟩ | ⟨c5, h⟩
      · refine g_icmp_ne (tgt := 66) hG dX11_leastPairToTow_48 rfl (fun q => absurd c5 q) (fun _ => ?_)
        refine g_aload_n hG dX11_leastPairToTow_51 rfl ?_
        refine g_iload hG dX11_leastPairToTow_52 rfl ?_
        refine g_iload_n hG dX11_leastPairToTow_54 rfl ?_
        refine g_iload_n hG dX11_leastPairToTow_55 rfl ?_
        obtain ⟨v6, σ7, q8, h⟩ := ob_some h
        refine g_cV hG dX11_leastPairToTow_56 (c_N_T_dirtWithout q8) b_X11_dirtWithout v_X11_221 rfl (eT g A _ X) rfl ⟨Nat.le_of_ble_eq_true rfl, Nat.le_of_ble_eq_true rfl⟩ ⟨rfl, rfl⟩ ⟨Nat.zero_le _, Nat.zero_le _⟩ _ rfl (Nat.le_of_ble_eq_true rfl) ?_
        refine g_iload_n hG dX11_leastPairToTow_59 rfl ?_
        rcases if_some h with ⟨c9, h⟩ | ⟨c9, h⟩
        · refine g_icmp_ge (tgt := 66) hG dX11_leastPairToTow_60 rfl (fun _ => ?_) (fun q => absurd c9 q)
          refine g_loc hG [(0, .ref (A 5 99)), (1, .int x1), (2, .int x2), (3, .int x3), (4, .int x4), (5, .int x5)] ⟨rfl, rfl, rfl, rfl, rfl, rfl, trivial⟩ ?_
          exact s_N_T_leastPairToTow_b66  hG K hag3 ih h
        · refine g_icmp_ge (tgt := 66) hG dX11_leastPairToTow_60 rfl (fun q => absurd q c9) (fun _ => ?_)
          refine g_iload hG dX11_leastPairToTow_63 rfl ?_
          cases h
          exact K _ _ dX11_leastPairToTow_65
      · refine g_icmp_ne (tgt := 66) hG dX11_leastPairToTow_48 rfl (fun _ => ?_) (fun q => absurd q c5)
        refine g_loc hG [(0, .ref (A 5 99)), (1, .int x1), (2, .int x2), (3, .int x3), (4, .int x4), (5, .int x5)] ⟨rfl, rfl, rfl, rfl, rfl, rfl, trivial⟩ ?_
        exact s_N_T_leastPairToTow_b66  hG K hag3 ih h
def N_T_leastPairToTow_b3 : Nat → Int32 → Int32 → Int32 → Int32 → CS → Option (Int32 × CS)
  | 0, _, _, _, _, _ => none
  | n + 1, x1, x2, x3, x4, σ => (if (σ.1 0 5) ≤ x4 then (some ((0 : Int32), σ)) else (N_T_leastPairToTow_b18 (N_T_leastPairToTow_b3  n) FU x1 x2 x3 x4 (0 : Int32) σ))
set_option maxRecDepth 100000 in
set_option maxHeartbeats 4000000 in
theorem s_N_T_leastPairToTow_b3 {g : GP} {l : Launch} {A : Nat → Nat → Nat} {X : va_W} {G : GT} {v9 : Int32} {s9 : CS} (hG : IsG g l yX11_leastPairToTow cX11_leastPairToTow 7 { frames := 6, cells := 0, slots := 0, locals := 185 } G) (K : ∀ L pc, decode cX11_leastPairToTow pc = .ok (.ireturn, 1) → G 0 0 (wC g A s9 X) L pc [.int v9]) : ∀ (n : Nat) (x1 : Int32) (x2 : Int32) (x3 : Int32) (x4 : Int32) (σ : CS) (h : N_T_leastPairToTow_b3  n x1 x2 x3 x4 σ = some (v9, s9)), G 0 0 (wC g A σ X) [(0, .ref (A 5 99)), (1, .int x1), (2, .int x2), (3, .int x3), (4, .int x4)] 3 [] := by
  intro n
  induction n with
  | zero => intro _ _ _ _ σ h; cases h
  | succ n ih =>
    intro x1 x2 x3 x4 σ h
    unfold N_T_leastPairToTow_b3 at h
    refine g_iload hG dX11_leastPairToTow_3 rfl ?_
    refine g_aload_n hG dX11_leastPairToTow_5 rfl ?_
    refine g_get (f := 0) hG dX11_leastPairToTow_6 (eT g A _ X) rfl inX11 (by decide) rfl f_X11_40 rfl ?_
    refine g_getN (f := 5) hG dX11_leastPairToTow_9 (eS (by decide)) rfl inX7 (by decide) rfl f_X11_88 rfl ?_
    rcases if_some h with ⟨c1, h⟩ | ⟨c1, h⟩
    · refine g_icmp_ge (tgt := 78) hG dX11_leastPairToTow_12 rfl (fun _ => ?_) (fun q => absurd c1 q)
      refine g_iconstv hG dX11_leastPairToTow_78 ki_0 ?_
      cases h
      exact K _ _ dX11_leastPairToTow_79
    · refine g_icmp_ge (tgt := 78) hG dX11_leastPairToTow_12 rfl (fun q => absurd q c1) (fun _ => ?_)
      refine g_iconstv hG dX11_leastPairToTow_15 ki_0 ?_
      refine g_istore hG dX11_leastPairToTow_16 (by decide) ?_
      refine g_loc hG [(0, .ref (A 5 99)), (1, .int x1), (2, .int x2), (3, .int x3), (4, .int x4), (5, .int (0 : Int32))] ⟨rfl, rfl, rfl, rfl, rfl, rfl, trivial⟩ ?_
      exact s_N_T_leastPairToTow_b18  hG K ih FU _ _ _ _ _ _ h
def N_T_leastPairToTow (x1 : Int32) (x2 : Int32) (x3 : Int32) (σ : CS) : Option (Int32 × CS) := (N_T_leastPairToTow_b3  FU x1 x2 x3 (1 : Int32) σ)
set_option maxRecDepth 100000 in
set_option maxHeartbeats 4000000 in
theorem c_N_T_leastPairToTow {g : GP} {l : Launch} {A : Nat → Nat → Nat} {X : va_W} {v9 : Int32} {s9 : CS} {x1 : Int32} {x2 : Int32} {x3 : Int32} {σ : CS} (h : N_T_leastPairToTow x1 x2 x3 σ = some (v9, s9)) : CI g l yX11_leastPairToTow cX11_leastPairToTow 7 (some .int) { frames := 6, cells := 0, slots := 0, locals := 185 } [.ref (A 5 99), .int x1, .int x2, .int x3] (wC g A σ X) (fun r0 w => r0 = v9 ∧ w = wC g A s9 X) := by
  refine CI.mk (by decide) (Nat.le_of_ble_eq_true rfl) (fun G hG hret => ?_)
  have K : ∀ L pc, decode cX11_leastPairToTow pc = .ok (.ireturn, 1) → G 0 0 (wC g A s9 X) L pc [.int v9] := fun L pc d => hret _ L pc v9 d rfl ⟨rfl, rfl⟩
  unfold N_T_leastPairToTow at h
  refine g_iconstv hG dX11_leastPairToTow_0 ki_1 ?_
  refine g_istore hG dX11_leastPairToTow_1 (by decide) ?_
  refine g_loc hG [(0, .ref (A 5 99)), (1, .int x1), (2, .int x2), (3, .int x3), (4, .int (1 : Int32))] ⟨rfl, rfl, rfl, rfl, rfl, trivial⟩ ?_
  exact s_N_T_leastPairToTow_b3  hG K FU _ _ _ _ _ h
def N_T_tow_b99 (ag55 : Int32 → Int32 → Int32 → Int32 → CS → Option (Int32 × CS)) (x1 : Int32) (x2 : Int32) (x3 : Int32) (x4 : Int32) (σ : CS) : Option (Int32 × CS) := (ag55 x1 x2 x3 (x4 + (1 : Int32)) σ)
set_option maxRecDepth 100000 in
set_option maxHeartbeats 4000000 in
theorem s_N_T_tow_b99 {g : GP} {l : Launch} {A : Nat → Nat → Nat} {X : va_W} {G : GT} {v9 : Int32} {s9 : CS} (hG : IsG g l yX11_tow cX11_tow 5 { frames := 7, cells := 0, slots := 0, locals := 211 } G) (K : ∀ L pc, decode cX11_tow pc = .ok (.ireturn, 1) → G 0 0 (wC g A s9 X) L pc [.int v9]) {ag55 : Int32 → Int32 → Int32 → Int32 → CS → Option (Int32 × CS)} (hag55 : ∀ (x1 : Int32) (x2 : Int32) (x3 : Int32) (x4 : Int32) (σ : CS), ag55 x1 x2 x3 x4 σ = some (v9, s9) → G 0 0 (wC g A σ X) [(0, .ref (A 5 99)), (1, .int x1), (2, .int x2), (3, .int x3), (4, .int x4)] 55 []) {x1 : Int32} {x2 : Int32} {x3 : Int32} {x4 : Int32} {σ : CS} (h : N_T_tow_b99 ag55 x1 x2 x3 x4 σ = some (v9, s9)) : G 0 0 (wC g A σ X) [(0, .ref (A 5 99)), (1, .int x1), (2, .int x2), (3, .int x3), (4, .int x4)] 99 [] := by
  unfold N_T_tow_b99 at h
  refine g_iincv (c := (1 : Int32)) hG dX11_tow_99 rfl (by decide) (by decide) ?_
  refine g_goto (tgt := 55) hG dX11_tow_102 rfl ?_
  refine g_loc hG [(0, .ref (A 5 99)), (1, .int x1), (2, .int x2), (3, .int x3), (4, .int (x4 + (1 : Int32)))] ⟨rfl, rfl, rfl, rfl, rfl, trivial⟩ ?_
  exact hag55 _ _ _ _ _ h
def N_T_tow_b55 : Nat → Int32 → Int32 → Int32 → Int32 → CS → Option (Int32 × CS)
  | 0, _, _, _, _, _ => none
  | n + 1, x1, x2, x3, x4, σ => (if (σ.1 0 5) ≤ x4 then (ob (N_T_leastPairToTow x1 x2 x3 σ) fun v27 σ28 => (if v27 = 0 then (ob (N_T_fail (-1000000002 : Int32) σ28) fun v31 σ32 => (some (v31, σ32))) else (some (v27, σ28)))) else (ob (N_S_carOf 0 x4 σ) fun v34 σ35 => (if v34 = (1 : Int32) then (ob (N_T_dirtWithout ((1 : Int32) <<< (x4 &&& 31)) x1 x3 σ35) fun v38 σ39 => (if x2 ≤ v38 then (N_T_tow_b99 (N_T_tow_b55  n) x1 x2 x3 x4 σ39) else (some (((1 : Int32) <<< (x4 &&& 31)), σ39)))) else (N_T_tow_b99 (N_T_tow_b55  n) x1 x2 x3 x4 σ35))))
set_option maxRecDepth 100000 in
set_option maxHeartbeats 4000000 in
theorem s_N_T_tow_b55 {g : GP} {l : Launch} {A : Nat → Nat → Nat} {X : va_W} {G : GT} {v9 : Int32} {s9 : CS} (hG : IsG g l yX11_tow cX11_tow 5 { frames := 7, cells := 0, slots := 0, locals := 211 } G) (K : ∀ L pc, decode cX11_tow pc = .ok (.ireturn, 1) → G 0 0 (wC g A s9 X) L pc [.int v9]) : ∀ (n : Nat) (x1 : Int32) (x2 : Int32) (x3 : Int32) (x4 : Int32) (σ : CS) (h : N_T_tow_b55  n x1 x2 x3 x4 σ = some (v9, s9)), G 0 0 (wC g A σ X) [(0, .ref (A 5 99)), (1, .int x1), (2, .int x2), (3, .int x3), (4, .int x4)] 55 [] := by
  intro n
  induction n with
  | zero => intro _ _ _ _ σ h; cases h
  | succ n ih =>
    intro x1 x2 x3 x4 σ h
    unfold N_T_tow_b55 at h
    refine g_iload hG dX11_tow_55 rfl ?_
    refine g_aload_n hG dX11_tow_57 rfl ?_
    refine g_get (f := 0) hG dX11_tow_58 (eT g A _ X) rfl inX11 (by decide) rfl f_X11_40 rfl ?_
    refine g_getN (f := 5) hG dX11_tow_61 (eS (by decide)) rfl inX7 (by decide) rfl f_X11_88 rfl ?_
    rcases if_some h with ⟨c26, h⟩ | ⟨c26, h⟩
    · refine g_icmp_ge (tgt := 105) hG dX11_tow_64 rfl (fun _ => ?_) (fun q => absurd c26 q)
      refine g_aload_n hG dX11_tow_105 rfl ?_
      refine g_iload_n hG dX11_tow_106 rfl ?_
      refine g_iload_n hG dX11_tow_107 rfl ?_
      refine g_iload_n hG dX11_tow_108 rfl ?_
      obtain ⟨v27, σ28, q29, h⟩ := ob_some h
      refine g_cV hG dX11_tow_109 (c_N_T_leastPairToTow q29) b_X11_leastPairToTow v_X11_224 rfl (eT g A _ X) rfl ⟨Nat.le_of_ble_eq_true rfl, Nat.le_of_ble_eq_true rfl⟩ ⟨rfl, rfl⟩ ⟨Nat.zero_le _, Nat.zero_le _⟩ _ rfl (Nat.le_of_ble_eq_true rfl) ?_
      refine g_istore hG dX11_tow_112 (by decide) ?_
      refine g_iload hG dX11_tow_114 rfl ?_
      rcases if_some h with ⟨c30, h⟩ | ⟨c30, h⟩
      · refine g_if_ne (tgt := 128) hG dX11_tow_116 rfl (fun q => absurd c30 q) (fun _ => ?_)
        refine g_aload_n hG dX11_tow_119 rfl ?_
        refine g_ldc hG dX11_tow_120 k_X11_208 ?_
        obtain ⟨v31, σ32, q33, h⟩ := ob_some h
        refine g_cV hG dX11_tow_122 (c_N_T_fail q33) b_X11_fail v_X11_84 rfl (eT g A _ X) rfl ⟨Nat.le_of_ble_eq_true rfl, Nat.le_of_ble_eq_true rfl⟩ ⟨rfl, rfl⟩ ⟨Nat.zero_le _, Nat.zero_le _⟩ _ rfl (Nat.le_of_ble_eq_true rfl) ?_
        refine g_goto (tgt := 130) hG dX11_tow_125 rfl ?_
        cases h
        exact K _ _ dX11_tow_130
      · refine g_if_ne (tgt := 128) hG dX11_tow_116 rfl (fun _ => ?_) (fun q => absurd q c30)
        refine g_iload hG dX11_tow_128 rfl ?_
        cases h
        exact K _ _ dX11_tow_130
    · refine g_icmp_ge (tgt := 105) hG dX11_tow_64 rfl (fun q => absurd q c26) (fun _ => ?_)
      refine g_aload_n hG dX11_tow_67 rfl ?_
      refine g_get (f := 0) hG dX11_tow_68 (eT g A _ X) rfl inX11 (by decide) rfl f_X11_40 rfl ?_
      refine g_iload hG dX11_tow_71 rfl ?_
      obtain ⟨v34, σ35, q36, h⟩ := ob_some h
      refine g_cV hG dX11_tow_73 (c_N_S_carOf (by decide) q36) b_X7_carOf v_X11_123 rfl (eS (by decide)) rfl ⟨Nat.le_of_ble_eq_true rfl, Nat.le_of_ble_eq_true rfl⟩ ⟨rfl, rfl⟩ ⟨Nat.zero_le _, Nat.zero_le _⟩ _ rfl (Nat.le_of_ble_eq_true rfl) ?_
      refine g_iconstv hG dX11_tow_76 ki_1 ?_
      rcases if_some h with ⟨c37, h⟩ | ⟨c37, h⟩
      · refine g_icmp_ne (tgt := 99) hG dX11_tow_77 rfl (fun q => absurd c37 q) (fun _ => ?_)
        refine g_aload_n hG dX11_tow_80 rfl ?_
        refine g_iconstv hG dX11_tow_81 ki_1 ?_
        refine g_iload hG dX11_tow_82 rfl ?_
        refine g_ishl hG dX11_tow_84 ?_
        refine g_iload_n hG dX11_tow_85 rfl ?_
        refine g_iload_n hG dX11_tow_86 rfl ?_
        obtain ⟨v38, σ39, q40, h⟩ := ob_some h
        refine g_cV hG dX11_tow_87 (c_N_T_dirtWithout q40) b_X11_dirtWithout v_X11_221 rfl (eT g A _ X) rfl ⟨Nat.le_of_ble_eq_true rfl, Nat.le_of_ble_eq_true rfl⟩ ⟨rfl, rfl⟩ ⟨Nat.zero_le _, Nat.zero_le _⟩ _ rfl (Nat.le_of_ble_eq_true rfl) ?_
        refine g_iload_n hG dX11_tow_90 rfl ?_
        rcases if_some h with ⟨c41, h⟩ | ⟨c41, h⟩
        · refine g_icmp_ge (tgt := 99) hG dX11_tow_91 rfl (fun _ => ?_) (fun q => absurd c41 q)
          refine g_loc hG [(0, .ref (A 5 99)), (1, .int x1), (2, .int x2), (3, .int x3), (4, .int x4)] ⟨rfl, rfl, rfl, rfl, rfl, trivial⟩ ?_
          exact s_N_T_tow_b99  hG K ih h
        · refine g_icmp_ge (tgt := 99) hG dX11_tow_91 rfl (fun q => absurd q c41) (fun _ => ?_)
          refine g_iconstv hG dX11_tow_94 ki_1 ?_
          refine g_iload hG dX11_tow_95 rfl ?_
          refine g_ishl hG dX11_tow_97 ?_
          cases h
          exact K _ _ dX11_tow_98
      · refine g_icmp_ne (tgt := 99) hG dX11_tow_77 rfl (fun _ => ?_) (fun q => absurd q c37)
        refine g_loc hG [(0, .ref (A 5 99)), (1, .int x1), (2, .int x2), (3, .int x3), (4, .int x4)] ⟨rfl, rfl, rfl, rfl, rfl, trivial⟩ ?_
        exact s_N_T_tow_b99  hG K ih h
def N_T_tow (x1 : Int32) (x2 : Int32) (x3 : Int32) (σ : CS) : Option (Int32 × CS) := (ob (N_S_has 0 x1 σ) fun v1 σ2 => (if v1 = 0 then (ob (N_T_fail (-1000000001 : Int32) σ2) fun v5 σ6 => (some (v5, σ6))) else (ob (N_T_within x2 (1 : Int32) (999 : Int32) σ2) fun v8 σ9 => (if v8 = 0 then (ob (N_T_fail (-1000000001 : Int32) σ9) fun v12 σ13 => (some (v12, σ13))) else (ob (N_T_within x3 (0 : Int32) (20 : Int32) σ9) fun v15 σ16 => (if v15 = 0 then (ob (N_T_fail (-1000000001 : Int32) σ16) fun v19 σ20 => (some (v19, σ20))) else (ob (N_T_dirtWithout (0 : Int32) x1 x3 σ16) fun v22 σ23 => (if x2 ≤ v22 then (N_T_tow_b55  FU x1 x2 x3 (0 : Int32) σ23) else (some ((0 : Int32), σ23))))))))))
set_option maxRecDepth 100000 in
set_option maxHeartbeats 4000000 in
theorem c_N_T_tow {g : GP} {l : Launch} {A : Nat → Nat → Nat} {X : va_W} {v9 : Int32} {s9 : CS} {x1 : Int32} {x2 : Int32} {x3 : Int32} {σ : CS} (h : N_T_tow x1 x2 x3 σ = some (v9, s9)) : CI g l yX11_tow cX11_tow 5 (some .int) { frames := 7, cells := 0, slots := 0, locals := 211 } [.ref (A 5 99), .int x1, .int x2, .int x3] (wC g A σ X) (fun r0 w => r0 = v9 ∧ w = wC g A s9 X) := by
  refine CI.mk (by decide) (Nat.le_of_ble_eq_true rfl) (fun G hG hret => ?_)
  have K : ∀ L pc, decode cX11_tow pc = .ok (.ireturn, 1) → G 0 0 (wC g A s9 X) L pc [.int v9] := fun L pc d => hret _ L pc v9 d rfl ⟨rfl, rfl⟩
  unfold N_T_tow at h
  refine g_aload_n hG dX11_tow_0 rfl ?_
  refine g_get (f := 0) hG dX11_tow_1 (eT g A _ X) rfl inX11 (by decide) rfl f_X11_40 rfl ?_
  refine g_iload_n hG dX11_tow_4 rfl ?_
  obtain ⟨v1, σ2, q3, h⟩ := ob_some h
  refine g_cV hG dX11_tow_5 (c_N_S_has (by decide) q3) b_X7_has v_X11_113 rfl (eS (by decide)) rfl ⟨Nat.le_of_ble_eq_true rfl, Nat.le_of_ble_eq_true rfl⟩ ⟨rfl, rfl⟩ ⟨Nat.zero_le _, Nat.zero_le _⟩ _ rfl (Nat.le_of_ble_eq_true rfl) ?_
  rcases if_some h with ⟨c4, h⟩ | ⟨c4, h⟩
  · refine g_if_eq (tgt := 32) hG dX11_tow_8 rfl (fun _ => ?_) (fun q => absurd c4 q)
    refine g_aload_n hG dX11_tow_32 rfl ?_
    refine g_ldc hG dX11_tow_33 k_X11_83 ?_
    obtain ⟨v5, σ6, q7, h⟩ := ob_some h
    refine g_cV hG dX11_tow_35 (c_N_T_fail q7) b_X11_fail v_X11_84 rfl (eT g A _ X) rfl ⟨Nat.le_of_ble_eq_true rfl, Nat.le_of_ble_eq_true rfl⟩ ⟨rfl, rfl⟩ ⟨Nat.zero_le _, Nat.zero_le _⟩ _ rfl (Nat.le_of_ble_eq_true rfl) ?_
    cases h
    exact K _ _ dX11_tow_38
  · refine g_if_eq (tgt := 32) hG dX11_tow_8 rfl (fun q => absurd q c4) (fun _ => ?_)
    refine g_iload_n hG dX11_tow_11 rfl ?_
    refine g_iconstv hG dX11_tow_12 ki_1 ?_
    refine g_sipushv hG dX11_tow_13 ks_999 ?_
    obtain ⟨v8, σ9, q10, h⟩ := ob_some h
    refine g_cS hG dX11_tow_16 (c_N_T_within q10) b_X11_within v_X11_79 rfl ⟨Nat.le_of_ble_eq_true rfl, Nat.le_of_ble_eq_true rfl⟩ ⟨rfl, rfl⟩ ⟨Nat.zero_le _, Nat.zero_le _⟩ _ rfl (Nat.le_of_ble_eq_true rfl) ?_
    rcases if_some h with ⟨c11, h⟩ | ⟨c11, h⟩
    · refine g_if_eq (tgt := 32) hG dX11_tow_19 rfl (fun _ => ?_) (fun q => absurd c11 q)
      refine g_aload_n hG dX11_tow_32 rfl ?_
      refine g_ldc hG dX11_tow_33 k_X11_83 ?_
      obtain ⟨v12, σ13, q14, h⟩ := ob_some h
      refine g_cV hG dX11_tow_35 (c_N_T_fail q14) b_X11_fail v_X11_84 rfl (eT g A _ X) rfl ⟨Nat.le_of_ble_eq_true rfl, Nat.le_of_ble_eq_true rfl⟩ ⟨rfl, rfl⟩ ⟨Nat.zero_le _, Nat.zero_le _⟩ _ rfl (Nat.le_of_ble_eq_true rfl) ?_
      cases h
      exact K _ _ dX11_tow_38
    · refine g_if_eq (tgt := 32) hG dX11_tow_19 rfl (fun q => absurd q c11) (fun _ => ?_)
      refine g_iload_n hG dX11_tow_22 rfl ?_
      refine g_iconstv hG dX11_tow_23 ki_0 ?_
      refine g_bipushv hG dX11_tow_24 kb_20 ?_
      obtain ⟨v15, σ16, q17, h⟩ := ob_some h
      refine g_cS hG dX11_tow_26 (c_N_T_within q17) b_X11_within v_X11_79 rfl ⟨Nat.le_of_ble_eq_true rfl, Nat.le_of_ble_eq_true rfl⟩ ⟨rfl, rfl⟩ ⟨Nat.zero_le _, Nat.zero_le _⟩ _ rfl (Nat.le_of_ble_eq_true rfl) ?_
      rcases if_some h with ⟨c18, h⟩ | ⟨c18, h⟩
      · refine g_if_ne (tgt := 39) hG dX11_tow_29 rfl (fun q => absurd c18 q) (fun _ => ?_)
        refine g_aload_n hG dX11_tow_32 rfl ?_
        refine g_ldc hG dX11_tow_33 k_X11_83 ?_
        obtain ⟨v19, σ20, q21, h⟩ := ob_some h
        refine g_cV hG dX11_tow_35 (c_N_T_fail q21) b_X11_fail v_X11_84 rfl (eT g A _ X) rfl ⟨Nat.le_of_ble_eq_true rfl, Nat.le_of_ble_eq_true rfl⟩ ⟨rfl, rfl⟩ ⟨Nat.zero_le _, Nat.zero_le _⟩ _ rfl (Nat.le_of_ble_eq_true rfl) ?_
        cases h
        exact K _ _ dX11_tow_38
      · refine g_if_ne (tgt := 39) hG dX11_tow_29 rfl (fun _ => ?_) (fun q => absurd q c18)
        refine g_aload_n hG dX11_tow_39 rfl ?_
        refine g_iconstv hG dX11_tow_40 ki_0 ?_
        refine g_iload_n hG dX11_tow_41 rfl ?_
        refine g_iload_n hG dX11_tow_42 rfl ?_
        obtain ⟨v22, σ23, q24, h⟩ := ob_some h
        refine g_cV hG dX11_tow_43 (c_N_T_dirtWithout q24) b_X11_dirtWithout v_X11_221 rfl (eT g A _ X) rfl ⟨Nat.le_of_ble_eq_true rfl, Nat.le_of_ble_eq_true rfl⟩ ⟨rfl, rfl⟩ ⟨Nat.zero_le _, Nat.zero_le _⟩ _ rfl (Nat.le_of_ble_eq_true rfl) ?_
        refine g_iload_n hG dX11_tow_46 rfl ?_
        rcases if_some h with ⟨c25, h⟩ | ⟨c25, h⟩
        · refine g_icmp_ge (tgt := 52) hG dX11_tow_47 rfl (fun _ => ?_) (fun q => absurd c25 q)
          refine g_iconstv hG dX11_tow_52 ki_0 ?_
          refine g_istore hG dX11_tow_53 (by decide) ?_
          refine g_loc hG [(0, .ref (A 5 99)), (1, .int x1), (2, .int x2), (3, .int x3), (4, .int (0 : Int32))] ⟨rfl, rfl, rfl, rfl, rfl, trivial⟩ ?_
          exact s_N_T_tow_b55  hG K FU _ _ _ _ _ h
        · refine g_icmp_ge (tgt := 52) hG dX11_tow_47 rfl (fun q => absurd q c25) (fun _ => ?_)
          refine g_iconstv hG dX11_tow_50 ki_0 ?_
          cases h
          exact K _ _ dX11_tow_51
def N_T_broom_b118 (ag53 : Int32 → Int32 → Int32 → Int32 → Int32 → CS → Option (Int32 × CS)) (x1 : Int32) (x2 : Int32) (x3 : Int32) (x4 : Int32) (x5 : Int32) (σ : CS) : Option (Int32 × CS) := (ag53 x1 x2 x3 x4 (x5 + (1 : Int32)) σ)
set_option maxRecDepth 100000 in
set_option maxHeartbeats 4000000 in
theorem s_N_T_broom_b118 {g : GP} {l : Launch} {A : Nat → Nat → Nat} {X : va_W} {G : GT} {v9 : Int32} {s9 : CS} (hG : IsG g l yX11_broom cX11_broom 7 { frames := 5, cells := 0, slots := 0, locals := 159 } G) (K : ∀ L pc, decode cX11_broom pc = .ok (.ireturn, 1) → G 0 0 (wC g A s9 X) L pc [.int v9]) {ag53 : Int32 → Int32 → Int32 → Int32 → Int32 → CS → Option (Int32 × CS)} (hag53 : ∀ (x1 : Int32) (x2 : Int32) (x3 : Int32) (x4 : Int32) (x5 : Int32) (σ : CS), ag53 x1 x2 x3 x4 x5 σ = some (v9, s9) → G 0 0 (wC g A σ X) [(0, .ref (A 5 99)), (1, .int x1), (2, .int x2), (3, .int x3), (4, .int x4), (5, .int x5)] 53 []) {x1 : Int32} {x2 : Int32} {x3 : Int32} {x4 : Int32} {x5 : Int32} {σ : CS} (h : N_T_broom_b118 ag53 x1 x2 x3 x4 x5 σ = some (v9, s9)) : G 0 0 (wC g A σ X) [(0, .ref (A 5 99)), (1, .int x1), (2, .int x2), (3, .int x3), (4, .int x4), (5, .int x5)] 118 [] := by
  unfold N_T_broom_b118 at h
  refine g_iincv (c := (1 : Int32)) hG dX11_broom_118 rfl (by decide) (by decide) ?_
  refine g_goto (tgt := 53) hG dX11_broom_121 rfl ?_
  refine g_loc hG [(0, .ref (A 5 99)), (1, .int x1), (2, .int x2), (3, .int x3), (4, .int x4), (5, .int (x5 + (1 : Int32)))] ⟨rfl, rfl, rfl, rfl, rfl, rfl, trivial⟩ ?_
  exact hag53 _ _ _ _ _ _ h
def N_T_broom_b53 : Nat → Int32 → Int32 → Int32 → Int32 → Int32 → CS → Option (Int32 × CS)
  | 0, _, _, _, _, _, _ => none
  | n + 1, x1, x2, x3, x4, x5, σ => (if (σ.1 0 5) ≤ x5 then (some ((if x2 = 0 then x3 else x4), σ)) else (ob (N_S_thinkOf 1 0  σ) fun v22 σ23 => (gd (inb x5 12) (lt (sa σ23 1 3 (upd (σ23.2.1 1 3) (ix x5) (0 : Int32))) fun σ25 => (ob (N_S_passAll 1 x1 σ25) fun v28 σ29 => (ob (N_S_greatestDirt 1  σ29) fun v31 σ32 => (if x4 ≤ v31 then (N_T_broom_b118 (N_T_broom_b53  n) x1 x2 x3 x4 x5 σ32) else (N_T_broom_b118 (N_T_broom_b53  n) x1 x2 x5 v31 x5 σ32))))))))
set_option maxRecDepth 100000 in
set_option maxHeartbeats 4000000 in
theorem s_N_T_broom_b53 {g : GP} {l : Launch} {A : Nat → Nat → Nat} {X : va_W} {G : GT} {v9 : Int32} {s9 : CS} (hG : IsG g l yX11_broom cX11_broom 7 { frames := 5, cells := 0, slots := 0, locals := 159 } G) (K : ∀ L pc, decode cX11_broom pc = .ok (.ireturn, 1) → G 0 0 (wC g A s9 X) L pc [.int v9]) : ∀ (n : Nat) (x1 : Int32) (x2 : Int32) (x3 : Int32) (x4 : Int32) (x5 : Int32) (σ : CS) (h : N_T_broom_b53  n x1 x2 x3 x4 x5 σ = some (v9, s9)), G 0 0 (wC g A σ X) [(0, .ref (A 5 99)), (1, .int x1), (2, .int x2), (3, .int x3), (4, .int x4), (5, .int x5)] 53 [] := by
  intro n
  induction n with
  | zero => intro _ _ _ _ _ σ h; cases h
  | succ n ih =>
    intro x1 x2 x3 x4 x5 σ h
    unfold N_T_broom_b53 at h
    refine g_iload hG dX11_broom_53 rfl ?_
    refine g_aload_n hG dX11_broom_55 rfl ?_
    refine g_get (f := 0) hG dX11_broom_56 (eT g A _ X) rfl inX11 (by decide) rfl f_X11_40 rfl ?_
    refine g_getN (f := 5) hG dX11_broom_59 (eS (by decide)) rfl inX7 (by decide) rfl f_X11_88 rfl ?_
    rcases if_some h with ⟨c19, h⟩ | ⟨c19, h⟩
    · refine g_icmp_ge (tgt := 124) hG dX11_broom_62 rfl (fun _ => ?_) (fun q => absurd c19 q)
      refine g_iload_n hG dX11_broom_124 rfl ?_
      refine g_dia1 (if x2 = 0 then x3 else x4) 134 (fun J20 => ?_) ?_
      · by_cases c21 : x2 = 0
        · refine g_if_ne (tgt := 132) hG dX11_broom_125 rfl (fun q => absurd c21 q) (fun _ => ?_)
          refine g_iload_n hG dX11_broom_128 rfl ?_
          refine g_goto (tgt := 134) hG dX11_broom_129 rfl ?_
          rw [if_pos c21] at J20
          exact J20
        · refine g_if_ne (tgt := 132) hG dX11_broom_125 rfl (fun _ => ?_) (fun q => absurd q c21)
          refine g_iload hG dX11_broom_132 rfl ?_
          rw [if_neg c21] at J20
          exact J20
      cases h
      exact K _ _ dX11_broom_134
    · refine g_icmp_ge (tgt := 124) hG dX11_broom_62 rfl (fun q => absurd q c19) (fun _ => ?_)
      refine g_aload_n hG dX11_broom_65 rfl ?_
      refine g_get (f := 1) hG dX11_broom_66 (eT g A _ X) rfl inX11 (by decide) rfl f_X11_44 rfl ?_
      refine g_aload_n hG dX11_broom_69 rfl ?_
      refine g_get (f := 0) hG dX11_broom_70 (eT g A _ X) rfl inX11 (by decide) rfl f_X11_40 rfl ?_
      obtain ⟨v22, σ23, q24, h⟩ := ob_some h
      refine g_cVv hG dX11_broom_73 (c_N_S_thinkOf (by decide) (by decide) q24) b_X7_thinkOf v_X11_198 rfl (eS (by decide)) rfl ⟨Nat.le_of_ble_eq_true rfl, Nat.le_of_ble_eq_true rfl⟩ ⟨rfl, rfl⟩ ⟨Nat.zero_le _, Nat.zero_le _⟩ _ rfl (Nat.le_of_ble_eq_true rfl) ?_
      refine g_aload_n hG dX11_broom_76 rfl ?_
      refine g_get (f := 1) hG dX11_broom_77 (eT g A _ X) rfl inX11 (by decide) rfl f_X11_44 rfl ?_
      refine g_getN (f := 3) hG dX11_broom_80 (eS (by decide)) rfl inX7 (by decide) rfl f_X11_97 rfl ?_
      refine g_iload hG dX11_broom_83 rfl ?_
      refine g_iconstv hG dX11_broom_85 ki_0 ?_
      obtain ⟨b27, h⟩ := gd_some h
      obtain ⟨σ25, e26, h⟩ := lt_ex h
      refine c_iast hG e26 dX11_broom_86 (aS3 (d := 1) (by decide)) b27 rfl ?_
      refine g_aload_n hG dX11_broom_87 rfl ?_
      refine g_get (f := 1) hG dX11_broom_88 (eT g A _ X) rfl inX11 (by decide) rfl f_X11_44 rfl ?_
      refine g_iload_n hG dX11_broom_91 rfl ?_
      obtain ⟨v28, σ29, q30, h⟩ := ob_some h
      refine g_cVv hG dX11_broom_92 (c_N_S_passAll (by decide) q30) b_X7_passAll v_X11_187 rfl (eS (by decide)) rfl ⟨Nat.le_of_ble_eq_true rfl, Nat.le_of_ble_eq_true rfl⟩ ⟨rfl, rfl⟩ ⟨Nat.zero_le _, Nat.zero_le _⟩ _ rfl (Nat.le_of_ble_eq_true rfl) ?_
      refine g_aload_n hG dX11_broom_95 rfl ?_
      refine g_get (f := 1) hG dX11_broom_96 (eT g A _ X) rfl inX11 (by decide) rfl f_X11_44 rfl ?_
      obtain ⟨v31, σ32, q33, h⟩ := ob_some h
      refine g_cV hG dX11_broom_99 (c_N_S_greatestDirt (by decide) q33) b_X7_greatestDirt v_X11_227 rfl (eS (by decide)) rfl ⟨Nat.le_of_ble_eq_true rfl, Nat.le_of_ble_eq_true rfl⟩ ⟨rfl, rfl⟩ ⟨Nat.zero_le _, Nat.zero_le _⟩ _ rfl (Nat.le_of_ble_eq_true rfl) ?_
      refine g_istore hG dX11_broom_102 (by decide) ?_
      refine g_iload hG dX11_broom_104 rfl ?_
      refine g_iload hG dX11_broom_106 rfl ?_
      rcases if_some h with ⟨c34, h⟩ | ⟨c34, h⟩
      · refine g_icmp_ge (tgt := 118) hG dX11_broom_108 rfl (fun _ => ?_) (fun q => absurd c34 q)
        refine g_loc hG [(0, .ref (A 5 99)), (1, .int x1), (2, .int x2), (3, .int x3), (4, .int x4), (5, .int x5)] ⟨rfl, rfl, rfl, rfl, rfl, rfl, trivial⟩ ?_
        exact s_N_T_broom_b118  hG K ih h
      · refine g_icmp_ge (tgt := 118) hG dX11_broom_108 rfl (fun q => absurd q c34) (fun _ => ?_)
        refine g_iload hG dX11_broom_111 rfl ?_
        refine g_istore hG dX11_broom_113 (by decide) ?_
        refine g_iload hG dX11_broom_115 rfl ?_
        refine g_istore_n hG dX11_broom_117 (by decide) ?_
        refine g_loc hG [(0, .ref (A 5 99)), (1, .int x1), (2, .int x2), (3, .int x5), (4, .int v31), (5, .int x5)] ⟨rfl, rfl, rfl, rfl, rfl, rfl, trivial⟩ ?_
        exact s_N_T_broom_b118  hG K ih h
def N_T_broom (x1 : Int32) (x2 : Int32) (σ : CS) : Option (Int32 × CS) := (ob (N_T_within x1 (0 : Int32) (30 : Int32) σ) fun v1 σ2 => (if v1 = 0 then (ob (N_T_fail (-1000000001 : Int32) σ2) fun v5 σ6 => (some (v5, σ6))) else (ob (N_T_within x2 (0 : Int32) (1 : Int32) σ2) fun v8 σ9 => (if v8 = 0 then (ob (N_T_fail (-1000000001 : Int32) σ9) fun v12 σ13 => (some (v12, σ13))) else (if (σ9.1 0 5) = 0 then (ob (N_T_fail (-1000000002 : Int32) σ9) fun v16 σ17 => (some (v16, σ17))) else (N_T_broom_b53  FU x1 x2 (0 : Int32) (1000 : Int32) (0 : Int32) σ9))))))
set_option maxRecDepth 100000 in
set_option maxHeartbeats 4000000 in
theorem c_N_T_broom {g : GP} {l : Launch} {A : Nat → Nat → Nat} {X : va_W} {v9 : Int32} {s9 : CS} {x1 : Int32} {x2 : Int32} {σ : CS} (h : N_T_broom x1 x2 σ = some (v9, s9)) : CI g l yX11_broom cX11_broom 7 (some .int) { frames := 5, cells := 0, slots := 0, locals := 159 } [.ref (A 5 99), .int x1, .int x2] (wC g A σ X) (fun r0 w => r0 = v9 ∧ w = wC g A s9 X) := by
  refine CI.mk (by decide) (Nat.le_of_ble_eq_true rfl) (fun G hG hret => ?_)
  have K : ∀ L pc, decode cX11_broom pc = .ok (.ireturn, 1) → G 0 0 (wC g A s9 X) L pc [.int v9] := fun L pc d => hret _ L pc v9 d rfl ⟨rfl, rfl⟩
  unfold N_T_broom at h
  refine g_iload_n hG dX11_broom_0 rfl ?_
  refine g_iconstv hG dX11_broom_1 ki_0 ?_
  refine g_bipushv hG dX11_broom_2 kb_30 ?_
  obtain ⟨v1, σ2, q3, h⟩ := ob_some h
  refine g_cS hG dX11_broom_4 (c_N_T_within q3) b_X11_within v_X11_79 rfl ⟨Nat.le_of_ble_eq_true rfl, Nat.le_of_ble_eq_true rfl⟩ ⟨rfl, rfl⟩ ⟨Nat.zero_le _, Nat.zero_le _⟩ _ rfl (Nat.le_of_ble_eq_true rfl) ?_
  rcases if_some h with ⟨c4, h⟩ | ⟨c4, h⟩
  · refine g_if_eq (tgt := 19) hG dX11_broom_7 rfl (fun _ => ?_) (fun q => absurd c4 q)
    refine g_aload_n hG dX11_broom_19 rfl ?_
    refine g_ldc hG dX11_broom_20 k_X11_83 ?_
    obtain ⟨v5, σ6, q7, h⟩ := ob_some h
    refine g_cV hG dX11_broom_22 (c_N_T_fail q7) b_X11_fail v_X11_84 rfl (eT g A _ X) rfl ⟨Nat.le_of_ble_eq_true rfl, Nat.le_of_ble_eq_true rfl⟩ ⟨rfl, rfl⟩ ⟨Nat.zero_le _, Nat.zero_le _⟩ _ rfl (Nat.le_of_ble_eq_true rfl) ?_
    cases h
    exact K _ _ dX11_broom_25
  · refine g_if_eq (tgt := 19) hG dX11_broom_7 rfl (fun q => absurd q c4) (fun _ => ?_)
    refine g_iload_n hG dX11_broom_10 rfl ?_
    refine g_iconstv hG dX11_broom_11 ki_0 ?_
    refine g_iconstv hG dX11_broom_12 ki_1 ?_
    obtain ⟨v8, σ9, q10, h⟩ := ob_some h
    refine g_cS hG dX11_broom_13 (c_N_T_within q10) b_X11_within v_X11_79 rfl ⟨Nat.le_of_ble_eq_true rfl, Nat.le_of_ble_eq_true rfl⟩ ⟨rfl, rfl⟩ ⟨Nat.zero_le _, Nat.zero_le _⟩ _ rfl (Nat.le_of_ble_eq_true rfl) ?_
    rcases if_some h with ⟨c11, h⟩ | ⟨c11, h⟩
    · refine g_if_ne (tgt := 26) hG dX11_broom_16 rfl (fun q => absurd c11 q) (fun _ => ?_)
      refine g_aload_n hG dX11_broom_19 rfl ?_
      refine g_ldc hG dX11_broom_20 k_X11_83 ?_
      obtain ⟨v12, σ13, q14, h⟩ := ob_some h
      refine g_cV hG dX11_broom_22 (c_N_T_fail q14) b_X11_fail v_X11_84 rfl (eT g A _ X) rfl ⟨Nat.le_of_ble_eq_true rfl, Nat.le_of_ble_eq_true rfl⟩ ⟨rfl, rfl⟩ ⟨Nat.zero_le _, Nat.zero_le _⟩ _ rfl (Nat.le_of_ble_eq_true rfl) ?_
      cases h
      exact K _ _ dX11_broom_25
    · refine g_if_ne (tgt := 26) hG dX11_broom_16 rfl (fun _ => ?_) (fun q => absurd q c11)
      refine g_aload_n hG dX11_broom_26 rfl ?_
      refine g_get (f := 0) hG dX11_broom_27 (eT g A _ X) rfl inX11 (by decide) rfl f_X11_40 rfl ?_
      refine g_getN (f := 5) hG dX11_broom_30 (eS (by decide)) rfl inX7 (by decide) rfl f_X11_88 rfl ?_
      rcases if_some h with ⟨c15, h⟩ | ⟨c15, h⟩
      · refine g_if_ne (tgt := 43) hG dX11_broom_33 rfl (fun q => absurd c15 q) (fun _ => ?_)
        refine g_aload_n hG dX11_broom_36 rfl ?_
        refine g_ldc hG dX11_broom_37 k_X11_208 ?_
        obtain ⟨v16, σ17, q18, h⟩ := ob_some h
        refine g_cV hG dX11_broom_39 (c_N_T_fail q18) b_X11_fail v_X11_84 rfl (eT g A _ X) rfl ⟨Nat.le_of_ble_eq_true rfl, Nat.le_of_ble_eq_true rfl⟩ ⟨rfl, rfl⟩ ⟨Nat.zero_le _, Nat.zero_le _⟩ _ rfl (Nat.le_of_ble_eq_true rfl) ?_
        cases h
        exact K _ _ dX11_broom_42
      · refine g_if_ne (tgt := 43) hG dX11_broom_33 rfl (fun _ => ?_) (fun q => absurd q c15)
        refine g_iconstv hG dX11_broom_43 ki_0 ?_
        refine g_istore_n hG dX11_broom_44 (by decide) ?_
        refine g_sipushv hG dX11_broom_45 ks_1000 ?_
        refine g_istore hG dX11_broom_48 (by decide) ?_
        refine g_iconstv hG dX11_broom_50 ki_0 ?_
        refine g_istore hG dX11_broom_51 (by decide) ?_
        refine g_loc hG [(0, .ref (A 5 99)), (1, .int x1), (2, .int x2), (3, .int (0 : Int32)), (4, .int (1000 : Int32)), (5, .int (0 : Int32))] ⟨rfl, rfl, rfl, rfl, rfl, rfl, trivial⟩ ?_
        exact s_N_T_broom_b53  hG K FU _ _ _ _ _ _ h
def N_T_liesAs_b2 : Nat → Int32 → Int32 → CS → Option (Int32 × CS)
  | 0, _, _, _ => none
  | n + 1, x1, x2, σ => (if (σ.1 1 5) ≤ x2 then (some ((1 : Int32), σ)) else (gd (inb x1 4) (gd (inb x2 40) (gd (inb x2 12) (if (σ.2.1 6 (ix x1) (ix x2)) = (σ.2.1 1 3 (ix x2)) then ((N_T_liesAs_b2  n) x1 (x2 + (1 : Int32)) σ) else (some ((0 : Int32), σ)))))))
set_option maxRecDepth 100000 in
set_option maxHeartbeats 4000000 in
theorem s_N_T_liesAs_b2 {g : GP} {l : Launch} {A : Nat → Nat → Nat} {X : va_W} {G : GT} {v9 : Int32} {s9 : CS} (hG : IsG g l yX11_liesAs cX11_liesAs 3 { frames := 0, cells := 0, slots := 0, locals := 0 } G) (K : ∀ L pc, decode cX11_liesAs pc = .ok (.ireturn, 1) → isb v9 = true → G 0 0 (wC g A s9 X) L pc [.int v9]) : ∀ (n : Nat) (x1 : Int32) (x2 : Int32) (σ : CS) (h : N_T_liesAs_b2  n x1 x2 σ = some (v9, s9)), G 0 0 (wC g A σ X) [(0, .ref (A 5 99)), (1, .int x1), (2, .int x2)] 2 [] := by
  intro n
  induction n with
  | zero => intro _ _ σ h; cases h
  | succ n ih =>
    intro x1 x2 σ h
    unfold N_T_liesAs_b2 at h
    refine g_iload_n hG dX11_liesAs_2 rfl ?_
    refine g_aload_n hG dX11_liesAs_3 rfl ?_
    refine g_get (f := 1) hG dX11_liesAs_4 (eT g A _ X) rfl inX11 (by decide) rfl f_X11_44 rfl ?_
    refine g_getN (f := 5) hG dX11_liesAs_7 (eS (by decide)) rfl inX7 (by decide) rfl f_X11_88 rfl ?_
    rcases if_some h with ⟨c1, h⟩ | ⟨c1, h⟩
    · refine g_icmp_ge (tgt := 41) hG dX11_liesAs_10 rfl (fun _ => ?_) (fun q => absurd c1 q)
      refine g_iconstv hG dX11_liesAs_41 ki_1 ?_
      cases h
      exact K _ _ dX11_liesAs_42 (by decide)
    · refine g_icmp_ge (tgt := 41) hG dX11_liesAs_10 rfl (fun q => absurd q c1) (fun _ => ?_)
      refine g_aload_n hG dX11_liesAs_13 rfl ?_
      refine g_get (f := 5) hG dX11_liesAs_14 (eT g A _ X) rfl inX11 (by decide) rfl f_X11_66 rfl ?_
      refine g_iload_n hG dX11_liesAs_17 rfl ?_
      obtain ⟨b2, h⟩ := gd_some h
      refine c_num hG dX11_liesAs_18 b2 ?_
      refine g_iload_n hG dX11_liesAs_19 rfl ?_
      obtain ⟨b3, h⟩ := gd_some h
      refine c_iald hG dX11_liesAs_20 (aN (inb_lt b2)) b3 rfl ?_
      refine g_aload_n hG dX11_liesAs_21 rfl ?_
      refine g_get (f := 1) hG dX11_liesAs_22 (eT g A _ X) rfl inX11 (by decide) rfl f_X11_44 rfl ?_
      refine g_getN (f := 3) hG dX11_liesAs_25 (eS (by decide)) rfl inX7 (by decide) rfl f_X11_97 rfl ?_
      refine g_iload_n hG dX11_liesAs_28 rfl ?_
      obtain ⟨b4, h⟩ := gd_some h
      refine c_iald hG dX11_liesAs_29 (aS3 (d := 1) (by decide)) b4 rfl ?_
      rcases if_some h with ⟨c5, h⟩ | ⟨c5, h⟩
      · refine g_icmp_eq (tgt := 35) hG dX11_liesAs_30 rfl (fun _ => ?_) (fun q => absurd c5 q)
        refine g_iincv (c := (1 : Int32)) hG dX11_liesAs_35 rfl (by decide) (by decide) ?_
        refine g_goto (tgt := 2) hG dX11_liesAs_38 rfl ?_
        refine g_loc hG [(0, .ref (A 5 99)), (1, .int x1), (2, .int (x2 + (1 : Int32)))] ⟨rfl, rfl, rfl, trivial⟩ ?_
        exact ih _ _ _ h
      · refine g_icmp_eq (tgt := 35) hG dX11_liesAs_30 rfl (fun q => absurd q c5) (fun _ => ?_)
        refine g_iconstv hG dX11_liesAs_33 ki_0 ?_
        cases h
        exact K _ _ dX11_liesAs_34 (by decide)
def N_T_liesAs (x1 : Int32) (σ : CS) : Option (Int32 × CS) := (N_T_liesAs_b2  FU x1 (0 : Int32) σ)
set_option maxRecDepth 100000 in
set_option maxHeartbeats 4000000 in
theorem c_N_T_liesAs {g : GP} {l : Launch} {A : Nat → Nat → Nat} {X : va_W} {v9 : Int32} {s9 : CS} {x1 : Int32} {σ : CS} (h : N_T_liesAs x1 σ = some (v9, s9)) : CI g l yX11_liesAs cX11_liesAs 3 (some .boolean) { frames := 0, cells := 0, slots := 0, locals := 0 } [.ref (A 5 99), .int x1] (wC g A σ X) (fun r0 w => r0 = v9 ∧ w = wC g A s9 X) := by
  refine CI.mk (by decide) (Nat.le_of_ble_eq_true rfl) (fun G hG hret => ?_)
  have K : ∀ L pc, decode cX11_liesAs pc = .ok (.ireturn, 1) → isb v9 = true → G 0 0 (wC g A s9 X) L pc [.int v9] := fun L pc d hz => hret _ L pc v9 d (isb_n hz) ⟨rfl, rfl⟩
  unfold N_T_liesAs at h
  refine g_iconstv hG dX11_liesAs_0 ki_0 ?_
  refine g_istore_n hG dX11_liesAs_1 (by decide) ?_
  refine g_loc hG [(0, .ref (A 5 99)), (1, .int x1), (2, .int (0 : Int32))] ⟨rfl, rfl, rfl, trivial⟩ ?_
  exact s_N_T_liesAs_b2  hG K FU _ _ _ h
def N_T_fits_b123 (ag63 : Int32 → Int32 → Int32 → Int32 → Int32 → CS → Option (Int32 × CS)) (x1 : Int32) (x2 : Int32) (x3 : Int32) (x4 : Int32) (x5 : Int32) (σ : CS) : Option (Int32 × CS) := (ag63 x1 x2 x3 x4 (x5 + (1 : Int32)) σ)
set_option maxRecDepth 100000 in
set_option maxHeartbeats 4000000 in
theorem s_N_T_fits_b123 {g : GP} {l : Launch} {A : Nat → Nat → Nat} {X : va_W} {G : GT} {v9 : Int32} {s9 : CS} (hG : IsG g l yX11_fits cX11_fits 6 { frames := 5, cells := 0, slots := 0, locals := 159 } G) (K : ∀ L pc, decode cX11_fits pc = .ok (.ireturn, 1) → G 0 0 (wC g A s9 X) L pc [.int v9]) {ag63 : Int32 → Int32 → Int32 → Int32 → Int32 → CS → Option (Int32 × CS)} (hag63 : ∀ (x1 : Int32) (x2 : Int32) (x3 : Int32) (x4 : Int32) (x5 : Int32) (σ : CS), ag63 x1 x2 x3 x4 x5 σ = some (v9, s9) → G 0 0 (wC g A σ X) [(0, .ref (A 5 99)), (1, .int x1), (2, .int x2), (3, .int x3), (4, .int x4), (5, .int x5)] 63 []) {x1 : Int32} {x2 : Int32} {x3 : Int32} {x4 : Int32} {x5 : Int32} {σ : CS} (h : N_T_fits_b123 ag63 x1 x2 x3 x4 x5 σ = some (v9, s9)) : G 0 0 (wC g A σ X) [(0, .ref (A 5 99)), (1, .int x1), (2, .int x2), (3, .int x3), (4, .int x4), (5, .int x5)] 123 [] := by
  unfold N_T_fits_b123 at h
  refine g_iincv (c := (1 : Int32)) hG dX11_fits_123 rfl (by decide) (by decide) ?_
  refine g_goto (tgt := 63) hG dX11_fits_126 rfl ?_
  refine g_loc hG [(0, .ref (A 5 99)), (1, .int x1), (2, .int x2), (3, .int x3), (4, .int x4), (5, .int (x5 + (1 : Int32)))] ⟨rfl, rfl, rfl, rfl, rfl, rfl, trivial⟩ ?_
  exact hag63 _ _ _ _ _ _ h
def N_T_fits_b63 : Nat → Int32 → Int32 → Int32 → Int32 → Int32 → CS → Option (Int32 × CS)
  | 0, _, _, _, _, _, _ => none
  | n + 1, x1, x2, x3, x4, x5, σ => (if (99 : Int32) < x5 then (if x2 = 0 then (some (x3, σ)) else (if x3 = 0 then (ob (N_T_fail (-1000000002 : Int32) σ) fun v25 σ26 => (some (v25, σ26))) else (some (x4, σ)))) else (ob (N_S_thinkOf 1 0  σ) fun v28 σ29 => (lt (si σ29 1 9 x5) fun σ31 => (ob (N_S_passAll 1 (1 : Int32) σ31) fun v33 σ34 => (ob (N_T_liesAs x1 σ34) fun v36 σ37 => (if v36 = 0 then (N_T_fits_b123 (N_T_fits_b63  n) x1 x2 x3 x4 x5 σ37) else (lt (if 0 ≤ x4 then x4 else x5) fun v42 => (N_T_fits_b123 (N_T_fits_b63  n) x1 x2 (x3 + (1 : Int32)) v42 x5 σ37))))))))
set_option maxRecDepth 100000 in
set_option maxHeartbeats 4000000 in
theorem s_N_T_fits_b63 {g : GP} {l : Launch} {A : Nat → Nat → Nat} {X : va_W} {G : GT} {v9 : Int32} {s9 : CS} (hG : IsG g l yX11_fits cX11_fits 6 { frames := 5, cells := 0, slots := 0, locals := 159 } G) (K : ∀ L pc, decode cX11_fits pc = .ok (.ireturn, 1) → G 0 0 (wC g A s9 X) L pc [.int v9]) : ∀ (n : Nat) (x1 : Int32) (x2 : Int32) (x3 : Int32) (x4 : Int32) (x5 : Int32) (σ : CS) (h : N_T_fits_b63  n x1 x2 x3 x4 x5 σ = some (v9, s9)), G 0 0 (wC g A σ X) [(0, .ref (A 5 99)), (1, .int x1), (2, .int x2), (3, .int x3), (4, .int x4), (5, .int x5)] 63 [] := by
  intro n
  induction n with
  | zero => intro _ _ _ _ _ σ h; cases h
  | succ n ih =>
    intro x1 x2 x3 x4 x5 σ h
    unfold N_T_fits_b63 at h
    refine g_iload hG dX11_fits_63 rfl ?_
    refine g_bipushv hG dX11_fits_65 kb_99 ?_
    rcases if_some h with ⟨c22, h⟩ | ⟨c22, h⟩
    · refine g_icmp_gt (tgt := 129) hG dX11_fits_67 rfl (fun _ => ?_) (fun q => absurd c22 q)
      refine g_iload_n hG dX11_fits_129 rfl ?_
      rcases if_some h with ⟨c23, h⟩ | ⟨c23, h⟩
      · refine g_if_ne (tgt := 135) hG dX11_fits_130 rfl (fun q => absurd c23 q) (fun _ => ?_)
        refine g_iload_n hG dX11_fits_133 rfl ?_
        cases h
        exact K _ _ dX11_fits_134
      · refine g_if_ne (tgt := 135) hG dX11_fits_130 rfl (fun _ => ?_) (fun q => absurd q c23)
        refine g_iload_n hG dX11_fits_135 rfl ?_
        rcases if_some h with ⟨c24, h⟩ | ⟨c24, h⟩
        · refine g_if_ne (tgt := 148) hG dX11_fits_136 rfl (fun q => absurd c24 q) (fun _ => ?_)
          refine g_aload_n hG dX11_fits_139 rfl ?_
          refine g_ldc hG dX11_fits_140 k_X11_208 ?_
          obtain ⟨v25, σ26, q27, h⟩ := ob_some h
          refine g_cV hG dX11_fits_142 (c_N_T_fail q27) b_X11_fail v_X11_84 rfl (eT g A _ X) rfl ⟨Nat.le_of_ble_eq_true rfl, Nat.le_of_ble_eq_true rfl⟩ ⟨rfl, rfl⟩ ⟨Nat.zero_le _, Nat.zero_le _⟩ _ rfl (Nat.le_of_ble_eq_true rfl) ?_
          refine g_goto (tgt := 150) hG dX11_fits_145 rfl ?_
          cases h
          exact K _ _ dX11_fits_150
        · refine g_if_ne (tgt := 148) hG dX11_fits_136 rfl (fun _ => ?_) (fun q => absurd q c24)
          refine g_iload hG dX11_fits_148 rfl ?_
          cases h
          exact K _ _ dX11_fits_150
    · refine g_icmp_gt (tgt := 129) hG dX11_fits_67 rfl (fun q => absurd q c22) (fun _ => ?_)
      refine g_aload_n hG dX11_fits_70 rfl ?_
      refine g_get (f := 1) hG dX11_fits_71 (eT g A _ X) rfl inX11 (by decide) rfl f_X11_44 rfl ?_
      refine g_aload_n hG dX11_fits_74 rfl ?_
      refine g_get (f := 0) hG dX11_fits_75 (eT g A _ X) rfl inX11 (by decide) rfl f_X11_40 rfl ?_
      obtain ⟨v28, σ29, q30, h⟩ := ob_some h
      refine g_cVv hG dX11_fits_78 (c_N_S_thinkOf (by decide) (by decide) q30) b_X7_thinkOf v_X11_198 rfl (eS (by decide)) rfl ⟨Nat.le_of_ble_eq_true rfl, Nat.le_of_ble_eq_true rfl⟩ ⟨rfl, rfl⟩ ⟨Nat.zero_le _, Nat.zero_le _⟩ _ rfl (Nat.le_of_ble_eq_true rfl) ?_
      refine g_aload_n hG dX11_fits_81 rfl ?_
      refine g_get (f := 1) hG dX11_fits_82 (eT g A _ X) rfl inX11 (by decide) rfl f_X11_44 rfl ?_
      refine g_iload hG dX11_fits_85 rfl ?_
      obtain ⟨σ31, e32, h⟩ := lt_ex h
      refine t_putN 9 hG (by decide) e32 dX11_fits_87 f_X11_141 (by decide) (by decide) rfl rfl rfl ?_
      refine g_aload_n hG dX11_fits_90 rfl ?_
      refine g_get (f := 1) hG dX11_fits_91 (eT g A _ X) rfl inX11 (by decide) rfl f_X11_44 rfl ?_
      refine g_iconstv hG dX11_fits_94 ki_1 ?_
      obtain ⟨v33, σ34, q35, h⟩ := ob_some h
      refine g_cVv hG dX11_fits_95 (c_N_S_passAll (by decide) q35) b_X7_passAll v_X11_187 rfl (eS (by decide)) rfl ⟨Nat.le_of_ble_eq_true rfl, Nat.le_of_ble_eq_true rfl⟩ ⟨rfl, rfl⟩ ⟨Nat.zero_le _, Nat.zero_le _⟩ _ rfl (Nat.le_of_ble_eq_true rfl) ?_
      refine g_aload_n hG dX11_fits_98 rfl ?_
      refine g_iload_n hG dX11_fits_99 rfl ?_
      obtain ⟨v36, σ37, q38, h⟩ := ob_some h
      refine g_cV hG dX11_fits_100 (c_N_T_liesAs q38) b_X11_liesAs v_X11_233 rfl (eT g A _ X) rfl ⟨Nat.le_of_ble_eq_true rfl, Nat.le_of_ble_eq_true rfl⟩ ⟨rfl, rfl⟩ ⟨Nat.zero_le _, Nat.zero_le _⟩ _ rfl (Nat.le_of_ble_eq_true rfl) ?_
      rcases if_some h with ⟨c39, h⟩ | ⟨c39, h⟩
      · refine g_if_eq (tgt := 123) hG dX11_fits_103 rfl (fun _ => ?_) (fun q => absurd c39 q)
        refine g_loc hG [(0, .ref (A 5 99)), (1, .int x1), (2, .int x2), (3, .int x3), (4, .int x4), (5, .int x5)] ⟨rfl, rfl, rfl, rfl, rfl, rfl, trivial⟩ ?_
        exact s_N_T_fits_b123  hG K ih h
      · refine g_if_eq (tgt := 123) hG dX11_fits_103 rfl (fun q => absurd q c39) (fun _ => ?_)
        refine g_iincv (c := (1 : Int32)) hG dX11_fits_106 rfl (by decide) (by decide) ?_
        refine g_iload hG dX11_fits_109 rfl ?_
        refine g_dia1 (if 0 ≤ x4 then x4 else x5) 121 (fun J40 => ?_) ?_
        · by_cases c41 : 0 ≤ x4
          · refine g_if_ge (tgt := 119) hG dX11_fits_111 rfl (fun _ => ?_) (fun q => absurd c41 q)
            refine g_iload hG dX11_fits_119 rfl ?_
            rw [if_pos c41] at J40
            exact J40
          · refine g_if_ge (tgt := 119) hG dX11_fits_111 rfl (fun q => absurd q c41) (fun _ => ?_)
            refine g_iload hG dX11_fits_114 rfl ?_
            refine g_goto (tgt := 121) hG dX11_fits_116 rfl ?_
            rw [if_neg c41] at J40
            exact J40
        obtain ⟨v42, e43, h⟩ := lt_ex h
        refine g_nam e43 ?_
        refine g_istore hG dX11_fits_121 (by decide) ?_
        refine g_loc hG [(0, .ref (A 5 99)), (1, .int x1), (2, .int x2), (3, .int (x3 + (1 : Int32))), (4, .int v42), (5, .int x5)] ⟨rfl, rfl, rfl, rfl, rfl, rfl, trivial⟩ ?_
        exact s_N_T_fits_b123  hG K ih h
def N_T_fits (x1 : Int32) (x2 : Int32) (σ : CS) : Option (Int32 × CS) := (ob (N_T_isSheet x1 σ) fun v1 σ2 => (if v1 = 0 then (ob (N_T_fail (-1000000001 : Int32) σ2) fun v5 σ6 => (some (v5, σ6))) else (ob (N_T_within x2 (0 : Int32) (1 : Int32) σ2) fun v8 σ9 => (if v8 = 0 then (ob (N_T_fail (-1000000001 : Int32) σ9) fun v12 σ13 => (some (v12, σ13))) else (gd (inb x1 4) (if (σ9.2.1 5 6 (ix x1)) = 0 then (ob (N_T_fail (-1000000002 : Int32) σ9) fun v17 σ18 => (some (v17, σ18))) else (gd (inb x1 4) (if (σ9.2.1 5 7 (ix x1)) = (σ9.1 0 5) then (N_T_fits_b63  FU x1 x2 (0 : Int32) (-1 : Int32) (0 : Int32) σ9) else (ob (N_T_fail (-1000000002 : Int32) σ9) fun v44 σ45 => (some (v44, σ45)))))))))))
set_option maxRecDepth 100000 in
set_option maxHeartbeats 4000000 in
theorem c_N_T_fits {g : GP} {l : Launch} {A : Nat → Nat → Nat} {X : va_W} {v9 : Int32} {s9 : CS} {x1 : Int32} {x2 : Int32} {σ : CS} (h : N_T_fits x1 x2 σ = some (v9, s9)) : CI g l yX11_fits cX11_fits 6 (some .int) { frames := 5, cells := 0, slots := 0, locals := 159 } [.ref (A 5 99), .int x1, .int x2] (wC g A σ X) (fun r0 w => r0 = v9 ∧ w = wC g A s9 X) := by
  refine CI.mk (by decide) (Nat.le_of_ble_eq_true rfl) (fun G hG hret => ?_)
  have K : ∀ L pc, decode cX11_fits pc = .ok (.ireturn, 1) → G 0 0 (wC g A s9 X) L pc [.int v9] := fun L pc d => hret _ L pc v9 d rfl ⟨rfl, rfl⟩
  unfold N_T_fits at h
  refine g_iload_n hG dX11_fits_0 rfl ?_
  obtain ⟨v1, σ2, q3, h⟩ := ob_some h
  refine g_cS hG dX11_fits_1 (c_N_T_isSheet q3) b_X11_isSheet v_X11_230 rfl ⟨Nat.le_of_ble_eq_true rfl, Nat.le_of_ble_eq_true rfl⟩ ⟨rfl, rfl⟩ ⟨Nat.zero_le _, Nat.zero_le _⟩ _ rfl (Nat.le_of_ble_eq_true rfl) ?_
  rcases if_some h with ⟨c4, h⟩ | ⟨c4, h⟩
  · refine g_if_eq (tgt := 16) hG dX11_fits_4 rfl (fun _ => ?_) (fun q => absurd c4 q)
    refine g_aload_n hG dX11_fits_16 rfl ?_
    refine g_ldc hG dX11_fits_17 k_X11_83 ?_
    obtain ⟨v5, σ6, q7, h⟩ := ob_some h
    refine g_cV hG dX11_fits_19 (c_N_T_fail q7) b_X11_fail v_X11_84 rfl (eT g A _ X) rfl ⟨Nat.le_of_ble_eq_true rfl, Nat.le_of_ble_eq_true rfl⟩ ⟨rfl, rfl⟩ ⟨Nat.zero_le _, Nat.zero_le _⟩ _ rfl (Nat.le_of_ble_eq_true rfl) ?_
    cases h
    exact K _ _ dX11_fits_22
  · refine g_if_eq (tgt := 16) hG dX11_fits_4 rfl (fun q => absurd q c4) (fun _ => ?_)
    refine g_iload_n hG dX11_fits_7 rfl ?_
    refine g_iconstv hG dX11_fits_8 ki_0 ?_
    refine g_iconstv hG dX11_fits_9 ki_1 ?_
    obtain ⟨v8, σ9, q10, h⟩ := ob_some h
    refine g_cS hG dX11_fits_10 (c_N_T_within q10) b_X11_within v_X11_79 rfl ⟨Nat.le_of_ble_eq_true rfl, Nat.le_of_ble_eq_true rfl⟩ ⟨rfl, rfl⟩ ⟨Nat.zero_le _, Nat.zero_le _⟩ _ rfl (Nat.le_of_ble_eq_true rfl) ?_
    rcases if_some h with ⟨c11, h⟩ | ⟨c11, h⟩
    · refine g_if_ne (tgt := 23) hG dX11_fits_13 rfl (fun q => absurd c11 q) (fun _ => ?_)
      refine g_aload_n hG dX11_fits_16 rfl ?_
      refine g_ldc hG dX11_fits_17 k_X11_83 ?_
      obtain ⟨v12, σ13, q14, h⟩ := ob_some h
      refine g_cV hG dX11_fits_19 (c_N_T_fail q14) b_X11_fail v_X11_84 rfl (eT g A _ X) rfl ⟨Nat.le_of_ble_eq_true rfl, Nat.le_of_ble_eq_true rfl⟩ ⟨rfl, rfl⟩ ⟨Nat.zero_le _, Nat.zero_le _⟩ _ rfl (Nat.le_of_ble_eq_true rfl) ?_
      cases h
      exact K _ _ dX11_fits_22
    · refine g_if_ne (tgt := 23) hG dX11_fits_13 rfl (fun _ => ?_) (fun q => absurd q c11)
      refine g_aload_n hG dX11_fits_23 rfl ?_
      refine g_get (f := 6) hG dX11_fits_24 (eT g A _ X) rfl inX11 (by decide) rfl f_X11_69 rfl ?_
      refine g_iload_n hG dX11_fits_27 rfl ?_
      obtain ⟨b15, h⟩ := gd_some h
      refine c_iald hG dX11_fits_28 aT6 b15 rfl ?_
      rcases if_some h with ⟨c16, h⟩ | ⟨c16, h⟩
      · refine g_if_eq (tgt := 48) hG dX11_fits_29 rfl (fun _ => ?_) (fun q => absurd c16 q)
        refine g_aload_n hG dX11_fits_48 rfl ?_
        refine g_ldc hG dX11_fits_49 k_X11_208 ?_
        obtain ⟨v17, σ18, q19, h⟩ := ob_some h
        refine g_cV hG dX11_fits_51 (c_N_T_fail q19) b_X11_fail v_X11_84 rfl (eT g A _ X) rfl ⟨Nat.le_of_ble_eq_true rfl, Nat.le_of_ble_eq_true rfl⟩ ⟨rfl, rfl⟩ ⟨Nat.zero_le _, Nat.zero_le _⟩ _ rfl (Nat.le_of_ble_eq_true rfl) ?_
        cases h
        exact K _ _ dX11_fits_54
      · refine g_if_eq (tgt := 48) hG dX11_fits_29 rfl (fun q => absurd q c16) (fun _ => ?_)
        refine g_aload_n hG dX11_fits_32 rfl ?_
        refine g_get (f := 7) hG dX11_fits_33 (eT g A _ X) rfl inX11 (by decide) rfl f_X11_73 rfl ?_
        refine g_iload_n hG dX11_fits_36 rfl ?_
        obtain ⟨b20, h⟩ := gd_some h
        refine c_iald hG dX11_fits_37 aT7 b20 rfl ?_
        refine g_aload_n hG dX11_fits_38 rfl ?_
        refine g_get (f := 0) hG dX11_fits_39 (eT g A _ X) rfl inX11 (by decide) rfl f_X11_40 rfl ?_
        refine g_getN (f := 5) hG dX11_fits_42 (eS (by decide)) rfl inX7 (by decide) rfl f_X11_88 rfl ?_
        rcases if_some h with ⟨c21, h⟩ | ⟨c21, h⟩
        · refine g_icmp_eq (tgt := 55) hG dX11_fits_45 rfl (fun _ => ?_) (fun q => absurd c21 q)
          refine g_iconstv hG dX11_fits_55 ki_0 ?_
          refine g_istore_n hG dX11_fits_56 (by decide) ?_
          refine g_iconstv hG dX11_fits_57 ki_m1 ?_
          refine g_istore hG dX11_fits_58 (by decide) ?_
          refine g_iconstv hG dX11_fits_60 ki_0 ?_
          refine g_istore hG dX11_fits_61 (by decide) ?_
          refine g_loc hG [(0, .ref (A 5 99)), (1, .int x1), (2, .int x2), (3, .int (0 : Int32)), (4, .int (-1 : Int32)), (5, .int (0 : Int32))] ⟨rfl, rfl, rfl, rfl, rfl, rfl, trivial⟩ ?_
          exact s_N_T_fits_b63  hG K FU _ _ _ _ _ _ h
        · refine g_icmp_eq (tgt := 55) hG dX11_fits_45 rfl (fun q => absurd q c21) (fun _ => ?_)
          refine g_aload_n hG dX11_fits_48 rfl ?_
          refine g_ldc hG dX11_fits_49 k_X11_208 ?_
          obtain ⟨v44, σ45, q46, h⟩ := ob_some h
          refine g_cV hG dX11_fits_51 (c_N_T_fail q46) b_X11_fail v_X11_84 rfl (eT g A _ X) rfl ⟨Nat.le_of_ble_eq_true rfl, Nat.le_of_ble_eq_true rfl⟩ ⟨rfl, rfl⟩ ⟨Nat.zero_le _, Nat.zero_le _⟩ _ rfl (Nat.le_of_ble_eq_true rfl) ?_
          cases h
          exact K _ _ dX11_fits_54
def N_T_paid (x1 : Int32) (σ : CS) : Option (Int32 × CS) := (ob (N_T_within x1 (0 : Int32) (60 : Int32) σ) fun v1 σ2 => (if v1 = 0 then (ob (N_T_fail (-1000000001 : Int32) σ2) fun v5 σ6 => (some (v5, σ6))) else (ob (N_S_thinkOf 1 0  σ2) fun v8 σ9 => (ob (N_S_passAll 1 x1 σ9) fun v11 σ12 => (some (((σ12.1 1 10) - (σ12.1 0 10)), σ12))))))
set_option maxRecDepth 100000 in
set_option maxHeartbeats 4000000 in
theorem c_N_T_paid {g : GP} {l : Launch} {A : Nat → Nat → Nat} {X : va_W} {v9 : Int32} {s9 : CS} {x1 : Int32} {σ : CS} (h : N_T_paid x1 σ = some (v9, s9)) : CI g l yX11_paid cX11_paid 2 (some .int) { frames := 5, cells := 0, slots := 0, locals := 159 } [.ref (A 5 99), .int x1] (wC g A σ X) (fun r0 w => r0 = v9 ∧ w = wC g A s9 X) := by
  refine CI.mk (by decide) (Nat.le_of_ble_eq_true rfl) (fun G hG hret => ?_)
  have K : ∀ L pc, decode cX11_paid pc = .ok (.ireturn, 1) → G 0 0 (wC g A s9 X) L pc [.int v9] := fun L pc d => hret _ L pc v9 d rfl ⟨rfl, rfl⟩
  unfold N_T_paid at h
  refine g_iload_n hG dX11_paid_0 rfl ?_
  refine g_iconstv hG dX11_paid_1 ki_0 ?_
  refine g_bipushv hG dX11_paid_2 kb_60 ?_
  obtain ⟨v1, σ2, q3, h⟩ := ob_some h
  refine g_cS hG dX11_paid_4 (c_N_T_within q3) b_X11_within v_X11_79 rfl ⟨Nat.le_of_ble_eq_true rfl, Nat.le_of_ble_eq_true rfl⟩ ⟨rfl, rfl⟩ ⟨Nat.zero_le _, Nat.zero_le _⟩ _ rfl (Nat.le_of_ble_eq_true rfl) ?_
  rcases if_some h with ⟨c4, h⟩ | ⟨c4, h⟩
  · refine g_if_ne (tgt := 17) hG dX11_paid_7 rfl (fun q => absurd c4 q) (fun _ => ?_)
    refine g_aload_n hG dX11_paid_10 rfl ?_
    refine g_ldc hG dX11_paid_11 k_X11_83 ?_
    obtain ⟨v5, σ6, q7, h⟩ := ob_some h
    refine g_cV hG dX11_paid_13 (c_N_T_fail q7) b_X11_fail v_X11_84 rfl (eT g A _ X) rfl ⟨Nat.le_of_ble_eq_true rfl, Nat.le_of_ble_eq_true rfl⟩ ⟨rfl, rfl⟩ ⟨Nat.zero_le _, Nat.zero_le _⟩ _ rfl (Nat.le_of_ble_eq_true rfl) ?_
    cases h
    exact K _ _ dX11_paid_16
  · refine g_if_ne (tgt := 17) hG dX11_paid_7 rfl (fun _ => ?_) (fun q => absurd q c4)
    refine g_aload_n hG dX11_paid_17 rfl ?_
    refine g_get (f := 1) hG dX11_paid_18 (eT g A _ X) rfl inX11 (by decide) rfl f_X11_44 rfl ?_
    refine g_aload_n hG dX11_paid_21 rfl ?_
    refine g_get (f := 0) hG dX11_paid_22 (eT g A _ X) rfl inX11 (by decide) rfl f_X11_40 rfl ?_
    obtain ⟨v8, σ9, q10, h⟩ := ob_some h
    refine g_cVv hG dX11_paid_25 (c_N_S_thinkOf (by decide) (by decide) q10) b_X7_thinkOf v_X11_198 rfl (eS (by decide)) rfl ⟨Nat.le_of_ble_eq_true rfl, Nat.le_of_ble_eq_true rfl⟩ ⟨rfl, rfl⟩ ⟨Nat.zero_le _, Nat.zero_le _⟩ _ rfl (Nat.le_of_ble_eq_true rfl) ?_
    refine g_aload_n hG dX11_paid_28 rfl ?_
    refine g_get (f := 1) hG dX11_paid_29 (eT g A _ X) rfl inX11 (by decide) rfl f_X11_44 rfl ?_
    refine g_iload_n hG dX11_paid_32 rfl ?_
    obtain ⟨v11, σ12, q13, h⟩ := ob_some h
    refine g_cVv hG dX11_paid_33 (c_N_S_passAll (by decide) q13) b_X7_passAll v_X11_187 rfl (eS (by decide)) rfl ⟨Nat.le_of_ble_eq_true rfl, Nat.le_of_ble_eq_true rfl⟩ ⟨rfl, rfl⟩ ⟨Nat.zero_le _, Nat.zero_le _⟩ _ rfl (Nat.le_of_ble_eq_true rfl) ?_
    refine g_aload_n hG dX11_paid_36 rfl ?_
    refine g_get (f := 1) hG dX11_paid_37 (eT g A _ X) rfl inX11 (by decide) rfl f_X11_44 rfl ?_
    refine g_getN (f := 10) hG dX11_paid_40 (eS (by decide)) rfl inX7 (by decide) rfl f_X11_144 rfl ?_
    refine g_aload_n hG dX11_paid_43 rfl ?_
    refine g_get (f := 0) hG dX11_paid_44 (eT g A _ X) rfl inX11 (by decide) rfl f_X11_40 rfl ?_
    refine g_getN (f := 10) hG dX11_paid_47 (eS (by decide)) rfl inX7 (by decide) rfl f_X11_144 rfl ?_
    refine g_isub hG dX11_paid_50 ?_
    cases h
    exact K _ _ dX11_paid_51
def N_T_bell (x1 : Int32) (σ : CS) : Option (Int32 × CS) := (ob (N_T_within x1 (0 : Int32) (60 : Int32) σ) fun v1 σ2 => (if v1 = 0 then (ob (N_T_fail (-1000000001 : Int32) σ2) fun v5 σ6 => (some (v5, σ6))) else (ob (N_S_thinkOf 1 0  σ2) fun v8 σ9 => (ob (N_S_passAll 1 x1 σ9) fun v11 σ12 => (ob (N_S_dirtOfAll 1  σ12) fun v14 σ15 => (ob (N_S_thinkOf 1 0  σ15) fun v17 σ18 => (lt (si σ18 1 6 (0 : Int32)) fun σ20 => (ob (N_S_passAll 1 x1 σ20) fun v22 σ23 => (ob (N_S_dirtOfAll 1  σ23) fun v25 σ26 => (some ((v14 - v25), σ26)))))))))))
set_option maxRecDepth 100000 in
set_option maxHeartbeats 4000000 in
theorem c_N_T_bell {g : GP} {l : Launch} {A : Nat → Nat → Nat} {X : va_W} {v9 : Int32} {s9 : CS} {x1 : Int32} {σ : CS} (h : N_T_bell x1 σ = some (v9, s9)) : CI g l yX11_bell cX11_bell 3 (some .int) { frames := 5, cells := 0, slots := 0, locals := 159 } [.ref (A 5 99), .int x1] (wC g A σ X) (fun r0 w => r0 = v9 ∧ w = wC g A s9 X) := by
  refine CI.mk (by decide) (Nat.le_of_ble_eq_true rfl) (fun G hG hret => ?_)
  have K : ∀ L pc, decode cX11_bell pc = .ok (.ireturn, 1) → G 0 0 (wC g A s9 X) L pc [.int v9] := fun L pc d => hret _ L pc v9 d rfl ⟨rfl, rfl⟩
  unfold N_T_bell at h
  refine g_iload_n hG dX11_bell_0 rfl ?_
  refine g_iconstv hG dX11_bell_1 ki_0 ?_
  refine g_bipushv hG dX11_bell_2 kb_60 ?_
  obtain ⟨v1, σ2, q3, h⟩ := ob_some h
  refine g_cS hG dX11_bell_4 (c_N_T_within q3) b_X11_within v_X11_79 rfl ⟨Nat.le_of_ble_eq_true rfl, Nat.le_of_ble_eq_true rfl⟩ ⟨rfl, rfl⟩ ⟨Nat.zero_le _, Nat.zero_le _⟩ _ rfl (Nat.le_of_ble_eq_true rfl) ?_
  rcases if_some h with ⟨c4, h⟩ | ⟨c4, h⟩
  · refine g_if_ne (tgt := 17) hG dX11_bell_7 rfl (fun q => absurd c4 q) (fun _ => ?_)
    refine g_aload_n hG dX11_bell_10 rfl ?_
    refine g_ldc hG dX11_bell_11 k_X11_83 ?_
    obtain ⟨v5, σ6, q7, h⟩ := ob_some h
    refine g_cV hG dX11_bell_13 (c_N_T_fail q7) b_X11_fail v_X11_84 rfl (eT g A _ X) rfl ⟨Nat.le_of_ble_eq_true rfl, Nat.le_of_ble_eq_true rfl⟩ ⟨rfl, rfl⟩ ⟨Nat.zero_le _, Nat.zero_le _⟩ _ rfl (Nat.le_of_ble_eq_true rfl) ?_
    cases h
    exact K _ _ dX11_bell_16
  · refine g_if_ne (tgt := 17) hG dX11_bell_7 rfl (fun _ => ?_) (fun q => absurd q c4)
    refine g_aload_n hG dX11_bell_17 rfl ?_
    refine g_get (f := 1) hG dX11_bell_18 (eT g A _ X) rfl inX11 (by decide) rfl f_X11_44 rfl ?_
    refine g_aload_n hG dX11_bell_21 rfl ?_
    refine g_get (f := 0) hG dX11_bell_22 (eT g A _ X) rfl inX11 (by decide) rfl f_X11_40 rfl ?_
    obtain ⟨v8, σ9, q10, h⟩ := ob_some h
    refine g_cVv hG dX11_bell_25 (c_N_S_thinkOf (by decide) (by decide) q10) b_X7_thinkOf v_X11_198 rfl (eS (by decide)) rfl ⟨Nat.le_of_ble_eq_true rfl, Nat.le_of_ble_eq_true rfl⟩ ⟨rfl, rfl⟩ ⟨Nat.zero_le _, Nat.zero_le _⟩ _ rfl (Nat.le_of_ble_eq_true rfl) ?_
    refine g_aload_n hG dX11_bell_28 rfl ?_
    refine g_get (f := 1) hG dX11_bell_29 (eT g A _ X) rfl inX11 (by decide) rfl f_X11_44 rfl ?_
    refine g_iload_n hG dX11_bell_32 rfl ?_
    obtain ⟨v11, σ12, q13, h⟩ := ob_some h
    refine g_cVv hG dX11_bell_33 (c_N_S_passAll (by decide) q13) b_X7_passAll v_X11_187 rfl (eS (by decide)) rfl ⟨Nat.le_of_ble_eq_true rfl, Nat.le_of_ble_eq_true rfl⟩ ⟨rfl, rfl⟩ ⟨Nat.zero_le _, Nat.zero_le _⟩ _ rfl (Nat.le_of_ble_eq_true rfl) ?_
    refine g_aload_n hG dX11_bell_36 rfl ?_
    refine g_get (f := 1) hG dX11_bell_37 (eT g A _ X) rfl inX11 (by decide) rfl f_X11_44 rfl ?_
    obtain ⟨v14, σ15, q16, h⟩ := ob_some h
    refine g_cV hG dX11_bell_40 (c_N_S_dirtOfAll (by decide) q16) b_X7_dirtOfAll v_X11_191 rfl (eS (by decide)) rfl ⟨Nat.le_of_ble_eq_true rfl, Nat.le_of_ble_eq_true rfl⟩ ⟨rfl, rfl⟩ ⟨Nat.zero_le _, Nat.zero_le _⟩ _ rfl (Nat.le_of_ble_eq_true rfl) ?_
    refine g_istore_n hG dX11_bell_43 (by decide) ?_
    refine g_aload_n hG dX11_bell_44 rfl ?_
    refine g_get (f := 1) hG dX11_bell_45 (eT g A _ X) rfl inX11 (by decide) rfl f_X11_44 rfl ?_
    refine g_aload_n hG dX11_bell_48 rfl ?_
    refine g_get (f := 0) hG dX11_bell_49 (eT g A _ X) rfl inX11 (by decide) rfl f_X11_40 rfl ?_
    obtain ⟨v17, σ18, q19, h⟩ := ob_some h
    refine g_cVv hG dX11_bell_52 (c_N_S_thinkOf (by decide) (by decide) q19) b_X7_thinkOf v_X11_198 rfl (eS (by decide)) rfl ⟨Nat.le_of_ble_eq_true rfl, Nat.le_of_ble_eq_true rfl⟩ ⟨rfl, rfl⟩ ⟨Nat.zero_le _, Nat.zero_le _⟩ _ rfl (Nat.le_of_ble_eq_true rfl) ?_
    refine g_aload_n hG dX11_bell_55 rfl ?_
    refine g_get (f := 1) hG dX11_bell_56 (eT g A _ X) rfl inX11 (by decide) rfl f_X11_44 rfl ?_
    refine g_iconstv hG dX11_bell_59 ki_0 ?_
    obtain ⟨σ20, e21, h⟩ := lt_ex h
    refine t_putN 6 hG (by decide) e21 dX11_bell_60 f_X11_236 (by decide) (by decide) rfl rfl rfl ?_
    refine g_aload_n hG dX11_bell_63 rfl ?_
    refine g_get (f := 1) hG dX11_bell_64 (eT g A _ X) rfl inX11 (by decide) rfl f_X11_44 rfl ?_
    refine g_iload_n hG dX11_bell_67 rfl ?_
    obtain ⟨v22, σ23, q24, h⟩ := ob_some h
    refine g_cVv hG dX11_bell_68 (c_N_S_passAll (by decide) q24) b_X7_passAll v_X11_187 rfl (eS (by decide)) rfl ⟨Nat.le_of_ble_eq_true rfl, Nat.le_of_ble_eq_true rfl⟩ ⟨rfl, rfl⟩ ⟨Nat.zero_le _, Nat.zero_le _⟩ _ rfl (Nat.le_of_ble_eq_true rfl) ?_
    refine g_iload_n hG dX11_bell_71 rfl ?_
    refine g_aload_n hG dX11_bell_72 rfl ?_
    refine g_get (f := 1) hG dX11_bell_73 (eT g A _ X) rfl inX11 (by decide) rfl f_X11_44 rfl ?_
    obtain ⟨v25, σ26, q27, h⟩ := ob_some h
    refine g_cV hG dX11_bell_76 (c_N_S_dirtOfAll (by decide) q27) b_X7_dirtOfAll v_X11_191 rfl (eS (by decide)) rfl ⟨Nat.le_of_ble_eq_true rfl, Nat.le_of_ble_eq_true rfl⟩ ⟨rfl, rfl⟩ ⟨Nat.zero_le _, Nat.zero_le _⟩ _ rfl (Nat.le_of_ble_eq_true rfl) ?_
    refine g_isub hG dX11_bell_79 ?_
    cases h
    exact K _ _ dX11_bell_80
def N_T_odds_b114 (ag71 : Int32 → Int32 → Int32 → Int32 → Int32 → Int32 → Int32 → CS → Option (Int32 × CS)) (x1 : Int32) (x2 : Int32) (x3 : Int32) (x4 : Int32) (x6 : Int32) (x7 : Int32) (x8 : Int32) (σ : CS) : Option (Int32 × CS) := (ag71 x1 x2 x3 x4 x6 x7 (x8 + (1 : Int32)) σ)
set_option maxRecDepth 100000 in
set_option maxHeartbeats 4000000 in
theorem s_N_T_odds_b114 {g : GP} {l : Launch} {A : Nat → Nat → Nat} {X : va_W} {G : GT} {v9 : Int32} {s9 : CS} (hG : IsG g l yX11_odds cX11_odds 9 { frames := 5, cells := 0, slots := 0, locals := 162 } G) (K : ∀ L pc, decode cX11_odds pc = .ok (.ireturn, 1) → G 0 0 (wC g A s9 X) L pc [.int v9]) {ag71 : Int32 → Int32 → Int32 → Int32 → Int32 → Int32 → Int32 → CS → Option (Int32 × CS)} (hag71 : ∀ (x1 : Int32) (x2 : Int32) (x3 : Int32) (x4 : Int32) (x6 : Int32) (x7 : Int32) (x8 : Int32) (σ : CS), ag71 x1 x2 x3 x4 x6 x7 x8 σ = some (v9, s9) → G 0 0 (wC g A σ X) [(0, .ref (A 5 99)), (1, .int x1), (2, .int x2), (3, .int x3), (4, .int x4), (6, .int x6), (7, .int x7), (8, .int x8)] 71 []) {x1 : Int32} {x2 : Int32} {x3 : Int32} {x4 : Int32} {x6 : Int32} {x7 : Int32} {x8 : Int32} {σ : CS} (h : N_T_odds_b114 ag71 x1 x2 x3 x4 x6 x7 x8 σ = some (v9, s9)) : G 0 0 (wC g A σ X) [(0, .ref (A 5 99)), (1, .int x1), (2, .int x2), (3, .int x3), (4, .int x4), (6, .int x6), (7, .int x7), (8, .int x8)] 114 [] := by
  unfold N_T_odds_b114 at h
  refine g_iincv (c := (1 : Int32)) hG dX11_odds_114 rfl (by decide) (by decide) ?_
  refine g_goto (tgt := 71) hG dX11_odds_117 rfl ?_
  refine g_loc hG [(0, .ref (A 5 99)), (1, .int x1), (2, .int x2), (3, .int x3), (4, .int x4), (6, .int x6), (7, .int x7), (8, .int (x8 + (1 : Int32)))] ⟨rfl, rfl, rfl, rfl, rfl, rfl, rfl, rfl, trivial⟩ ?_
  exact hag71 _ _ _ _ _ _ _ _ h
def N_T_odds_b71 : Nat → Int32 → Int32 → Int32 → Int32 → Int32 → Int32 → Int32 → CS → Option (Int32 × CS)
  | 0, _, _, _, _, _, _, _, _ => none
  | n + 1, x1, x2, x3, x4, x6, x7, x8, σ => (if x6 ≤ x8 then (ob (N_T_commonPart x7 x6 σ) fun v26 σ27 => (gd (nz v26) (some (((if x4 = 0 then x7 else x6) / v26), σ27)))) else (ob (N_S_thinkOf 1 0  σ) fun v30 σ31 => (lt (si σ31 1 8 x8) fun σ33 => (ob (N_S_dirtBehind 1 x3 x1 σ33) fun v35 σ36 => (if x2 ≤ v35 then (N_T_odds_b114 (N_T_odds_b71  n) x1 x2 x3 x4 x6 x7 x8 σ36) else (N_T_odds_b114 (N_T_odds_b71  n) x1 x2 x3 x4 x6 (x7 + (1 : Int32)) x8 σ36))))))
set_option maxRecDepth 100000 in
set_option maxHeartbeats 4000000 in
theorem s_N_T_odds_b71 {g : GP} {l : Launch} {A : Nat → Nat → Nat} {X : va_W} {G : GT} {v9 : Int32} {s9 : CS} (hG : IsG g l yX11_odds cX11_odds 9 { frames := 5, cells := 0, slots := 0, locals := 162 } G) (K : ∀ L pc, decode cX11_odds pc = .ok (.ireturn, 1) → G 0 0 (wC g A s9 X) L pc [.int v9]) : ∀ (n : Nat) (x1 : Int32) (x2 : Int32) (x3 : Int32) (x4 : Int32) (x6 : Int32) (x7 : Int32) (x8 : Int32) (σ : CS) (h : N_T_odds_b71  n x1 x2 x3 x4 x6 x7 x8 σ = some (v9, s9)), G 0 0 (wC g A σ X) [(0, .ref (A 5 99)), (1, .int x1), (2, .int x2), (3, .int x3), (4, .int x4), (6, .int x6), (7, .int x7), (8, .int x8)] 71 [] := by
  intro n
  induction n with
  | zero => intro _ _ _ _ _ _ _ σ h; cases h
  | succ n ih =>
    intro x1 x2 x3 x4 x6 x7 x8 σ h
    unfold N_T_odds_b71 at h
    refine g_iload hG dX11_odds_71 rfl ?_
    refine g_iload hG dX11_odds_73 rfl ?_
    rcases if_some h with ⟨c23, h⟩ | ⟨c23, h⟩
    · refine g_icmp_ge (tgt := 120) hG dX11_odds_75 rfl (fun _ => ?_) (fun q => absurd c23 q)
      refine g_iload hG dX11_odds_120 rfl ?_
      refine g_dia1 (if x4 = 0 then x7 else x6) 132 (fun J24 => ?_) ?_
      · by_cases c25 : x4 = 0
        · refine g_if_ne (tgt := 130) hG dX11_odds_122 rfl (fun q => absurd c25 q) (fun _ => ?_)
          refine g_iload hG dX11_odds_125 rfl ?_
          refine g_goto (tgt := 132) hG dX11_odds_127 rfl ?_
          rw [if_pos c25] at J24
          exact J24
        · refine g_if_ne (tgt := 130) hG dX11_odds_122 rfl (fun _ => ?_) (fun q => absurd q c25)
          refine g_iload hG dX11_odds_130 rfl ?_
          rw [if_neg c25] at J24
          exact J24
      refine g_iload hG dX11_odds_132 rfl ?_
      refine g_iload hG dX11_odds_134 rfl ?_
      obtain ⟨v26, σ27, q28, h⟩ := ob_some h
      refine g_cS hG dX11_odds_136 (c_N_T_commonPart q28) b_X11_commonPart v_X11_239 rfl ⟨Nat.le_of_ble_eq_true rfl, Nat.le_of_ble_eq_true rfl⟩ ⟨rfl, rfl⟩ ⟨Nat.zero_le _, Nat.zero_le _⟩ _ rfl (Nat.le_of_ble_eq_true rfl) ?_
      obtain ⟨b29, h⟩ := gd_some h
      refine g_idiv hG dX11_odds_139 (nz_ne b29) ?_
      cases h
      exact K _ _ dX11_odds_140
    · refine g_icmp_ge (tgt := 120) hG dX11_odds_75 rfl (fun q => absurd q c23) (fun _ => ?_)
      refine g_aload_n hG dX11_odds_78 rfl ?_
      refine g_get (f := 1) hG dX11_odds_79 (eT g A _ X) rfl inX11 (by decide) rfl f_X11_44 rfl ?_
      refine g_aload_n hG dX11_odds_82 rfl ?_
      refine g_get (f := 0) hG dX11_odds_83 (eT g A _ X) rfl inX11 (by decide) rfl f_X11_40 rfl ?_
      obtain ⟨v30, σ31, q32, h⟩ := ob_some h
      refine g_cVv hG dX11_odds_86 (c_N_S_thinkOf (by decide) (by decide) q32) b_X7_thinkOf v_X11_198 rfl (eS (by decide)) rfl ⟨Nat.le_of_ble_eq_true rfl, Nat.le_of_ble_eq_true rfl⟩ ⟨rfl, rfl⟩ ⟨Nat.zero_le _, Nat.zero_le _⟩ _ rfl (Nat.le_of_ble_eq_true rfl) ?_
      refine g_aload_n hG dX11_odds_89 rfl ?_
      refine g_get (f := 1) hG dX11_odds_90 (eT g A _ X) rfl inX11 (by decide) rfl f_X11_44 rfl ?_
      refine g_iload hG dX11_odds_93 rfl ?_
      obtain ⟨σ33, e34, h⟩ := lt_ex h
      refine t_putN 8 hG (by decide) e34 dX11_odds_95 f_X11_138 (by decide) (by decide) rfl rfl rfl ?_
      refine g_aload_n hG dX11_odds_98 rfl ?_
      refine g_get (f := 1) hG dX11_odds_99 (eT g A _ X) rfl inX11 (by decide) rfl f_X11_44 rfl ?_
      refine g_iload_n hG dX11_odds_102 rfl ?_
      refine g_iload_n hG dX11_odds_103 rfl ?_
      obtain ⟨v35, σ36, q37, h⟩ := ob_some h
      refine g_cV hG dX11_odds_104 (c_N_S_dirtBehind (by decide) q37) b_X7_dirtBehind v_X11_202 rfl (eS (by decide)) rfl ⟨Nat.le_of_ble_eq_true rfl, Nat.le_of_ble_eq_true rfl⟩ ⟨rfl, rfl⟩ ⟨Nat.zero_le _, Nat.zero_le _⟩ _ rfl (Nat.le_of_ble_eq_true rfl) ?_
      refine g_iload_n hG dX11_odds_107 rfl ?_
      rcases if_some h with ⟨c38, h⟩ | ⟨c38, h⟩
      · refine g_icmp_ge (tgt := 114) hG dX11_odds_108 rfl (fun _ => ?_) (fun q => absurd c38 q)
        refine g_loc hG [(0, .ref (A 5 99)), (1, .int x1), (2, .int x2), (3, .int x3), (4, .int x4), (6, .int x6), (7, .int x7), (8, .int x8)] ⟨rfl, rfl, rfl, rfl, rfl, rfl, rfl, rfl, trivial⟩ ?_
        exact s_N_T_odds_b114  hG K ih h
      · refine g_icmp_ge (tgt := 114) hG dX11_odds_108 rfl (fun q => absurd q c38) (fun _ => ?_)
        refine g_iincv (c := (1 : Int32)) hG dX11_odds_111 rfl (by decide) (by decide) ?_
        refine g_loc hG [(0, .ref (A 5 99)), (1, .int x1), (2, .int x2), (3, .int x3), (4, .int x4), (6, .int x6), (7, .int (x7 + (1 : Int32))), (8, .int x8)] ⟨rfl, rfl, rfl, rfl, rfl, rfl, rfl, rfl, trivial⟩ ?_
        exact s_N_T_odds_b114  hG K ih h
def N_T_odds_b25 (x1 : Int32) (x2 : Int32) (x3 : Int32) (x4 : Int32) (s0 : Int32) (σ : CS) : Option (Int32 × CS) := (ob (N_S_has 0 x1 σ) fun v5 σ6 => (if v5 = 0 then (ob (N_T_fail (-1000000001 : Int32) σ6) fun v9 σ10 => (some (v9, σ10))) else (ob (N_T_within x2 (1 : Int32) (999 : Int32) σ6) fun v12 σ13 => (if v12 = 0 then (ob (N_T_fail (-1000000001 : Int32) σ13) fun v16 σ17 => (some (v16, σ17))) else (if s0 = 0 then (ob (N_T_fail (-1000000001 : Int32) σ13) fun v20 σ21 => (some (v20, σ21))) else (N_T_odds_b71  FU x1 x2 x3 x4 (10 : Int32) (0 : Int32) (0 : Int32) σ13))))))
set_option maxRecDepth 100000 in
set_option maxHeartbeats 4000000 in
theorem s_N_T_odds_b25 {g : GP} {l : Launch} {A : Nat → Nat → Nat} {X : va_W} {G : GT} {v9 : Int32} {s9 : CS} (hG : IsG g l yX11_odds cX11_odds 9 { frames := 5, cells := 0, slots := 0, locals := 162 } G) (K : ∀ L pc, decode cX11_odds pc = .ok (.ireturn, 1) → G 0 0 (wC g A s9 X) L pc [.int v9]) {x1 : Int32} {x2 : Int32} {x3 : Int32} {x4 : Int32} {s0 : Int32} {σ : CS} (h : N_T_odds_b25  x1 x2 x3 x4 s0 σ = some (v9, s9)) : G 0 0 (wC g A σ X) [(0, .ref (A 5 99)), (1, .int x1), (2, .int x2), (3, .int x3), (4, .int x4)] 25 [.int s0] := by
  unfold N_T_odds_b25 at h
  refine g_istore hG dX11_odds_25 (by decide) ?_
  refine g_aload_n hG dX11_odds_27 rfl ?_
  refine g_get (f := 0) hG dX11_odds_28 (eT g A _ X) rfl inX11 (by decide) rfl f_X11_40 rfl ?_
  refine g_iload_n hG dX11_odds_31 rfl ?_
  obtain ⟨v5, σ6, q7, h⟩ := ob_some h
  refine g_cV hG dX11_odds_32 (c_N_S_has (by decide) q7) b_X7_has v_X11_113 rfl (eS (by decide)) rfl ⟨Nat.le_of_ble_eq_true rfl, Nat.le_of_ble_eq_true rfl⟩ ⟨rfl, rfl⟩ ⟨Nat.zero_le _, Nat.zero_le _⟩ _ rfl (Nat.le_of_ble_eq_true rfl) ?_
  rcases if_some h with ⟨c8, h⟩ | ⟨c8, h⟩
  · refine g_if_eq (tgt := 54) hG dX11_odds_35 rfl (fun _ => ?_) (fun q => absurd c8 q)
    refine g_aload_n hG dX11_odds_54 rfl ?_
    refine g_ldc hG dX11_odds_55 k_X11_83 ?_
    obtain ⟨v9, σ10, q11, h⟩ := ob_some h
    refine g_cV hG dX11_odds_57 (c_N_T_fail q11) b_X11_fail v_X11_84 rfl (eT g A _ X) rfl ⟨Nat.le_of_ble_eq_true rfl, Nat.le_of_ble_eq_true rfl⟩ ⟨rfl, rfl⟩ ⟨Nat.zero_le _, Nat.zero_le _⟩ _ rfl (Nat.le_of_ble_eq_true rfl) ?_
    cases h
    exact K _ _ dX11_odds_60
  · refine g_if_eq (tgt := 54) hG dX11_odds_35 rfl (fun q => absurd q c8) (fun _ => ?_)
    refine g_iload_n hG dX11_odds_38 rfl ?_
    refine g_iconstv hG dX11_odds_39 ki_1 ?_
    refine g_sipushv hG dX11_odds_40 ks_999 ?_
    obtain ⟨v12, σ13, q14, h⟩ := ob_some h
    refine g_cS hG dX11_odds_43 (c_N_T_within q14) b_X11_within v_X11_79 rfl ⟨Nat.le_of_ble_eq_true rfl, Nat.le_of_ble_eq_true rfl⟩ ⟨rfl, rfl⟩ ⟨Nat.zero_le _, Nat.zero_le _⟩ _ rfl (Nat.le_of_ble_eq_true rfl) ?_
    rcases if_some h with ⟨c15, h⟩ | ⟨c15, h⟩
    · refine g_if_eq (tgt := 54) hG dX11_odds_46 rfl (fun _ => ?_) (fun q => absurd c15 q)
      refine g_aload_n hG dX11_odds_54 rfl ?_
      refine g_ldc hG dX11_odds_55 k_X11_83 ?_
      obtain ⟨v16, σ17, q18, h⟩ := ob_some h
      refine g_cV hG dX11_odds_57 (c_N_T_fail q18) b_X11_fail v_X11_84 rfl (eT g A _ X) rfl ⟨Nat.le_of_ble_eq_true rfl, Nat.le_of_ble_eq_true rfl⟩ ⟨rfl, rfl⟩ ⟨Nat.zero_le _, Nat.zero_le _⟩ _ rfl (Nat.le_of_ble_eq_true rfl) ?_
      cases h
      exact K _ _ dX11_odds_60
    · refine g_if_eq (tgt := 54) hG dX11_odds_46 rfl (fun q => absurd q c15) (fun _ => ?_)
      refine g_iload hG dX11_odds_49 rfl ?_
      rcases if_some h with ⟨c19, h⟩ | ⟨c19, h⟩
      · refine g_if_ne (tgt := 61) hG dX11_odds_51 rfl (fun q => absurd c19 q) (fun _ => ?_)
        refine g_aload_n hG dX11_odds_54 rfl ?_
        refine g_ldc hG dX11_odds_55 k_X11_83 ?_
        obtain ⟨v20, σ21, q22, h⟩ := ob_some h
        refine g_cV hG dX11_odds_57 (c_N_T_fail q22) b_X11_fail v_X11_84 rfl (eT g A _ X) rfl ⟨Nat.le_of_ble_eq_true rfl, Nat.le_of_ble_eq_true rfl⟩ ⟨rfl, rfl⟩ ⟨Nat.zero_le _, Nat.zero_le _⟩ _ rfl (Nat.le_of_ble_eq_true rfl) ?_
        cases h
        exact K _ _ dX11_odds_60
      · refine g_if_ne (tgt := 61) hG dX11_odds_51 rfl (fun _ => ?_) (fun q => absurd q c19)
        refine g_bipushv hG dX11_odds_61 kb_10 ?_
        refine g_istore hG dX11_odds_63 (by decide) ?_
        refine g_iconstv hG dX11_odds_65 ki_0 ?_
        refine g_istore hG dX11_odds_66 (by decide) ?_
        refine g_iconstv hG dX11_odds_68 ki_0 ?_
        refine g_istore hG dX11_odds_69 (by decide) ?_
        refine g_loc hG [(0, .ref (A 5 99)), (1, .int x1), (2, .int x2), (3, .int x3), (4, .int x4), (6, .int (10 : Int32)), (7, .int (0 : Int32)), (8, .int (0 : Int32))] ⟨rfl, rfl, rfl, rfl, rfl, rfl, rfl, rfl, trivial⟩ ?_
        exact s_N_T_odds_b71  hG K FU _ _ _ _ _ _ _ _ h
def N_T_odds (x1 : Int32) (x2 : Int32) (x3 : Int32) (x4 : Int32) (σ : CS) : Option (Int32 × CS) := (ob (N_T_within x3 (0 : Int32) (60 : Int32) σ) fun v1 σ2 => (if v1 = 0 then (N_T_odds_b25  x1 x2 x3 x4 (0 : Int32) σ2) else (ob (N_T_within x4 (0 : Int32) (1 : Int32) σ2) fun v39 σ40 => (N_T_odds_b25  x1 x2 x3 x4 (if v39 = 0 then (0 : Int32) else (1 : Int32)) σ40))))
set_option maxRecDepth 100000 in
set_option maxHeartbeats 4000000 in
theorem c_N_T_odds {g : GP} {l : Launch} {A : Nat → Nat → Nat} {X : va_W} {v9 : Int32} {s9 : CS} {x1 : Int32} {x2 : Int32} {x3 : Int32} {x4 : Int32} {σ : CS} (h : N_T_odds x1 x2 x3 x4 σ = some (v9, s9)) : CI g l yX11_odds cX11_odds 9 (some .int) { frames := 5, cells := 0, slots := 0, locals := 162 } [.ref (A 5 99), .int x1, .int x2, .int x3, .int x4] (wC g A σ X) (fun r0 w => r0 = v9 ∧ w = wC g A s9 X) := by
  refine CI.mk (by decide) (Nat.le_of_ble_eq_true rfl) (fun G hG hret => ?_)
  have K : ∀ L pc, decode cX11_odds pc = .ok (.ireturn, 1) → G 0 0 (wC g A s9 X) L pc [.int v9] := fun L pc d => hret _ L pc v9 d rfl ⟨rfl, rfl⟩
  unfold N_T_odds at h
  refine g_iload_n hG dX11_odds_0 rfl ?_
  refine g_iconstv hG dX11_odds_1 ki_0 ?_
  refine g_bipushv hG dX11_odds_2 kb_60 ?_
  obtain ⟨v1, σ2, q3, h⟩ := ob_some h
  refine g_cS hG dX11_odds_4 (c_N_T_within q3) b_X11_within v_X11_79 rfl ⟨Nat.le_of_ble_eq_true rfl, Nat.le_of_ble_eq_true rfl⟩ ⟨rfl, rfl⟩ ⟨Nat.zero_le _, Nat.zero_le _⟩ _ rfl (Nat.le_of_ble_eq_true rfl) ?_
  rcases if_some h with ⟨c4, h⟩ | ⟨c4, h⟩
  · refine g_if_eq (tgt := 24) hG dX11_odds_7 rfl (fun _ => ?_) (fun q => absurd c4 q)
    refine g_iconstv hG dX11_odds_24 ki_0 ?_
    refine g_loc hG [(0, .ref (A 5 99)), (1, .int x1), (2, .int x2), (3, .int x3), (4, .int x4)] ⟨rfl, rfl, rfl, rfl, rfl, trivial⟩ ?_
    exact s_N_T_odds_b25  hG K  h
  · refine g_if_eq (tgt := 24) hG dX11_odds_7 rfl (fun q => absurd q c4) (fun _ => ?_)
    refine g_iload hG dX11_odds_10 rfl ?_
    refine g_iconstv hG dX11_odds_12 ki_0 ?_
    refine g_iconstv hG dX11_odds_13 ki_1 ?_
    obtain ⟨v39, σ40, q41, h⟩ := ob_some h
    refine g_cS hG dX11_odds_14 (c_N_T_within q41) b_X11_within v_X11_79 rfl ⟨Nat.le_of_ble_eq_true rfl, Nat.le_of_ble_eq_true rfl⟩ ⟨rfl, rfl⟩ ⟨Nat.zero_le _, Nat.zero_le _⟩ _ rfl (Nat.le_of_ble_eq_true rfl) ?_
    refine g_dia1 (if v39 = 0 then (0 : Int32) else (1 : Int32)) 25 (fun J42 => ?_) ?_
    · by_cases c43 : v39 = 0
      · refine g_if_eq (tgt := 24) hG dX11_odds_17 rfl (fun _ => ?_) (fun q => absurd c43 q)
        refine g_iconstv hG dX11_odds_24 ki_0 ?_
        rw [if_pos c43] at J42
        exact J42
      · refine g_if_eq (tgt := 24) hG dX11_odds_17 rfl (fun q => absurd q c43) (fun _ => ?_)
        refine g_iconstv hG dX11_odds_20 ki_1 ?_
        refine g_goto (tgt := 25) hG dX11_odds_21 rfl ?_
        rw [if_neg c43] at J42
        exact J42
    refine g_loc hG [(0, .ref (A 5 99)), (1, .int x1), (2, .int x2), (3, .int x3), (4, .int x4)] ⟨rfl, rfl, rfl, rfl, rfl, trivial⟩ ?_
    exact s_N_T_odds_b25  hG K  h
def N_T_seed (x1 : Int32) (σ : CS) : Option (Int32 × CS) := (lt (σ.1 0 17) fun v1 => (lt (si σ 0 17 x1) fun σ3 => (some (v1, σ3))))
set_option maxRecDepth 100000 in
set_option maxHeartbeats 4000000 in
theorem c_N_T_seed {g : GP} {l : Launch} {A : Nat → Nat → Nat} {X : va_W} {v9 : Int32} {s9 : CS} {x1 : Int32} {σ : CS} (h : N_T_seed x1 σ = some (v9, s9)) : CI g l yX11_seed cX11_seed 3 (some .int) { frames := 0, cells := 0, slots := 0, locals := 0 } [.ref (A 5 99), .int x1] (wC g A σ X) (fun r0 w => r0 = v9 ∧ w = wC g A s9 X) := by
  refine CI.mk (by decide) (Nat.le_of_ble_eq_true rfl) (fun G hG hret => ?_)
  have K : ∀ L pc, decode cX11_seed pc = .ok (.ireturn, 1) → G 0 0 (wC g A s9 X) L pc [.int v9] := fun L pc d => hret _ L pc v9 d rfl ⟨rfl, rfl⟩
  unfold N_T_seed at h
  refine g_aload_n hG dX11_seed_0 rfl ?_
  refine g_get (f := 0) hG dX11_seed_1 (eT g A _ X) rfl inX11 (by decide) rfl f_X11_40 rfl ?_
  refine g_getN (f := 17) hG dX11_seed_4 (eS (by decide)) rfl inX7 (by decide) rfl f_X11_242 rfl ?_
  obtain ⟨v1, e2, h⟩ := lt_ex h
  refine g_nam e2 ?_
  refine g_istore_n hG dX11_seed_7 (by decide) ?_
  refine g_aload_n hG dX11_seed_8 rfl ?_
  refine g_get (f := 0) hG dX11_seed_9 (eT g A _ X) rfl inX11 (by decide) rfl f_X11_40 rfl ?_
  refine g_iload_n hG dX11_seed_12 rfl ?_
  obtain ⟨σ3, e4, h⟩ := lt_ex h
  refine t_putN 17 hG (by decide) e4 dX11_seed_13 f_X11_242 (by decide) (by decide) rfl rfl rfl ?_
  refine g_iload_n hG dX11_seed_16 rfl ?_
  cases h
  exact K _ _ dX11_seed_17
def N_T_trace (x1 : Int32) (σ : CS) : Option (Int32 × CS) := (ob (N_T_within x1 (0 : Int32) ((σ.1 4 1) - (1 : Int32)) σ) fun v1 σ2 => (if v1 = 0 then (ob (N_T_fail (-1000000002 : Int32) σ2) fun v5 σ6 => (some (v5, σ6))) else (gd (inb x1 40) (some ((σ2.2.1 4 0 (ix x1)), σ2)))))
set_option maxRecDepth 100000 in
set_option maxHeartbeats 4000000 in
theorem c_N_T_trace {g : GP} {l : Launch} {A : Nat → Nat → Nat} {X : va_W} {v9 : Int32} {s9 : CS} {x1 : Int32} {σ : CS} (h : N_T_trace x1 σ = some (v9, s9)) : CI g l yX11_trace cX11_trace 2 (some .int) { frames := 1, cells := 0, slots := 0, locals := 22 } [.ref (A 5 99), .int x1] (wC g A σ X) (fun r0 w => r0 = v9 ∧ w = wC g A s9 X) := by
  refine CI.mk (by decide) (Nat.le_of_ble_eq_true rfl) (fun G hG hret => ?_)
  have K : ∀ L pc, decode cX11_trace pc = .ok (.ireturn, 1) → G 0 0 (wC g A s9 X) L pc [.int v9] := fun L pc d => hret _ L pc v9 d rfl ⟨rfl, rfl⟩
  unfold N_T_trace at h
  refine g_iload_n hG dX11_trace_0 rfl ?_
  refine g_iconstv hG dX11_trace_1 ki_0 ?_
  refine g_aload_n hG dX11_trace_2 rfl ?_
  refine g_get (f := 4) hG dX11_trace_3 (eT g A _ X) rfl inX11 (by decide) rfl f_X11_60 rfl ?_
  refine g_getN (f := 1) hG dX11_trace_6 (eP g A _ X) rfl inX6 (by decide) rfl f_X11_265 rfl ?_
  refine g_iconstv hG dX11_trace_9 ki_1 ?_
  refine g_isub hG dX11_trace_10 ?_
  obtain ⟨v1, σ2, q3, h⟩ := ob_some h
  refine g_cS hG dX11_trace_11 (c_N_T_within q3) b_X11_within v_X11_79 rfl ⟨Nat.le_of_ble_eq_true rfl, Nat.le_of_ble_eq_true rfl⟩ ⟨rfl, rfl⟩ ⟨Nat.zero_le _, Nat.zero_le _⟩ _ rfl (Nat.le_of_ble_eq_true rfl) ?_
  rcases if_some h with ⟨c4, h⟩ | ⟨c4, h⟩
  · refine g_if_ne (tgt := 24) hG dX11_trace_14 rfl (fun q => absurd c4 q) (fun _ => ?_)
    refine g_aload_n hG dX11_trace_17 rfl ?_
    refine g_ldc hG dX11_trace_18 k_X11_208 ?_
    obtain ⟨v5, σ6, q7, h⟩ := ob_some h
    refine g_cV hG dX11_trace_20 (c_N_T_fail q7) b_X11_fail v_X11_84 rfl (eT g A _ X) rfl ⟨Nat.le_of_ble_eq_true rfl, Nat.le_of_ble_eq_true rfl⟩ ⟨rfl, rfl⟩ ⟨Nat.zero_le _, Nat.zero_le _⟩ _ rfl (Nat.le_of_ble_eq_true rfl) ?_
    cases h
    exact K _ _ dX11_trace_23
  · refine g_if_ne (tgt := 24) hG dX11_trace_14 rfl (fun _ => ?_) (fun q => absurd q c4)
    refine g_aload_n hG dX11_trace_24 rfl ?_
    refine g_get (f := 4) hG dX11_trace_25 (eT g A _ X) rfl inX11 (by decide) rfl f_X11_60 rfl ?_
    refine g_getN (f := 0) hG dX11_trace_28 (eP g A _ X) rfl inX6 (by decide) rfl f_X11_268 rfl ?_
    refine g_iload_n hG dX11_trace_31 rfl ?_
    obtain ⟨b8, h⟩ := gd_some h
    refine c_iald hG dX11_trace_32 aP0 b8 rfl ?_
    cases h
    exact K _ _ dX11_trace_33
def N_T_sheet_b78 : Nat → Int32 → Int32 → CS → Option (Int32 × CS)
  | 0, _, _, _ => none
  | n + 1, x1, x4, σ => (if (40 : Int32) ≤ x4 then (some ((1 : Int32), σ)) else (gd (inb x1 4) (gd (inb x4 40) (lt (sa σ 6 (ix x1) (upd (σ.2.1 6 (ix x1)) (ix x4) (0 : Int32))) fun σ27 => ((N_T_sheet_b78  n) x1 (x4 + (1 : Int32)) σ27)))))
set_option maxRecDepth 100000 in
set_option maxHeartbeats 4000000 in
theorem s_N_T_sheet_b78 {g : GP} {l : Launch} {A : Nat → Nat → Nat} {X : va_W} {G : GT} {v9 : Int32} {s9 : CS} (hG : IsG g l yX11_sheet cX11_sheet 5 { frames := 2, cells := 0, slots := 0, locals := 42 } G) (K : ∀ L pc, decode cX11_sheet pc = .ok (.ireturn, 1) → G 0 0 (wC g A s9 X) L pc [.int v9]) : ∀ (n : Nat) (x1 : Int32) (x4 : Int32) (σ : CS) (h : N_T_sheet_b78  n x1 x4 σ = some (v9, s9)), G 0 0 (wC g A σ X) [(0, .ref (A 5 99)), (1, .int x1), (4, .int x4)] 78 [] := by
  intro n
  induction n with
  | zero => intro _ _ σ h; cases h
  | succ n ih =>
    intro x1 x4 σ h
    unfold N_T_sheet_b78 at h
    refine g_iload hG dX11_sheet_78 rfl ?_
    refine g_bipushv hG dX11_sheet_80 kb_40 ?_
    rcases if_some h with ⟨c25, h⟩ | ⟨c25, h⟩
    · refine g_icmp_ge (tgt := 101) hG dX11_sheet_82 rfl (fun _ => ?_) (fun q => absurd c25 q)
      refine g_iconstv hG dX11_sheet_101 ki_1 ?_
      cases h
      exact K _ _ dX11_sheet_102
    · refine g_icmp_ge (tgt := 101) hG dX11_sheet_82 rfl (fun q => absurd q c25) (fun _ => ?_)
      refine g_aload_n hG dX11_sheet_85 rfl ?_
      refine g_get (f := 5) hG dX11_sheet_86 (eT g A _ X) rfl inX11 (by decide) rfl f_X11_66 rfl ?_
      refine g_iload_n hG dX11_sheet_89 rfl ?_
      obtain ⟨b26, h⟩ := gd_some h
      refine c_num hG dX11_sheet_90 b26 ?_
      refine g_iload hG dX11_sheet_91 rfl ?_
      refine g_iconstv hG dX11_sheet_93 ki_0 ?_
      obtain ⟨b29, h⟩ := gd_some h
      obtain ⟨σ27, e28, h⟩ := lt_ex h
      refine c_iast hG e28 dX11_sheet_94 (aN (inb_lt b26)) b29 rfl ?_
      refine g_iincv (c := (1 : Int32)) hG dX11_sheet_95 rfl (by decide) (by decide) ?_
      refine g_goto (tgt := 78) hG dX11_sheet_98 rfl ?_
      refine g_loc hG [(0, .ref (A 5 99)), (1, .int x1), (4, .int (x4 + (1 : Int32)))] ⟨rfl, rfl, rfl, trivial⟩ ?_
      exact ih _ _ _ h
def N_T_sheet_b53 (x1 : Int32) (x2 : Int32) (x3 : Int32) (σ : CS) : Option (Int32 × CS) := (gd (inb x1 4) (lt (sa σ 5 6 (upd (σ.2.1 5 6) (ix x1) x2)) fun σ17 => (gd (inb x1 4) (lt (sa σ17 5 7 (upd (σ17.2.1 5 7) (ix x1) (if x2 = 0 then (0 : Int32) else x3))) fun σ22 => (N_T_sheet_b78  FU x1 (0 : Int32) σ22)))))
set_option maxRecDepth 100000 in
set_option maxHeartbeats 4000000 in
theorem s_N_T_sheet_b53 {g : GP} {l : Launch} {A : Nat → Nat → Nat} {X : va_W} {G : GT} {v9 : Int32} {s9 : CS} (hG : IsG g l yX11_sheet cX11_sheet 5 { frames := 2, cells := 0, slots := 0, locals := 42 } G) (K : ∀ L pc, decode cX11_sheet pc = .ok (.ireturn, 1) → G 0 0 (wC g A s9 X) L pc [.int v9]) {x1 : Int32} {x2 : Int32} {x3 : Int32} {σ : CS} (h : N_T_sheet_b53  x1 x2 x3 σ = some (v9, s9)) : G 0 0 (wC g A σ X) [(0, .ref (A 5 99)), (1, .int x1), (2, .int x2), (3, .int x3)] 53 [] := by
  unfold N_T_sheet_b53 at h
  refine g_aload_n hG dX11_sheet_53 rfl ?_
  refine g_get (f := 6) hG dX11_sheet_54 (eT g A _ X) rfl inX11 (by decide) rfl f_X11_69 rfl ?_
  refine g_iload_n hG dX11_sheet_57 rfl ?_
  refine g_iload_n hG dX11_sheet_58 rfl ?_
  obtain ⟨b19, h⟩ := gd_some h
  obtain ⟨σ17, e18, h⟩ := lt_ex h
  refine c_iast hG e18 dX11_sheet_59 aT6 b19 rfl ?_
  refine g_aload_n hG dX11_sheet_60 rfl ?_
  refine g_get (f := 7) hG dX11_sheet_61 (eT g A _ X) rfl inX11 (by decide) rfl f_X11_73 rfl ?_
  refine g_iload_n hG dX11_sheet_64 rfl ?_
  refine g_iload_n hG dX11_sheet_65 rfl ?_
  refine g_dia1 (if x2 = 0 then (0 : Int32) else x3) 74 (fun J20 => ?_) ?_
  · by_cases c21 : x2 = 0
    · refine g_if_ne (tgt := 73) hG dX11_sheet_66 rfl (fun q => absurd c21 q) (fun _ => ?_)
      refine g_iconstv hG dX11_sheet_69 ki_0 ?_
      refine g_goto (tgt := 74) hG dX11_sheet_70 rfl ?_
      rw [if_pos c21] at J20
      exact J20
    · refine g_if_ne (tgt := 73) hG dX11_sheet_66 rfl (fun _ => ?_) (fun q => absurd q c21)
      refine g_iload_n hG dX11_sheet_73 rfl ?_
      rw [if_neg c21] at J20
      exact J20
  obtain ⟨b24, h⟩ := gd_some h
  obtain ⟨σ22, e23, h⟩ := lt_ex h
  refine c_iast hG e23 dX11_sheet_74 aT7 b24 rfl ?_
  refine g_iconstv hG dX11_sheet_75 ki_0 ?_
  refine g_istore hG dX11_sheet_76 (by decide) ?_
  refine g_loc hG [(0, .ref (A 5 99)), (1, .int x1), (4, .int (0 : Int32))] ⟨rfl, rfl, rfl, trivial⟩ ?_
  exact s_N_T_sheet_b78  hG K FU _ _ _ h
def N_T_sheet_b36 (x1 : Int32) (x2 : Int32) (x3 : Int32) (σ : CS) : Option (Int32 × CS) := (if x2 = 0 then (N_T_sheet_b53  x1 x2 x3 σ) else (if x3 ≤ (40 : Int32) then (N_T_sheet_b53  x1 x2 x3 σ) else (ob (N_T_fail (-1000000001 : Int32) σ) fun v31 σ32 => (some (v31, σ32)))))
set_option maxRecDepth 100000 in
set_option maxHeartbeats 4000000 in
theorem s_N_T_sheet_b36 {g : GP} {l : Launch} {A : Nat → Nat → Nat} {X : va_W} {G : GT} {v9 : Int32} {s9 : CS} (hG : IsG g l yX11_sheet cX11_sheet 5 { frames := 2, cells := 0, slots := 0, locals := 42 } G) (K : ∀ L pc, decode cX11_sheet pc = .ok (.ireturn, 1) → G 0 0 (wC g A s9 X) L pc [.int v9]) {x1 : Int32} {x2 : Int32} {x3 : Int32} {σ : CS} (h : N_T_sheet_b36  x1 x2 x3 σ = some (v9, s9)) : G 0 0 (wC g A σ X) [(0, .ref (A 5 99)), (1, .int x1), (2, .int x2), (3, .int x3)] 36 [] := by
  unfold N_T_sheet_b36 at h
  refine g_iload_n hG dX11_sheet_36 rfl ?_
  rcases if_some h with ⟨c16, h⟩ | ⟨c16, h⟩
  · refine g_if_eq (tgt := 53) hG dX11_sheet_37 rfl (fun _ => ?_) (fun q => absurd c16 q)
    refine g_loc hG [(0, .ref (A 5 99)), (1, .int x1), (2, .int x2), (3, .int x3)] ⟨rfl, rfl, rfl, rfl, trivial⟩ ?_
    exact s_N_T_sheet_b53  hG K  h
  · refine g_if_eq (tgt := 53) hG dX11_sheet_37 rfl (fun q => absurd q c16) (fun _ => ?_)
    refine g_iload_n hG dX11_sheet_40 rfl ?_
    refine g_bipushv hG dX11_sheet_41 kb_40 ?_
    rcases if_some h with ⟨c30, h⟩ | ⟨c30, h⟩
    · refine g_icmp_le (tgt := 53) hG dX11_sheet_43 rfl (fun _ => ?_) (fun q => absurd c30 q)
      refine g_loc hG [(0, .ref (A 5 99)), (1, .int x1), (2, .int x2), (3, .int x3)] ⟨rfl, rfl, rfl, rfl, trivial⟩ ?_
      exact s_N_T_sheet_b53  hG K  h
    · refine g_icmp_le (tgt := 53) hG dX11_sheet_43 rfl (fun q => absurd q c30) (fun _ => ?_)
      refine g_aload_n hG dX11_sheet_46 rfl ?_
      refine g_ldc hG dX11_sheet_47 k_X11_83 ?_
      obtain ⟨v31, σ32, q33, h⟩ := ob_some h
      refine g_cV hG dX11_sheet_49 (c_N_T_fail q33) b_X11_fail v_X11_84 rfl (eT g A _ X) rfl ⟨Nat.le_of_ble_eq_true rfl, Nat.le_of_ble_eq_true rfl⟩ ⟨rfl, rfl⟩ ⟨Nat.zero_le _, Nat.zero_le _⟩ _ rfl (Nat.le_of_ble_eq_true rfl) ?_
      cases h
      exact K _ _ dX11_sheet_52
def N_T_sheet (x1 : Int32) (x2 : Int32) (x3 : Int32) (σ : CS) : Option (Int32 × CS) := (ob (N_T_isSheet x1 σ) fun v1 σ2 => (if v1 = 0 then (ob (N_T_fail (-1000000001 : Int32) σ2) fun v5 σ6 => (some (v5, σ6))) else (ob (N_T_isWidth x2 σ2) fun v8 σ9 => (if v8 = 0 then (ob (N_T_fail (-1000000001 : Int32) σ9) fun v12 σ13 => (some (v12, σ13))) else (if x2 = 0 then (N_T_sheet_b36  x1 x2 x3 σ9) else (if 0 ≤ x3 then (N_T_sheet_b36  x1 x2 x3 σ9) else (ob (N_T_fail (-1000000003 : Int32) σ9) fun v35 σ36 => (some (v35, σ36)))))))))
set_option maxRecDepth 100000 in
set_option maxHeartbeats 4000000 in
theorem c_N_T_sheet {g : GP} {l : Launch} {A : Nat → Nat → Nat} {X : va_W} {v9 : Int32} {s9 : CS} {x1 : Int32} {x2 : Int32} {x3 : Int32} {σ : CS} (h : N_T_sheet x1 x2 x3 σ = some (v9, s9)) : CI g l yX11_sheet cX11_sheet 5 (some .int) { frames := 2, cells := 0, slots := 0, locals := 42 } [.ref (A 5 99), .int x1, .int x2, .int x3] (wC g A σ X) (fun r0 w => r0 = v9 ∧ w = wC g A s9 X) := by
  refine CI.mk (by decide) (Nat.le_of_ble_eq_true rfl) (fun G hG hret => ?_)
  have K : ∀ L pc, decode cX11_sheet pc = .ok (.ireturn, 1) → G 0 0 (wC g A s9 X) L pc [.int v9] := fun L pc d => hret _ L pc v9 d rfl ⟨rfl, rfl⟩
  unfold N_T_sheet at h
  refine g_iload_n hG dX11_sheet_0 rfl ?_
  obtain ⟨v1, σ2, q3, h⟩ := ob_some h
  refine g_cS hG dX11_sheet_1 (c_N_T_isSheet q3) b_X11_isSheet v_X11_230 rfl ⟨Nat.le_of_ble_eq_true rfl, Nat.le_of_ble_eq_true rfl⟩ ⟨rfl, rfl⟩ ⟨Nat.zero_le _, Nat.zero_le _⟩ _ rfl (Nat.le_of_ble_eq_true rfl) ?_
  rcases if_some h with ⟨c4, h⟩ | ⟨c4, h⟩
  · refine g_if_eq (tgt := 14) hG dX11_sheet_4 rfl (fun _ => ?_) (fun q => absurd c4 q)
    refine g_aload_n hG dX11_sheet_14 rfl ?_
    refine g_ldc hG dX11_sheet_15 k_X11_83 ?_
    obtain ⟨v5, σ6, q7, h⟩ := ob_some h
    refine g_cV hG dX11_sheet_17 (c_N_T_fail q7) b_X11_fail v_X11_84 rfl (eT g A _ X) rfl ⟨Nat.le_of_ble_eq_true rfl, Nat.le_of_ble_eq_true rfl⟩ ⟨rfl, rfl⟩ ⟨Nat.zero_le _, Nat.zero_le _⟩ _ rfl (Nat.le_of_ble_eq_true rfl) ?_
    cases h
    exact K _ _ dX11_sheet_20
  · refine g_if_eq (tgt := 14) hG dX11_sheet_4 rfl (fun q => absurd q c4) (fun _ => ?_)
    refine g_iload_n hG dX11_sheet_7 rfl ?_
    obtain ⟨v8, σ9, q10, h⟩ := ob_some h
    refine g_cS hG dX11_sheet_8 (c_N_T_isWidth q10) b_X11_isWidth v_X11_271 rfl ⟨Nat.le_of_ble_eq_true rfl, Nat.le_of_ble_eq_true rfl⟩ ⟨rfl, rfl⟩ ⟨Nat.zero_le _, Nat.zero_le _⟩ _ rfl (Nat.le_of_ble_eq_true rfl) ?_
    rcases if_some h with ⟨c11, h⟩ | ⟨c11, h⟩
    · refine g_if_ne (tgt := 21) hG dX11_sheet_11 rfl (fun q => absurd c11 q) (fun _ => ?_)
      refine g_aload_n hG dX11_sheet_14 rfl ?_
      refine g_ldc hG dX11_sheet_15 k_X11_83 ?_
      obtain ⟨v12, σ13, q14, h⟩ := ob_some h
      refine g_cV hG dX11_sheet_17 (c_N_T_fail q14) b_X11_fail v_X11_84 rfl (eT g A _ X) rfl ⟨Nat.le_of_ble_eq_true rfl, Nat.le_of_ble_eq_true rfl⟩ ⟨rfl, rfl⟩ ⟨Nat.zero_le _, Nat.zero_le _⟩ _ rfl (Nat.le_of_ble_eq_true rfl) ?_
      cases h
      exact K _ _ dX11_sheet_20
    · refine g_if_ne (tgt := 21) hG dX11_sheet_11 rfl (fun _ => ?_) (fun q => absurd q c11)
      refine g_iload_n hG dX11_sheet_21 rfl ?_
      rcases if_some h with ⟨c15, h⟩ | ⟨c15, h⟩
      · refine g_if_eq (tgt := 36) hG dX11_sheet_22 rfl (fun _ => ?_) (fun q => absurd c15 q)
        refine g_loc hG [(0, .ref (A 5 99)), (1, .int x1), (2, .int x2), (3, .int x3)] ⟨rfl, rfl, rfl, rfl, trivial⟩ ?_
        exact s_N_T_sheet_b36  hG K  h
      · refine g_if_eq (tgt := 36) hG dX11_sheet_22 rfl (fun q => absurd q c15) (fun _ => ?_)
        refine g_iload_n hG dX11_sheet_25 rfl ?_
        rcases if_some h with ⟨c34, h⟩ | ⟨c34, h⟩
        · refine g_if_ge (tgt := 36) hG dX11_sheet_26 rfl (fun _ => ?_) (fun q => absurd c34 q)
          refine g_loc hG [(0, .ref (A 5 99)), (1, .int x1), (2, .int x2), (3, .int x3)] ⟨rfl, rfl, rfl, rfl, trivial⟩ ?_
          exact s_N_T_sheet_b36  hG K  h
        · refine g_if_ge (tgt := 36) hG dX11_sheet_26 rfl (fun q => absurd q c34) (fun _ => ?_)
          refine g_aload_n hG dX11_sheet_29 rfl ?_
          refine g_ldc hG dX11_sheet_30 k_X11_186 ?_
          obtain ⟨v35, σ36, q37, h⟩ := ob_some h
          refine g_cV hG dX11_sheet_32 (c_N_T_fail q37) b_X11_fail v_X11_84 rfl (eT g A _ X) rfl ⟨Nat.le_of_ble_eq_true rfl, Nat.le_of_ble_eq_true rfl⟩ ⟨rfl, rfl⟩ ⟨Nat.zero_le _, Nat.zero_le _⟩ _ rfl (Nat.le_of_ble_eq_true rfl) ?_
          cases h
          exact K _ _ dX11_sheet_35
def N_T_put (x1 : Int32) (x2 : Int32) (x3 : Int32) (σ : CS) : Option (Int32 × CS) := (ob (N_T_isSheet x1 σ) fun v1 σ2 => (if v1 = 0 then (ob (N_T_fail (-1000000001 : Int32) σ2) fun v5 σ6 => (some (v5, σ6))) else (gd (inb x1 4) (if (σ2.2.1 5 6 (ix x1)) = 0 then (ob (N_T_fail (-1000000002 : Int32) σ2) fun v10 σ11 => (some (v10, σ11))) else (gd (inb x1 4) (ob (N_T_within x2 (0 : Int32) ((σ2.2.1 5 7 (ix x1)) - (1 : Int32)) σ2) fun v14 σ15 => (if v14 = 0 then (ob (N_T_fail (-1000000001 : Int32) σ15) fun v18 σ19 => (some (v18, σ19))) else (gd (inb x1 4) (gd (inb x1 4) (ob (N_T_lowestBits (σ15.2.1 5 6 (ix x1)) x3 σ15) fun v23 σ24 => (gd (inb x2 40) (lt (sa σ24 6 (ix x1) (upd (σ24.2.1 6 (ix x1)) (ix x2) v23)) fun σ26 => (some ((1 : Int32), σ26))))))))))))))
set_option maxRecDepth 100000 in
set_option maxHeartbeats 4000000 in
theorem c_N_T_put {g : GP} {l : Launch} {A : Nat → Nat → Nat} {X : va_W} {v9 : Int32} {s9 : CS} {x1 : Int32} {x2 : Int32} {x3 : Int32} {σ : CS} (h : N_T_put x1 x2 x3 σ = some (v9, s9)) : CI g l yX11_put cX11_put 4 (some .int) { frames := 2, cells := 0, slots := 0, locals := 42 } [.ref (A 5 99), .int x1, .int x2, .int x3] (wC g A σ X) (fun r0 w => r0 = v9 ∧ w = wC g A s9 X) := by
  refine CI.mk (by decide) (Nat.le_of_ble_eq_true rfl) (fun G hG hret => ?_)
  have K : ∀ L pc, decode cX11_put pc = .ok (.ireturn, 1) → G 0 0 (wC g A s9 X) L pc [.int v9] := fun L pc d => hret _ L pc v9 d rfl ⟨rfl, rfl⟩
  unfold N_T_put at h
  refine g_iload_n hG dX11_put_0 rfl ?_
  obtain ⟨v1, σ2, q3, h⟩ := ob_some h
  refine g_cS hG dX11_put_1 (c_N_T_isSheet q3) b_X11_isSheet v_X11_230 rfl ⟨Nat.le_of_ble_eq_true rfl, Nat.le_of_ble_eq_true rfl⟩ ⟨rfl, rfl⟩ ⟨Nat.zero_le _, Nat.zero_le _⟩ _ rfl (Nat.le_of_ble_eq_true rfl) ?_
  rcases if_some h with ⟨c4, h⟩ | ⟨c4, h⟩
  · refine g_if_ne (tgt := 14) hG dX11_put_4 rfl (fun q => absurd c4 q) (fun _ => ?_)
    refine g_aload_n hG dX11_put_7 rfl ?_
    refine g_ldc hG dX11_put_8 k_X11_83 ?_
    obtain ⟨v5, σ6, q7, h⟩ := ob_some h
    refine g_cV hG dX11_put_10 (c_N_T_fail q7) b_X11_fail v_X11_84 rfl (eT g A _ X) rfl ⟨Nat.le_of_ble_eq_true rfl, Nat.le_of_ble_eq_true rfl⟩ ⟨rfl, rfl⟩ ⟨Nat.zero_le _, Nat.zero_le _⟩ _ rfl (Nat.le_of_ble_eq_true rfl) ?_
    cases h
    exact K _ _ dX11_put_13
  · refine g_if_ne (tgt := 14) hG dX11_put_4 rfl (fun _ => ?_) (fun q => absurd q c4)
    refine g_aload_n hG dX11_put_14 rfl ?_
    refine g_get (f := 6) hG dX11_put_15 (eT g A _ X) rfl inX11 (by decide) rfl f_X11_69 rfl ?_
    refine g_iload_n hG dX11_put_18 rfl ?_
    obtain ⟨b8, h⟩ := gd_some h
    refine c_iald hG dX11_put_19 aT6 b8 rfl ?_
    rcases if_some h with ⟨c9, h⟩ | ⟨c9, h⟩
    · refine g_if_ne (tgt := 30) hG dX11_put_20 rfl (fun q => absurd c9 q) (fun _ => ?_)
      refine g_aload_n hG dX11_put_23 rfl ?_
      refine g_ldc hG dX11_put_24 k_X11_208 ?_
      obtain ⟨v10, σ11, q12, h⟩ := ob_some h
      refine g_cV hG dX11_put_26 (c_N_T_fail q12) b_X11_fail v_X11_84 rfl (eT g A _ X) rfl ⟨Nat.le_of_ble_eq_true rfl, Nat.le_of_ble_eq_true rfl⟩ ⟨rfl, rfl⟩ ⟨Nat.zero_le _, Nat.zero_le _⟩ _ rfl (Nat.le_of_ble_eq_true rfl) ?_
      cases h
      exact K _ _ dX11_put_29
    · refine g_if_ne (tgt := 30) hG dX11_put_20 rfl (fun _ => ?_) (fun q => absurd q c9)
      refine g_iload_n hG dX11_put_30 rfl ?_
      refine g_iconstv hG dX11_put_31 ki_0 ?_
      refine g_aload_n hG dX11_put_32 rfl ?_
      refine g_get (f := 7) hG dX11_put_33 (eT g A _ X) rfl inX11 (by decide) rfl f_X11_73 rfl ?_
      refine g_iload_n hG dX11_put_36 rfl ?_
      obtain ⟨b13, h⟩ := gd_some h
      refine c_iald hG dX11_put_37 aT7 b13 rfl ?_
      refine g_iconstv hG dX11_put_38 ki_1 ?_
      refine g_isub hG dX11_put_39 ?_
      obtain ⟨v14, σ15, q16, h⟩ := ob_some h
      refine g_cS hG dX11_put_40 (c_N_T_within q16) b_X11_within v_X11_79 rfl ⟨Nat.le_of_ble_eq_true rfl, Nat.le_of_ble_eq_true rfl⟩ ⟨rfl, rfl⟩ ⟨Nat.zero_le _, Nat.zero_le _⟩ _ rfl (Nat.le_of_ble_eq_true rfl) ?_
      rcases if_some h with ⟨c17, h⟩ | ⟨c17, h⟩
      · refine g_if_ne (tgt := 53) hG dX11_put_43 rfl (fun q => absurd c17 q) (fun _ => ?_)
        refine g_aload_n hG dX11_put_46 rfl ?_
        refine g_ldc hG dX11_put_47 k_X11_83 ?_
        obtain ⟨v18, σ19, q20, h⟩ := ob_some h
        refine g_cV hG dX11_put_49 (c_N_T_fail q20) b_X11_fail v_X11_84 rfl (eT g A _ X) rfl ⟨Nat.le_of_ble_eq_true rfl, Nat.le_of_ble_eq_true rfl⟩ ⟨rfl, rfl⟩ ⟨Nat.zero_le _, Nat.zero_le _⟩ _ rfl (Nat.le_of_ble_eq_true rfl) ?_
        cases h
        exact K _ _ dX11_put_52
      · refine g_if_ne (tgt := 53) hG dX11_put_43 rfl (fun _ => ?_) (fun q => absurd q c17)
        refine g_aload_n hG dX11_put_53 rfl ?_
        refine g_get (f := 5) hG dX11_put_54 (eT g A _ X) rfl inX11 (by decide) rfl f_X11_66 rfl ?_
        refine g_iload_n hG dX11_put_57 rfl ?_
        obtain ⟨b21, h⟩ := gd_some h
        refine c_num hG dX11_put_58 b21 ?_
        refine g_iload_n hG dX11_put_59 rfl ?_
        refine g_aload_n hG dX11_put_60 rfl ?_
        refine g_get (f := 6) hG dX11_put_61 (eT g A _ X) rfl inX11 (by decide) rfl f_X11_69 rfl ?_
        refine g_iload_n hG dX11_put_64 rfl ?_
        obtain ⟨b22, h⟩ := gd_some h
        refine c_iald hG dX11_put_65 aT6 b22 rfl ?_
        refine g_iload_n hG dX11_put_66 rfl ?_
        obtain ⟨v23, σ24, q25, h⟩ := ob_some h
        refine g_cS hG dX11_put_67 (c_N_T_lowestBits q25) b_X11_lowestBits v_X11_274 rfl ⟨Nat.le_of_ble_eq_true rfl, Nat.le_of_ble_eq_true rfl⟩ ⟨rfl, rfl⟩ ⟨Nat.zero_le _, Nat.zero_le _⟩ _ rfl (Nat.le_of_ble_eq_true rfl) ?_
        obtain ⟨b28, h⟩ := gd_some h
        obtain ⟨σ26, e27, h⟩ := lt_ex h
        refine c_iast hG e27 dX11_put_70 (aN (inb_lt b21)) b28 rfl ?_
        refine g_iconstv hG dX11_put_71 ki_1 ?_
        cases h
        exact K _ _ dX11_put_72
def N_T_stand (x1 : Int32) (x2 : Int32) (x3 : Int32) (σ : CS) : Option (Int32 × CS) := (if x3 < 0 then (some ((0 : Int32), σ)) else (if x2 < 0 then (some ((0 : Int32), σ)) else (gd (inb x1 4) (some ((if ((σ.2.1 5 7 (ix x1)) - x2) < x3 then (0 : Int32) else (1 : Int32)), σ)))))
set_option maxRecDepth 100000 in
set_option maxHeartbeats 4000000 in
theorem c_N_T_stand {g : GP} {l : Launch} {A : Nat → Nat → Nat} {X : va_W} {v9 : Int32} {s9 : CS} {x1 : Int32} {x2 : Int32} {x3 : Int32} {σ : CS} (h : N_T_stand x1 x2 x3 σ = some (v9, s9)) : CI g l yX11_stand cX11_stand 4 (some .boolean) { frames := 0, cells := 0, slots := 0, locals := 0 } [.ref (A 5 99), .int x1, .int x2, .int x3] (wC g A σ X) (fun r0 w => r0 = v9 ∧ w = wC g A s9 X) := by
  refine CI.mk (by decide) (Nat.le_of_ble_eq_true rfl) (fun G hG hret => ?_)
  have K : ∀ L pc, decode cX11_stand pc = .ok (.ireturn, 1) → isb v9 = true → G 0 0 (wC g A s9 X) L pc [.int v9] := fun L pc d hz => hret _ L pc v9 d (isb_n hz) ⟨rfl, rfl⟩
  unfold N_T_stand at h
  refine g_iload_n hG dX11_stand_0 rfl ?_
  rcases if_some h with ⟨c1, h⟩ | ⟨c1, h⟩
  · refine g_if_lt (tgt := 24) hG dX11_stand_1 rfl (fun _ => ?_) (fun q => absurd c1 q)
    refine g_iconstv hG dX11_stand_24 ki_0 ?_
    cases h
    exact K _ _ dX11_stand_25 (by decide)
  · refine g_if_lt (tgt := 24) hG dX11_stand_1 rfl (fun q => absurd q c1) (fun _ => ?_)
    refine g_iload_n hG dX11_stand_4 rfl ?_
    rcases if_some h with ⟨c2, h⟩ | ⟨c2, h⟩
    · refine g_if_lt (tgt := 24) hG dX11_stand_5 rfl (fun _ => ?_) (fun q => absurd c2 q)
      refine g_iconstv hG dX11_stand_24 ki_0 ?_
      cases h
      exact K _ _ dX11_stand_25 (by decide)
    · refine g_if_lt (tgt := 24) hG dX11_stand_5 rfl (fun q => absurd q c2) (fun _ => ?_)
      refine g_iload_n hG dX11_stand_8 rfl ?_
      refine g_aload_n hG dX11_stand_9 rfl ?_
      refine g_get (f := 7) hG dX11_stand_10 (eT g A _ X) rfl inX11 (by decide) rfl f_X11_73 rfl ?_
      refine g_iload_n hG dX11_stand_13 rfl ?_
      obtain ⟨b3, h⟩ := gd_some h
      refine c_iald hG dX11_stand_14 aT7 b3 rfl ?_
      refine g_iload_n hG dX11_stand_15 rfl ?_
      refine g_isub hG dX11_stand_16 ?_
      refine g_dia2 (if ((σ.2.1 5 7 (ix x1)) - x2) < x3 then (0 : Int32) else (1 : Int32)) 25 (fun J4 => ?_) ?_
      · by_cases c5 : ((σ.2.1 5 7 (ix x1)) - x2) < x3
        · refine g_icmp_gt (tgt := 24) hG dX11_stand_17 rfl (fun _ => ?_) (fun q => absurd c5 q)
          refine g_iconstv hG dX11_stand_24 ki_0 ?_
          rw [if_pos c5] at J4
          exact J4
        · refine g_icmp_gt (tgt := 24) hG dX11_stand_17 rfl (fun q => absurd q c5) (fun _ => ?_)
          refine g_iconstv hG dX11_stand_20 ki_1 ?_
          refine g_goto (tgt := 25) hG dX11_stand_21 rfl ?_
          rw [if_neg c5] at J4
          exact J4
      cases h
      exact K _ _ dX11_stand_25 (isb_ite (by decide) (by decide))
def N_T_move (x1 : Int32) (x2 : Int32) (x3 : Int32) (x4 : Int32) (x5 : Int32) (σ : CS) : Option (Int32 × CS) := (ob (N_T_isSheet x1 σ) fun v1 σ2 => (if v1 = 0 then (ob (N_T_fail (-1000000001 : Int32) σ2) fun v5 σ6 => (some (v5, σ6))) else (ob (N_T_isSheet x3 σ2) fun v8 σ9 => (if v8 = 0 then (ob (N_T_fail (-1000000001 : Int32) σ9) fun v12 σ13 => (some (v12, σ13))) else (gd (inb x1 4) (if (σ9.2.1 5 6 (ix x1)) = 0 then (ob (N_T_fail (-1000000002 : Int32) σ9) fun v17 σ18 => (some (v17, σ18))) else (gd (inb x3 4) (if (σ9.2.1 5 6 (ix x3)) = 0 then (ob (N_T_fail (-1000000002 : Int32) σ9) fun v22 σ23 => (some (v22, σ23))) else (gd (inb x1 4) (gd (inb x3 4) (if (σ9.2.1 5 6 (ix x1)) = (σ9.2.1 5 6 (ix x3)) then (ob (N_T_stand x1 x2 x5 σ9) fun v28 σ29 => (if v28 = 0 then (ob (N_T_fail (-1000000001 : Int32) σ29) fun v32 σ33 => (some (v32, σ33))) else (ob (N_T_stand x3 x4 x5 σ29) fun v35 σ36 => (if v35 = 0 then (ob (N_T_fail (-1000000001 : Int32) σ36) fun v39 σ40 => (some (v39, σ40))) else (gd (inb x1 4) (gd (inb x3 4) (gd (cpok x2 x4 x5 40 40) (lt (sa σ36 6 (ix x3) (va_cpy (σ36.2.1 6 (ix x1)) (σ36.2.1 6 (ix x3)) (ix x2) (ix x4) (ix x5))) fun σ45 => (some (x5, σ45)))))))))) else (ob (N_T_fail (-1000000005 : Int32) σ9) fun v47 σ48 => (some (v47, σ48))))))))))))))
set_option maxRecDepth 100000 in
set_option maxHeartbeats 4000000 in
theorem c_N_T_move {g : GP} {l : Launch} {A : Nat → Nat → Nat} {X : va_W} {v9 : Int32} {s9 : CS} {x1 : Int32} {x2 : Int32} {x3 : Int32} {x4 : Int32} {x5 : Int32} {σ : CS} (h : N_T_move x1 x2 x3 x4 x5 σ = some (v9, s9)) : CI g l yX11_move cX11_move 6 (some .int) { frames := 2, cells := 0, slots := 0, locals := 64 } [.ref (A 5 99), .int x1, .int x2, .int x3, .int x4, .int x5] (wC g A σ X) (fun r0 w => r0 = v9 ∧ w = wC g A s9 X) := by
  refine CI.mk (by decide) (Nat.le_of_ble_eq_true rfl) (fun G hG hret => ?_)
  have K : ∀ L pc, decode cX11_move pc = .ok (.ireturn, 1) → G 0 0 (wC g A s9 X) L pc [.int v9] := fun L pc d => hret _ L pc v9 d rfl ⟨rfl, rfl⟩
  unfold N_T_move at h
  refine g_iload_n hG dX11_move_0 rfl ?_
  obtain ⟨v1, σ2, q3, h⟩ := ob_some h
  refine g_cS hG dX11_move_1 (c_N_T_isSheet q3) b_X11_isSheet v_X11_230 rfl ⟨Nat.le_of_ble_eq_true rfl, Nat.le_of_ble_eq_true rfl⟩ ⟨rfl, rfl⟩ ⟨Nat.zero_le _, Nat.zero_le _⟩ _ rfl (Nat.le_of_ble_eq_true rfl) ?_
  rcases if_some h with ⟨c4, h⟩ | ⟨c4, h⟩
  · refine g_if_eq (tgt := 14) hG dX11_move_4 rfl (fun _ => ?_) (fun q => absurd c4 q)
    refine g_aload_n hG dX11_move_14 rfl ?_
    refine g_ldc hG dX11_move_15 k_X11_83 ?_
    obtain ⟨v5, σ6, q7, h⟩ := ob_some h
    refine g_cV hG dX11_move_17 (c_N_T_fail q7) b_X11_fail v_X11_84 rfl (eT g A _ X) rfl ⟨Nat.le_of_ble_eq_true rfl, Nat.le_of_ble_eq_true rfl⟩ ⟨rfl, rfl⟩ ⟨Nat.zero_le _, Nat.zero_le _⟩ _ rfl (Nat.le_of_ble_eq_true rfl) ?_
    cases h
    exact K _ _ dX11_move_20
  · refine g_if_eq (tgt := 14) hG dX11_move_4 rfl (fun q => absurd q c4) (fun _ => ?_)
    refine g_iload_n hG dX11_move_7 rfl ?_
    obtain ⟨v8, σ9, q10, h⟩ := ob_some h
    refine g_cS hG dX11_move_8 (c_N_T_isSheet q10) b_X11_isSheet v_X11_230 rfl ⟨Nat.le_of_ble_eq_true rfl, Nat.le_of_ble_eq_true rfl⟩ ⟨rfl, rfl⟩ ⟨Nat.zero_le _, Nat.zero_le _⟩ _ rfl (Nat.le_of_ble_eq_true rfl) ?_
    rcases if_some h with ⟨c11, h⟩ | ⟨c11, h⟩
    · refine g_if_ne (tgt := 21) hG dX11_move_11 rfl (fun q => absurd c11 q) (fun _ => ?_)
      refine g_aload_n hG dX11_move_14 rfl ?_
      refine g_ldc hG dX11_move_15 k_X11_83 ?_
      obtain ⟨v12, σ13, q14, h⟩ := ob_some h
      refine g_cV hG dX11_move_17 (c_N_T_fail q14) b_X11_fail v_X11_84 rfl (eT g A _ X) rfl ⟨Nat.le_of_ble_eq_true rfl, Nat.le_of_ble_eq_true rfl⟩ ⟨rfl, rfl⟩ ⟨Nat.zero_le _, Nat.zero_le _⟩ _ rfl (Nat.le_of_ble_eq_true rfl) ?_
      cases h
      exact K _ _ dX11_move_20
    · refine g_if_ne (tgt := 21) hG dX11_move_11 rfl (fun _ => ?_) (fun q => absurd q c11)
      refine g_aload_n hG dX11_move_21 rfl ?_
      refine g_get (f := 6) hG dX11_move_22 (eT g A _ X) rfl inX11 (by decide) rfl f_X11_69 rfl ?_
      refine g_iload_n hG dX11_move_25 rfl ?_
      obtain ⟨b15, h⟩ := gd_some h
      refine c_iald hG dX11_move_26 aT6 b15 rfl ?_
      rcases if_some h with ⟨c16, h⟩ | ⟨c16, h⟩
      · refine g_if_eq (tgt := 39) hG dX11_move_27 rfl (fun _ => ?_) (fun q => absurd c16 q)
        refine g_aload_n hG dX11_move_39 rfl ?_
        refine g_ldc hG dX11_move_40 k_X11_208 ?_
        obtain ⟨v17, σ18, q19, h⟩ := ob_some h
        refine g_cV hG dX11_move_42 (c_N_T_fail q19) b_X11_fail v_X11_84 rfl (eT g A _ X) rfl ⟨Nat.le_of_ble_eq_true rfl, Nat.le_of_ble_eq_true rfl⟩ ⟨rfl, rfl⟩ ⟨Nat.zero_le _, Nat.zero_le _⟩ _ rfl (Nat.le_of_ble_eq_true rfl) ?_
        cases h
        exact K _ _ dX11_move_45
      · refine g_if_eq (tgt := 39) hG dX11_move_27 rfl (fun q => absurd q c16) (fun _ => ?_)
        refine g_aload_n hG dX11_move_30 rfl ?_
        refine g_get (f := 6) hG dX11_move_31 (eT g A _ X) rfl inX11 (by decide) rfl f_X11_69 rfl ?_
        refine g_iload_n hG dX11_move_34 rfl ?_
        obtain ⟨b20, h⟩ := gd_some h
        refine c_iald hG dX11_move_35 aT6 b20 rfl ?_
        rcases if_some h with ⟨c21, h⟩ | ⟨c21, h⟩
        · refine g_if_ne (tgt := 46) hG dX11_move_36 rfl (fun q => absurd c21 q) (fun _ => ?_)
          refine g_aload_n hG dX11_move_39 rfl ?_
          refine g_ldc hG dX11_move_40 k_X11_208 ?_
          obtain ⟨v22, σ23, q24, h⟩ := ob_some h
          refine g_cV hG dX11_move_42 (c_N_T_fail q24) b_X11_fail v_X11_84 rfl (eT g A _ X) rfl ⟨Nat.le_of_ble_eq_true rfl, Nat.le_of_ble_eq_true rfl⟩ ⟨rfl, rfl⟩ ⟨Nat.zero_le _, Nat.zero_le _⟩ _ rfl (Nat.le_of_ble_eq_true rfl) ?_
          cases h
          exact K _ _ dX11_move_45
        · refine g_if_ne (tgt := 46) hG dX11_move_36 rfl (fun _ => ?_) (fun q => absurd q c21)
          refine g_aload_n hG dX11_move_46 rfl ?_
          refine g_get (f := 6) hG dX11_move_47 (eT g A _ X) rfl inX11 (by decide) rfl f_X11_69 rfl ?_
          refine g_iload_n hG dX11_move_50 rfl ?_
          obtain ⟨b25, h⟩ := gd_some h
          refine c_iald hG dX11_move_51 aT6 b25 rfl ?_
          refine g_aload_n hG dX11_move_52 rfl ?_
          refine g_get (f := 6) hG dX11_move_53 (eT g A _ X) rfl inX11 (by decide) rfl f_X11_69 rfl ?_
          refine g_iload_n hG dX11_move_56 rfl ?_
          obtain ⟨b26, h⟩ := gd_some h
          refine c_iald hG dX11_move_57 aT6 b26 rfl ?_
          rcases if_some h with ⟨c27, h⟩ | ⟨c27, h⟩
          · refine g_icmp_eq (tgt := 68) hG dX11_move_58 rfl (fun _ => ?_) (fun q => absurd c27 q)
            refine g_aload_n hG dX11_move_68 rfl ?_
            refine g_iload_n hG dX11_move_69 rfl ?_
            refine g_iload_n hG dX11_move_70 rfl ?_
            refine g_iload hG dX11_move_71 rfl ?_
            obtain ⟨v28, σ29, q30, h⟩ := ob_some h
            refine g_cV hG dX11_move_73 (c_N_T_stand q30) b_X11_stand v_X11_277 rfl (eT g A _ X) rfl ⟨Nat.le_of_ble_eq_true rfl, Nat.le_of_ble_eq_true rfl⟩ ⟨rfl, rfl⟩ ⟨Nat.zero_le _, Nat.zero_le _⟩ _ rfl (Nat.le_of_ble_eq_true rfl) ?_
            rcases if_some h with ⟨c31, h⟩ | ⟨c31, h⟩
            · refine g_if_eq (tgt := 91) hG dX11_move_76 rfl (fun _ => ?_) (fun q => absurd c31 q)
              refine g_aload_n hG dX11_move_91 rfl ?_
              refine g_ldc hG dX11_move_92 k_X11_83 ?_
              obtain ⟨v32, σ33, q34, h⟩ := ob_some h
              refine g_cV hG dX11_move_94 (c_N_T_fail q34) b_X11_fail v_X11_84 rfl (eT g A _ X) rfl ⟨Nat.le_of_ble_eq_true rfl, Nat.le_of_ble_eq_true rfl⟩ ⟨rfl, rfl⟩ ⟨Nat.zero_le _, Nat.zero_le _⟩ _ rfl (Nat.le_of_ble_eq_true rfl) ?_
              cases h
              exact K _ _ dX11_move_97
            · refine g_if_eq (tgt := 91) hG dX11_move_76 rfl (fun q => absurd q c31) (fun _ => ?_)
              refine g_aload_n hG dX11_move_79 rfl ?_
              refine g_iload_n hG dX11_move_80 rfl ?_
              refine g_iload hG dX11_move_81 rfl ?_
              refine g_iload hG dX11_move_83 rfl ?_
              obtain ⟨v35, σ36, q37, h⟩ := ob_some h
              refine g_cV hG dX11_move_85 (c_N_T_stand q37) b_X11_stand v_X11_277 rfl (eT g A _ X) rfl ⟨Nat.le_of_ble_eq_true rfl, Nat.le_of_ble_eq_true rfl⟩ ⟨rfl, rfl⟩ ⟨Nat.zero_le _, Nat.zero_le _⟩ _ rfl (Nat.le_of_ble_eq_true rfl) ?_
              rcases if_some h with ⟨c38, h⟩ | ⟨c38, h⟩
              · refine g_if_ne (tgt := 98) hG dX11_move_88 rfl (fun q => absurd c38 q) (fun _ => ?_)
                refine g_aload_n hG dX11_move_91 rfl ?_
                refine g_ldc hG dX11_move_92 k_X11_83 ?_
                obtain ⟨v39, σ40, q41, h⟩ := ob_some h
                refine g_cV hG dX11_move_94 (c_N_T_fail q41) b_X11_fail v_X11_84 rfl (eT g A _ X) rfl ⟨Nat.le_of_ble_eq_true rfl, Nat.le_of_ble_eq_true rfl⟩ ⟨rfl, rfl⟩ ⟨Nat.zero_le _, Nat.zero_le _⟩ _ rfl (Nat.le_of_ble_eq_true rfl) ?_
                cases h
                exact K _ _ dX11_move_97
              · refine g_if_ne (tgt := 98) hG dX11_move_88 rfl (fun _ => ?_) (fun q => absurd q c38)
                refine g_aload_n hG dX11_move_98 rfl ?_
                refine g_get (f := 5) hG dX11_move_99 (eT g A _ X) rfl inX11 (by decide) rfl f_X11_66 rfl ?_
                refine g_iload_n hG dX11_move_102 rfl ?_
                obtain ⟨b42, h⟩ := gd_some h
                refine c_num hG dX11_move_103 b42 ?_
                refine g_iload_n hG dX11_move_104 rfl ?_
                refine g_aload_n hG dX11_move_105 rfl ?_
                refine g_get (f := 5) hG dX11_move_106 (eT g A _ X) rfl inX11 (by decide) rfl f_X11_66 rfl ?_
                refine g_iload_n hG dX11_move_109 rfl ?_
                obtain ⟨b43, h⟩ := gd_some h
                refine c_num hG dX11_move_110 b43 ?_
                refine g_iload hG dX11_move_111 rfl ?_
                refine g_iload hG dX11_move_113 rfl ?_
                obtain ⟨b44, h⟩ := gd_some h
                obtain ⟨σ45, e46, h⟩ := lt_ex h
                refine c_copy hG e46 dX11_move_115 v_X11_280 na_ac st_ac in_System (aN (inb_lt b42)) (aN (inb_lt b43)) b44 (Nat.le_of_ble_eq_true rfl) (by decide) ?_
                refine g_iload hG dX11_move_118 rfl ?_
                cases h
                exact K _ _ dX11_move_120
          · refine g_icmp_eq (tgt := 68) hG dX11_move_58 rfl (fun q => absurd q c27) (fun _ => ?_)
            refine g_aload_n hG dX11_move_61 rfl ?_
            refine g_ldc hG dX11_move_62 k_X11_154 ?_
            obtain ⟨v47, σ48, q49, h⟩ := ob_some h
            refine g_cV hG dX11_move_64 (c_N_T_fail q49) b_X11_fail v_X11_84 rfl (eT g A _ X) rfl ⟨Nat.le_of_ble_eq_true rfl, Nat.le_of_ble_eq_true rfl⟩ ⟨rfl, rfl⟩ ⟨Nat.zero_le _, Nat.zero_le _⟩ _ rfl (Nat.le_of_ble_eq_true rfl) ?_
            cases h
            exact K _ _ dX11_move_67
def N_T_dirts_b49 : Nat → Int32 → Int32 → Int32 → CS → Option (Int32 × CS)
  | 0, _, _, _, _ => none
  | n + 1, x1, x2, x3, σ => (if x2 ≤ x3 then (some (x2, σ)) else (gd (inb x1 4) (gd (inb x3 40) (lt (σ.2.1 6 (ix x1) (ix x3)) fun v19 => (ob (N_T_within v19 (0 : Int32) (999 : Int32) σ) fun v21 σ22 => (if v21 = 0 then (some (x3, σ22)) else (gd (inb x3 12) (lt (sa σ22 0 3 (upd (σ22.2.1 0 3) (ix x3) v19)) fun σ25 => ((N_T_dirts_b49  n) x1 x2 (x3 + (1 : Int32)) σ25)))))))))
set_option maxRecDepth 100000 in
set_option maxHeartbeats 4000000 in
theorem s_N_T_dirts_b49 {g : GP} {l : Launch} {A : Nat → Nat → Nat} {X : va_W} {G : GT} {v9 : Int32} {s9 : CS} (hG : IsG g l yX11_dirts cX11_dirts 5 { frames := 2, cells := 0, slots := 0, locals := 64 } G) (K : ∀ L pc, decode cX11_dirts pc = .ok (.ireturn, 1) → G 0 0 (wC g A s9 X) L pc [.int v9]) : ∀ (n : Nat) (x1 : Int32) (x2 : Int32) (x3 : Int32) (σ : CS) (h : N_T_dirts_b49  n x1 x2 x3 σ = some (v9, s9)), G 0 0 (wC g A σ X) [(0, .ref (A 5 99)), (1, .int x1), (2, .int x2), (3, .int x3)] 49 [] := by
  intro n
  induction n with
  | zero => intro _ _ _ σ h; cases h
  | succ n ih =>
    intro x1 x2 x3 σ h
    unfold N_T_dirts_b49 at h
    refine g_iload_n hG dX11_dirts_49 rfl ?_
    refine g_iload_n hG dX11_dirts_50 rfl ?_
    rcases if_some h with ⟨c16, h⟩ | ⟨c16, h⟩
    · refine g_icmp_ge (tgt := 95) hG dX11_dirts_51 rfl (fun _ => ?_) (fun q => absurd c16 q)
      refine g_iload_n hG dX11_dirts_95 rfl ?_
      cases h
      exact K _ _ dX11_dirts_96
    · refine g_icmp_ge (tgt := 95) hG dX11_dirts_51 rfl (fun q => absurd q c16) (fun _ => ?_)
      refine g_aload_n hG dX11_dirts_54 rfl ?_
      refine g_get (f := 5) hG dX11_dirts_55 (eT g A _ X) rfl inX11 (by decide) rfl f_X11_66 rfl ?_
      refine g_iload_n hG dX11_dirts_58 rfl ?_
      obtain ⟨b17, h⟩ := gd_some h
      refine c_num hG dX11_dirts_59 b17 ?_
      refine g_iload_n hG dX11_dirts_60 rfl ?_
      obtain ⟨b18, h⟩ := gd_some h
      refine c_iald hG dX11_dirts_61 (aN (inb_lt b17)) b18 rfl ?_
      obtain ⟨v19, e20, h⟩ := lt_ex h
      refine g_nam e20 ?_
      refine g_istore hG dX11_dirts_62 (by decide) ?_
      refine g_iload hG dX11_dirts_64 rfl ?_
      refine g_iconstv hG dX11_dirts_66 ki_0 ?_
      refine g_sipushv hG dX11_dirts_67 ks_999 ?_
      obtain ⟨v21, σ22, q23, h⟩ := ob_some h
      refine g_cS hG dX11_dirts_70 (c_N_T_within q23) b_X11_within v_X11_79 rfl ⟨Nat.le_of_ble_eq_true rfl, Nat.le_of_ble_eq_true rfl⟩ ⟨rfl, rfl⟩ ⟨Nat.zero_le _, Nat.zero_le _⟩ _ rfl (Nat.le_of_ble_eq_true rfl) ?_
      rcases if_some h with ⟨c24, h⟩ | ⟨c24, h⟩
      · refine g_if_ne (tgt := 78) hG dX11_dirts_73 rfl (fun q => absurd c24 q) (fun _ => ?_)
        refine g_iload_n hG dX11_dirts_76 rfl ?_
        cases h
        exact K _ _ dX11_dirts_77
      · refine g_if_ne (tgt := 78) hG dX11_dirts_73 rfl (fun _ => ?_) (fun q => absurd q c24)
        refine g_aload_n hG dX11_dirts_78 rfl ?_
        refine g_get (f := 0) hG dX11_dirts_79 (eT g A _ X) rfl inX11 (by decide) rfl f_X11_40 rfl ?_
        refine g_getN (f := 3) hG dX11_dirts_82 (eS (by decide)) rfl inX7 (by decide) rfl f_X11_97 rfl ?_
        refine g_iload_n hG dX11_dirts_85 rfl ?_
        refine g_iload hG dX11_dirts_86 rfl ?_
        obtain ⟨b27, h⟩ := gd_some h
        obtain ⟨σ25, e26, h⟩ := lt_ex h
        refine c_iast hG e26 dX11_dirts_88 (aS3 (d := 0) (by decide)) b27 rfl ?_
        refine g_iincv (c := (1 : Int32)) hG dX11_dirts_89 rfl (by decide) (by decide) ?_
        refine g_goto (tgt := 49) hG dX11_dirts_92 rfl ?_
        refine g_loc hG [(0, .ref (A 5 99)), (1, .int x1), (2, .int x2), (3, .int (x3 + (1 : Int32)))] ⟨rfl, rfl, rfl, rfl, trivial⟩ ?_
        exact ih _ _ _ _ h
def N_T_dirts (x1 : Int32) (σ : CS) : Option (Int32 × CS) := (ob (N_T_isSheet x1 σ) fun v1 σ2 => (if v1 = 0 then (ob (N_T_fail (-1000000001 : Int32) σ2) fun v5 σ6 => (some (v5, σ6))) else (gd (inb x1 4) (if (σ2.2.1 5 6 (ix x1)) = 0 then (ob (N_T_fail (-1000000002 : Int32) σ2) fun v10 σ11 => (some (v10, σ11))) else (gd (inb x1 4) (lt (if (σ2.1 0 5) < (σ2.2.1 5 7 (ix x1)) then (σ2.1 0 5) else (σ2.2.1 5 7 (ix x1))) fun v14 => (N_T_dirts_b49  FU x1 v14 (0 : Int32) σ2)))))))
set_option maxRecDepth 100000 in
set_option maxHeartbeats 4000000 in
theorem c_N_T_dirts {g : GP} {l : Launch} {A : Nat → Nat → Nat} {X : va_W} {v9 : Int32} {s9 : CS} {x1 : Int32} {σ : CS} (h : N_T_dirts x1 σ = some (v9, s9)) : CI g l yX11_dirts cX11_dirts 5 (some .int) { frames := 2, cells := 0, slots := 0, locals := 64 } [.ref (A 5 99), .int x1] (wC g A σ X) (fun r0 w => r0 = v9 ∧ w = wC g A s9 X) := by
  refine CI.mk (by decide) (Nat.le_of_ble_eq_true rfl) (fun G hG hret => ?_)
  have K : ∀ L pc, decode cX11_dirts pc = .ok (.ireturn, 1) → G 0 0 (wC g A s9 X) L pc [.int v9] := fun L pc d => hret _ L pc v9 d rfl ⟨rfl, rfl⟩
  unfold N_T_dirts at h
  refine g_iload_n hG dX11_dirts_0 rfl ?_
  obtain ⟨v1, σ2, q3, h⟩ := ob_some h
  refine g_cS hG dX11_dirts_1 (c_N_T_isSheet q3) b_X11_isSheet v_X11_230 rfl ⟨Nat.le_of_ble_eq_true rfl, Nat.le_of_ble_eq_true rfl⟩ ⟨rfl, rfl⟩ ⟨Nat.zero_le _, Nat.zero_le _⟩ _ rfl (Nat.le_of_ble_eq_true rfl) ?_
  rcases if_some h with ⟨c4, h⟩ | ⟨c4, h⟩
  · refine g_if_ne (tgt := 14) hG dX11_dirts_4 rfl (fun q => absurd c4 q) (fun _ => ?_)
    refine g_aload_n hG dX11_dirts_7 rfl ?_
    refine g_ldc hG dX11_dirts_8 k_X11_83 ?_
    obtain ⟨v5, σ6, q7, h⟩ := ob_some h
    refine g_cV hG dX11_dirts_10 (c_N_T_fail q7) b_X11_fail v_X11_84 rfl (eT g A _ X) rfl ⟨Nat.le_of_ble_eq_true rfl, Nat.le_of_ble_eq_true rfl⟩ ⟨rfl, rfl⟩ ⟨Nat.zero_le _, Nat.zero_le _⟩ _ rfl (Nat.le_of_ble_eq_true rfl) ?_
    cases h
    exact K _ _ dX11_dirts_13
  · refine g_if_ne (tgt := 14) hG dX11_dirts_4 rfl (fun _ => ?_) (fun q => absurd q c4)
    refine g_aload_n hG dX11_dirts_14 rfl ?_
    refine g_get (f := 6) hG dX11_dirts_15 (eT g A _ X) rfl inX11 (by decide) rfl f_X11_69 rfl ?_
    refine g_iload_n hG dX11_dirts_18 rfl ?_
    obtain ⟨b8, h⟩ := gd_some h
    refine c_iald hG dX11_dirts_19 aT6 b8 rfl ?_
    rcases if_some h with ⟨c9, h⟩ | ⟨c9, h⟩
    · refine g_if_ne (tgt := 30) hG dX11_dirts_20 rfl (fun q => absurd c9 q) (fun _ => ?_)
      refine g_aload_n hG dX11_dirts_23 rfl ?_
      refine g_ldc hG dX11_dirts_24 k_X11_208 ?_
      obtain ⟨v10, σ11, q12, h⟩ := ob_some h
      refine g_cV hG dX11_dirts_26 (c_N_T_fail q12) b_X11_fail v_X11_84 rfl (eT g A _ X) rfl ⟨Nat.le_of_ble_eq_true rfl, Nat.le_of_ble_eq_true rfl⟩ ⟨rfl, rfl⟩ ⟨Nat.zero_le _, Nat.zero_le _⟩ _ rfl (Nat.le_of_ble_eq_true rfl) ?_
      cases h
      exact K _ _ dX11_dirts_29
    · refine g_if_ne (tgt := 30) hG dX11_dirts_20 rfl (fun _ => ?_) (fun q => absurd q c9)
      refine g_aload_n hG dX11_dirts_30 rfl ?_
      refine g_get (f := 7) hG dX11_dirts_31 (eT g A _ X) rfl inX11 (by decide) rfl f_X11_73 rfl ?_
      refine g_iload_n hG dX11_dirts_34 rfl ?_
      obtain ⟨b13, h⟩ := gd_some h
      refine c_iald hG dX11_dirts_35 aT7 b13 rfl ?_
      refine g_aload_n hG dX11_dirts_36 rfl ?_
      refine g_get (f := 0) hG dX11_dirts_37 (eT g A _ X) rfl inX11 (by decide) rfl f_X11_40 rfl ?_
      refine g_getN (f := 5) hG dX11_dirts_40 (eS (by decide)) rfl inX7 (by decide) rfl f_X11_88 rfl ?_
      refine g_min hG dX11_dirts_43 v_X11_215 st_min in_Math co_min (Nat.le_of_ble_eq_true rfl) (Nat.le_of_ble_eq_true rfl) (Nat.zero_le _) (Nat.zero_le _) ?_
      obtain ⟨v14, e15, h⟩ := lt_ex h
      refine g_nam e15 ?_
      refine g_istore_n hG dX11_dirts_46 (by decide) ?_
      refine g_iconstv hG dX11_dirts_47 ki_0 ?_
      refine g_istore_n hG dX11_dirts_48 (by decide) ?_
      refine g_loc hG [(0, .ref (A 5 99)), (1, .int x1), (2, .int v14), (3, .int (0 : Int32))] ⟨rfl, rfl, rfl, rfl, trivial⟩ ?_
      exact s_N_T_dirts_b49  hG K FU _ _ _ _ h
def N_T_judge_b49 : Nat → Int32 → Int32 → Int32 → CS → Option (Int32 × CS)
  | 0, _, _, _, _ => none
  | n + 1, x1, x2, x3, σ => (if x2 ≤ x3 then (gd (inb x1 4) (some ((if (σ.2.1 5 7 (ix x1)) = (σ.1 0 5) then (-1 : Int32) else x2), σ))) else (gd (inb x1 4) (gd (inb x3 40) (ob (N_S_carOf 0 x3 σ) fun v22 σ23 => (if (σ.2.1 6 (ix x1) (ix x3)) = v22 then ((N_T_judge_b49  n) x1 x2 (x3 + (1 : Int32)) σ23) else (some (x3, σ23)))))))
set_option maxRecDepth 100000 in
set_option maxHeartbeats 4000000 in
theorem s_N_T_judge_b49 {g : GP} {l : Launch} {A : Nat → Nat → Nat} {X : va_W} {G : GT} {v9 : Int32} {s9 : CS} (hG : IsG g l yX11_judge cX11_judge 4 { frames := 2, cells := 0, slots := 0, locals := 64 } G) (K : ∀ L pc, decode cX11_judge pc = .ok (.ireturn, 1) → G 0 0 (wC g A s9 X) L pc [.int v9]) : ∀ (n : Nat) (x1 : Int32) (x2 : Int32) (x3 : Int32) (σ : CS) (h : N_T_judge_b49  n x1 x2 x3 σ = some (v9, s9)), G 0 0 (wC g A σ X) [(0, .ref (A 5 99)), (1, .int x1), (2, .int x2), (3, .int x3)] 49 [] := by
  intro n
  induction n with
  | zero => intro _ _ _ σ h; cases h
  | succ n ih =>
    intro x1 x2 x3 σ h
    unfold N_T_judge_b49 at h
    refine g_iload_n hG dX11_judge_49 rfl ?_
    refine g_iload_n hG dX11_judge_50 rfl ?_
    rcases if_some h with ⟨c16, h⟩ | ⟨c16, h⟩
    · refine g_icmp_ge (tgt := 81) hG dX11_judge_51 rfl (fun _ => ?_) (fun q => absurd c16 q)
      refine g_aload_n hG dX11_judge_81 rfl ?_
      refine g_get (f := 7) hG dX11_judge_82 (eT g A _ X) rfl inX11 (by decide) rfl f_X11_73 rfl ?_
      refine g_iload_n hG dX11_judge_85 rfl ?_
      obtain ⟨b17, h⟩ := gd_some h
      refine c_iald hG dX11_judge_86 aT7 b17 rfl ?_
      refine g_aload_n hG dX11_judge_87 rfl ?_
      refine g_get (f := 0) hG dX11_judge_88 (eT g A _ X) rfl inX11 (by decide) rfl f_X11_40 rfl ?_
      refine g_getN (f := 5) hG dX11_judge_91 (eS (by decide)) rfl inX7 (by decide) rfl f_X11_88 rfl ?_
      refine g_dia2 (if (σ.2.1 5 7 (ix x1)) = (σ.1 0 5) then (-1 : Int32) else x2) 102 (fun J18 => ?_) ?_
      · by_cases c19 : (σ.2.1 5 7 (ix x1)) = (σ.1 0 5)
        · refine g_icmp_ne (tgt := 101) hG dX11_judge_94 rfl (fun q => absurd c19 q) (fun _ => ?_)
          refine g_iconstv hG dX11_judge_97 ki_m1 ?_
          refine g_goto (tgt := 102) hG dX11_judge_98 rfl ?_
          rw [if_pos c19] at J18
          exact J18
        · refine g_icmp_ne (tgt := 101) hG dX11_judge_94 rfl (fun _ => ?_) (fun q => absurd q c19)
          refine g_iload_n hG dX11_judge_101 rfl ?_
          rw [if_neg c19] at J18
          exact J18
      cases h
      exact K _ _ dX11_judge_102
    · refine g_icmp_ge (tgt := 81) hG dX11_judge_51 rfl (fun q => absurd q c16) (fun _ => ?_)
      refine g_aload_n hG dX11_judge_54 rfl ?_
      refine g_get (f := 5) hG dX11_judge_55 (eT g A _ X) rfl inX11 (by decide) rfl f_X11_66 rfl ?_
      refine g_iload_n hG dX11_judge_58 rfl ?_
      obtain ⟨b20, h⟩ := gd_some h
      refine c_num hG dX11_judge_59 b20 ?_
      refine g_iload_n hG dX11_judge_60 rfl ?_
      obtain ⟨b21, h⟩ := gd_some h
      refine c_iald hG dX11_judge_61 (aN (inb_lt b20)) b21 rfl ?_
      refine g_aload_n hG dX11_judge_62 rfl ?_
      refine g_get (f := 0) hG dX11_judge_63 (eT g A _ X) rfl inX11 (by decide) rfl f_X11_40 rfl ?_
      refine g_iload_n hG dX11_judge_66 rfl ?_
      obtain ⟨v22, σ23, q24, h⟩ := ob_some h
      refine g_cV hG dX11_judge_67 (c_N_S_carOf (by decide) q24) b_X7_carOf v_X11_123 rfl (eS (by decide)) rfl ⟨Nat.le_of_ble_eq_true rfl, Nat.le_of_ble_eq_true rfl⟩ ⟨rfl, rfl⟩ ⟨Nat.zero_le _, Nat.zero_le _⟩ _ rfl (Nat.le_of_ble_eq_true rfl) ?_
      rcases if_some h with ⟨c25, h⟩ | ⟨c25, h⟩
      · refine g_icmp_eq (tgt := 75) hG dX11_judge_70 rfl (fun _ => ?_) (fun q => absurd c25 q)
        refine g_iincv (c := (1 : Int32)) hG dX11_judge_75 rfl (by decide) (by decide) ?_
        refine g_goto (tgt := 49) hG dX11_judge_78 rfl ?_
        refine g_loc hG [(0, .ref (A 5 99)), (1, .int x1), (2, .int x2), (3, .int (x3 + (1 : Int32)))] ⟨rfl, rfl, rfl, rfl, trivial⟩ ?_
        exact ih _ _ _ _ h
      · refine g_icmp_eq (tgt := 75) hG dX11_judge_70 rfl (fun q => absurd q c25) (fun _ => ?_)
        refine g_iload_n hG dX11_judge_73 rfl ?_
        cases h
        exact K _ _ dX11_judge_74
def N_T_judge (x1 : Int32) (σ : CS) : Option (Int32 × CS) := (ob (N_T_isSheet x1 σ) fun v1 σ2 => (if v1 = 0 then (ob (N_T_fail (-1000000001 : Int32) σ2) fun v5 σ6 => (some (v5, σ6))) else (gd (inb x1 4) (if (σ2.2.1 5 6 (ix x1)) = 0 then (ob (N_T_fail (-1000000002 : Int32) σ2) fun v10 σ11 => (some (v10, σ11))) else (gd (inb x1 4) (lt (if (σ2.1 0 5) < (σ2.2.1 5 7 (ix x1)) then (σ2.1 0 5) else (σ2.2.1 5 7 (ix x1))) fun v14 => (N_T_judge_b49  FU x1 v14 (0 : Int32) σ2)))))))
set_option maxRecDepth 100000 in
set_option maxHeartbeats 4000000 in
theorem c_N_T_judge {g : GP} {l : Launch} {A : Nat → Nat → Nat} {X : va_W} {v9 : Int32} {s9 : CS} {x1 : Int32} {σ : CS} (h : N_T_judge x1 σ = some (v9, s9)) : CI g l yX11_judge cX11_judge 4 (some .int) { frames := 2, cells := 0, slots := 0, locals := 64 } [.ref (A 5 99), .int x1] (wC g A σ X) (fun r0 w => r0 = v9 ∧ w = wC g A s9 X) := by
  refine CI.mk (by decide) (Nat.le_of_ble_eq_true rfl) (fun G hG hret => ?_)
  have K : ∀ L pc, decode cX11_judge pc = .ok (.ireturn, 1) → G 0 0 (wC g A s9 X) L pc [.int v9] := fun L pc d => hret _ L pc v9 d rfl ⟨rfl, rfl⟩
  unfold N_T_judge at h
  refine g_iload_n hG dX11_judge_0 rfl ?_
  obtain ⟨v1, σ2, q3, h⟩ := ob_some h
  refine g_cS hG dX11_judge_1 (c_N_T_isSheet q3) b_X11_isSheet v_X11_230 rfl ⟨Nat.le_of_ble_eq_true rfl, Nat.le_of_ble_eq_true rfl⟩ ⟨rfl, rfl⟩ ⟨Nat.zero_le _, Nat.zero_le _⟩ _ rfl (Nat.le_of_ble_eq_true rfl) ?_
  rcases if_some h with ⟨c4, h⟩ | ⟨c4, h⟩
  · refine g_if_ne (tgt := 14) hG dX11_judge_4 rfl (fun q => absurd c4 q) (fun _ => ?_)
    refine g_aload_n hG dX11_judge_7 rfl ?_
    refine g_ldc hG dX11_judge_8 k_X11_83 ?_
    obtain ⟨v5, σ6, q7, h⟩ := ob_some h
    refine g_cV hG dX11_judge_10 (c_N_T_fail q7) b_X11_fail v_X11_84 rfl (eT g A _ X) rfl ⟨Nat.le_of_ble_eq_true rfl, Nat.le_of_ble_eq_true rfl⟩ ⟨rfl, rfl⟩ ⟨Nat.zero_le _, Nat.zero_le _⟩ _ rfl (Nat.le_of_ble_eq_true rfl) ?_
    cases h
    exact K _ _ dX11_judge_13
  · refine g_if_ne (tgt := 14) hG dX11_judge_4 rfl (fun _ => ?_) (fun q => absurd q c4)
    refine g_aload_n hG dX11_judge_14 rfl ?_
    refine g_get (f := 6) hG dX11_judge_15 (eT g A _ X) rfl inX11 (by decide) rfl f_X11_69 rfl ?_
    refine g_iload_n hG dX11_judge_18 rfl ?_
    obtain ⟨b8, h⟩ := gd_some h
    refine c_iald hG dX11_judge_19 aT6 b8 rfl ?_
    rcases if_some h with ⟨c9, h⟩ | ⟨c9, h⟩
    · refine g_if_ne (tgt := 30) hG dX11_judge_20 rfl (fun q => absurd c9 q) (fun _ => ?_)
      refine g_aload_n hG dX11_judge_23 rfl ?_
      refine g_ldc hG dX11_judge_24 k_X11_208 ?_
      obtain ⟨v10, σ11, q12, h⟩ := ob_some h
      refine g_cV hG dX11_judge_26 (c_N_T_fail q12) b_X11_fail v_X11_84 rfl (eT g A _ X) rfl ⟨Nat.le_of_ble_eq_true rfl, Nat.le_of_ble_eq_true rfl⟩ ⟨rfl, rfl⟩ ⟨Nat.zero_le _, Nat.zero_le _⟩ _ rfl (Nat.le_of_ble_eq_true rfl) ?_
      cases h
      exact K _ _ dX11_judge_29
    · refine g_if_ne (tgt := 30) hG dX11_judge_20 rfl (fun _ => ?_) (fun q => absurd q c9)
      refine g_aload_n hG dX11_judge_30 rfl ?_
      refine g_get (f := 7) hG dX11_judge_31 (eT g A _ X) rfl inX11 (by decide) rfl f_X11_73 rfl ?_
      refine g_iload_n hG dX11_judge_34 rfl ?_
      obtain ⟨b13, h⟩ := gd_some h
      refine c_iald hG dX11_judge_35 aT7 b13 rfl ?_
      refine g_aload_n hG dX11_judge_36 rfl ?_
      refine g_get (f := 0) hG dX11_judge_37 (eT g A _ X) rfl inX11 (by decide) rfl f_X11_40 rfl ?_
      refine g_getN (f := 5) hG dX11_judge_40 (eS (by decide)) rfl inX7 (by decide) rfl f_X11_88 rfl ?_
      refine g_min hG dX11_judge_43 v_X11_215 st_min in_Math co_min (Nat.le_of_ble_eq_true rfl) (Nat.le_of_ble_eq_true rfl) (Nat.zero_le _) (Nat.zero_le _) ?_
      obtain ⟨v14, e15, h⟩ := lt_ex h
      refine g_nam e15 ?_
      refine g_istore_n hG dX11_judge_46 (by decide) ?_
      refine g_iconstv hG dX11_judge_47 ki_0 ?_
      refine g_istore_n hG dX11_judge_48 (by decide) ?_
      refine g_loc hG [(0, .ref (A 5 99)), (1, .int x1), (2, .int v14), (3, .int (0 : Int32))] ⟨rfl, rfl, rfl, rfl, trivial⟩ ?_
      exact s_N_T_judge_b49  hG K FU _ _ _ _ h
def N_T_image  (σ : CS) : Option (Int32 × CS) := (ob (N_S_keepAllOf 2 0  σ) fun v1 σ2 => (lt (si σ2 5 9 ((σ2.1 5 9) + (1 : Int32))) fun σ4 => (some ((σ4.1 5 9), σ4))))
set_option maxRecDepth 100000 in
set_option maxHeartbeats 4000000 in
theorem c_N_T_image {g : GP} {l : Launch} {A : Nat → Nat → Nat} {X : va_W} {v9 : Int32} {s9 : CS} {σ : CS} (h : N_T_image  σ = some (v9, s9)) : CI g l yX11_image cX11_image 1 (some .int) { frames := 3, cells := 0, slots := 0, locals := 106 } [.ref (A 5 99)] (wC g A σ X) (fun r0 w => r0 = v9 ∧ w = wC g A s9 X) := by
  refine CI.mk (by decide) (Nat.le_of_ble_eq_true rfl) (fun G hG hret => ?_)
  have K : ∀ L pc, decode cX11_image pc = .ok (.ireturn, 1) → G 0 0 (wC g A s9 X) L pc [.int v9] := fun L pc d => hret _ L pc v9 d rfl ⟨rfl, rfl⟩
  unfold N_T_image at h
  refine g_aload_n hG dX11_image_0 rfl ?_
  refine g_get (f := 2) hG dX11_image_1 (eT g A _ X) rfl inX11 (by decide) rfl f_X11_47 rfl ?_
  refine g_aload_n hG dX11_image_4 rfl ?_
  refine g_get (f := 0) hG dX11_image_5 (eT g A _ X) rfl inX11 (by decide) rfl f_X11_40 rfl ?_
  obtain ⟨v1, σ2, q3, h⟩ := ob_some h
  refine g_cVv hG dX11_image_8 (c_N_S_keepAllOf (by decide) (by decide) q3) b_X7_keepAllOf v_X11_286 rfl (eS (by decide)) rfl ⟨Nat.le_of_ble_eq_true rfl, Nat.le_of_ble_eq_true rfl⟩ ⟨rfl, rfl⟩ ⟨Nat.zero_le _, Nat.zero_le _⟩ _ rfl (Nat.le_of_ble_eq_true rfl) ?_
  refine g_aload_n hG dX11_image_11 rfl ?_
  refine g_dup hG dX11_image_12 rfl ?_
  refine g_get (f := 9) hG dX11_image_13 (eT g A _ X) rfl inX11 (by decide) rfl f_X11_289 rfl ?_
  refine g_iconstv hG dX11_image_16 ki_1 ?_
  refine g_iadd hG dX11_image_17 ?_
  obtain ⟨σ4, e5, h⟩ := lt_ex h
  refine this_put hG e5 dX11_image_18 f_X11_289 ?_
  refine g_aload_n hG dX11_image_21 rfl ?_
  refine g_get (f := 9) hG dX11_image_22 (eT g A _ X) rfl inX11 (by decide) rfl f_X11_289 rfl ?_
  cases h
  exact K _ _ dX11_image_25
def N_T_restore  (σ : CS) : Option (Int32 × CS) := (if (σ.1 5 9) = 0 then (ob (N_T_fail (-1000000002 : Int32) σ) fun v2 σ3 => (some (v2, σ3))) else (ob (N_S_keepAllOf 0 2  σ) fun v5 σ6 => (some ((σ6.1 0 7), σ6))))
set_option maxRecDepth 100000 in
set_option maxHeartbeats 4000000 in
theorem c_N_T_restore {g : GP} {l : Launch} {A : Nat → Nat → Nat} {X : va_W} {v9 : Int32} {s9 : CS} {σ : CS} (h : N_T_restore  σ = some (v9, s9)) : CI g l yX11_restore cX11_restore 1 (some .int) { frames := 3, cells := 0, slots := 0, locals := 106 } [.ref (A 5 99)] (wC g A σ X) (fun r0 w => r0 = v9 ∧ w = wC g A s9 X) := by
  refine CI.mk (by decide) (Nat.le_of_ble_eq_true rfl) (fun G hG hret => ?_)
  have K : ∀ L pc, decode cX11_restore pc = .ok (.ireturn, 1) → G 0 0 (wC g A s9 X) L pc [.int v9] := fun L pc d => hret _ L pc v9 d rfl ⟨rfl, rfl⟩
  unfold N_T_restore at h
  refine g_aload_n hG dX11_restore_0 rfl ?_
  refine g_get (f := 9) hG dX11_restore_1 (eT g A _ X) rfl inX11 (by decide) rfl f_X11_289 rfl ?_
  rcases if_some h with ⟨c1, h⟩ | ⟨c1, h⟩
  · refine g_if_ne (tgt := 14) hG dX11_restore_4 rfl (fun q => absurd c1 q) (fun _ => ?_)
    refine g_aload_n hG dX11_restore_7 rfl ?_
    refine g_ldc hG dX11_restore_8 k_X11_208 ?_
    obtain ⟨v2, σ3, q4, h⟩ := ob_some h
    refine g_cV hG dX11_restore_10 (c_N_T_fail q4) b_X11_fail v_X11_84 rfl (eT g A _ X) rfl ⟨Nat.le_of_ble_eq_true rfl, Nat.le_of_ble_eq_true rfl⟩ ⟨rfl, rfl⟩ ⟨Nat.zero_le _, Nat.zero_le _⟩ _ rfl (Nat.le_of_ble_eq_true rfl) ?_
    cases h
    exact K _ _ dX11_restore_13
  · refine g_if_ne (tgt := 14) hG dX11_restore_4 rfl (fun _ => ?_) (fun q => absurd q c1)
    refine g_aload_n hG dX11_restore_14 rfl ?_
    refine g_get (f := 0) hG dX11_restore_15 (eT g A _ X) rfl inX11 (by decide) rfl f_X11_40 rfl ?_
    refine g_aload_n hG dX11_restore_18 rfl ?_
    refine g_get (f := 2) hG dX11_restore_19 (eT g A _ X) rfl inX11 (by decide) rfl f_X11_47 rfl ?_
    obtain ⟨v5, σ6, q7, h⟩ := ob_some h
    refine g_cVv hG dX11_restore_22 (c_N_S_keepAllOf (by decide) (by decide) q7) b_X7_keepAllOf v_X11_286 rfl (eS (by decide)) rfl ⟨Nat.le_of_ble_eq_true rfl, Nat.le_of_ble_eq_true rfl⟩ ⟨rfl, rfl⟩ ⟨Nat.zero_le _, Nat.zero_le _⟩ _ rfl (Nat.le_of_ble_eq_true rfl) ?_
    refine g_aload_n hG dX11_restore_25 rfl ?_
    refine g_get (f := 0) hG dX11_restore_26 (eT g A _ X) rfl inX11 (by decide) rfl f_X11_40 rfl ?_
    refine g_getN (f := 7) hG dX11_restore_29 (eS (by decide)) rfl inX7 (by decide) rfl f_X11_155 rfl ?_
    cases h
    exact K _ _ dX11_restore_32
def N_T_tell (x1 : Int32) (σ : CS) : Option (Int32 × CS) := (if (σ.1 0 16) < (20 : Int32) then (gd (inb (σ.1 0 16) 20) (lt (sa σ 0 15 (upd (σ.2.1 0 15) (ix (σ.1 0 16)) x1)) fun σ2 => (lt (si σ2 0 16 ((σ2.1 0 16) + (1 : Int32))) fun σ5 => (some ((σ5.1 0 16), σ5))))) else (ob (N_T_fail (-1000000004 : Int32) σ) fun v7 σ8 => (some (v7, σ8))))
set_option maxRecDepth 100000 in
set_option maxHeartbeats 4000000 in
theorem c_N_T_tell {g : GP} {l : Launch} {A : Nat → Nat → Nat} {X : va_W} {v9 : Int32} {s9 : CS} {x1 : Int32} {σ : CS} (h : N_T_tell x1 σ = some (v9, s9)) : CI g l yX11_tell cX11_tell 2 (some .int) { frames := 1, cells := 0, slots := 0, locals := 21 } [.ref (A 5 99), .int x1] (wC g A σ X) (fun r0 w => r0 = v9 ∧ w = wC g A s9 X) := by
  refine CI.mk (by decide) (Nat.le_of_ble_eq_true rfl) (fun G hG hret => ?_)
  have K : ∀ L pc, decode cX11_tell pc = .ok (.ireturn, 1) → G 0 0 (wC g A s9 X) L pc [.int v9] := fun L pc d => hret _ L pc v9 d rfl ⟨rfl, rfl⟩
  unfold N_T_tell at h
  refine g_aload_n hG dX11_tell_0 rfl ?_
  refine g_get (f := 0) hG dX11_tell_1 (eT g A _ X) rfl inX11 (by decide) rfl f_X11_40 rfl ?_
  refine g_getN (f := 16) hG dX11_tell_4 (eS (by decide)) rfl inX7 (by decide) rfl f_X11_292 rfl ?_
  refine g_bipushv hG dX11_tell_7 kb_20 ?_
  rcases if_some h with ⟨c1, h⟩ | ⟨c1, h⟩
  · refine g_icmp_lt (tgt := 19) hG dX11_tell_9 rfl (fun _ => ?_) (fun q => absurd c1 q)
    refine g_aload_n hG dX11_tell_19 rfl ?_
    refine g_get (f := 0) hG dX11_tell_20 (eT g A _ X) rfl inX11 (by decide) rfl f_X11_40 rfl ?_
    refine g_getN (f := 15) hG dX11_tell_23 (eS (by decide)) rfl inX7 (by decide) rfl f_X11_295 rfl ?_
    refine g_aload_n hG dX11_tell_26 rfl ?_
    refine g_get (f := 0) hG dX11_tell_27 (eT g A _ X) rfl inX11 (by decide) rfl f_X11_40 rfl ?_
    refine g_getN (f := 16) hG dX11_tell_30 (eS (by decide)) rfl inX7 (by decide) rfl f_X11_292 rfl ?_
    refine g_iload_n hG dX11_tell_33 rfl ?_
    obtain ⟨b4, h⟩ := gd_some h
    obtain ⟨σ2, e3, h⟩ := lt_ex h
    refine c_iast hG e3 dX11_tell_34 (aS15 (d := 0) (by decide)) b4 rfl ?_
    refine g_aload_n hG dX11_tell_35 rfl ?_
    refine g_get (f := 0) hG dX11_tell_36 (eT g A _ X) rfl inX11 (by decide) rfl f_X11_40 rfl ?_
    refine g_dup hG dX11_tell_39 rfl ?_
    refine g_getN (f := 16) hG dX11_tell_40 (eS (by decide)) rfl inX7 (by decide) rfl f_X11_292 rfl ?_
    refine g_iconstv hG dX11_tell_43 ki_1 ?_
    refine g_iadd hG dX11_tell_44 ?_
    obtain ⟨σ5, e6, h⟩ := lt_ex h
    refine t_putN 16 hG (by decide) e6 dX11_tell_45 f_X11_292 (by decide) (by decide) rfl rfl rfl ?_
    refine g_aload_n hG dX11_tell_48 rfl ?_
    refine g_get (f := 0) hG dX11_tell_49 (eT g A _ X) rfl inX11 (by decide) rfl f_X11_40 rfl ?_
    refine g_getN (f := 16) hG dX11_tell_52 (eS (by decide)) rfl inX7 (by decide) rfl f_X11_292 rfl ?_
    cases h
    exact K _ _ dX11_tell_55
  · refine g_icmp_lt (tgt := 19) hG dX11_tell_9 rfl (fun q => absurd q c1) (fun _ => ?_)
    refine g_aload_n hG dX11_tell_12 rfl ?_
    refine g_ldc hG dX11_tell_13 k_X11_92 ?_
    obtain ⟨v7, σ8, q9, h⟩ := ob_some h
    refine g_cV hG dX11_tell_15 (c_N_T_fail q9) b_X11_fail v_X11_84 rfl (eT g A _ X) rfl ⟨Nat.le_of_ble_eq_true rfl, Nat.le_of_ble_eq_true rfl⟩ ⟨rfl, rfl⟩ ⟨Nat.zero_le _, Nat.zero_le _⟩ _ rfl (Nat.le_of_ble_eq_true rfl) ?_
    cases h
    exact K _ _ dX11_tell_18
def N_T_check_b29 : Nat → Int32 → Int32 → CS → Option (Int32 × CS)
  | 0, _, _, _ => none
  | n + 1, x1, x2, σ => (if x1 ≤ x2 then (some ((0 : Int32), σ)) else (ob (N_S_passAll 1 (1 : Int32) σ) fun v9 σ10 => (ob (N_S_dirtOfAll 1  σ10) fun v12 σ13 => (gd (inb x2 20) (if v12 = (σ13.2.1 0 15 (ix x2)) then ((N_T_check_b29  n) x1 (x2 + (1 : Int32)) σ13) else (some (((1 : Int32) + x2), σ13)))))))
set_option maxRecDepth 100000 in
set_option maxHeartbeats 4000000 in
theorem s_N_T_check_b29 {g : GP} {l : Launch} {A : Nat → Nat → Nat} {X : va_W} {G : GT} {v9 : Int32} {s9 : CS} (hG : IsG g l yX11_check cX11_check 3 { frames := 5, cells := 0, slots := 0, locals := 159 } G) (K : ∀ L pc, decode cX11_check pc = .ok (.ireturn, 1) → G 0 0 (wC g A s9 X) L pc [.int v9]) : ∀ (n : Nat) (x1 : Int32) (x2 : Int32) (σ : CS) (h : N_T_check_b29  n x1 x2 σ = some (v9, s9)), G 0 0 (wC g A σ X) [(0, .ref (A 5 99)), (1, .int x1), (2, .int x2)] 29 [] := by
  intro n
  induction n with
  | zero => intro _ _ σ h; cases h
  | succ n ih =>
    intro x1 x2 σ h
    unfold N_T_check_b29 at h
    refine g_iload_n hG dX11_check_29 rfl ?_
    refine g_iload_n hG dX11_check_30 rfl ?_
    rcases if_some h with ⟨c8, h⟩ | ⟨c8, h⟩
    · refine g_icmp_ge (tgt := 71) hG dX11_check_31 rfl (fun _ => ?_) (fun q => absurd c8 q)
      refine g_iconstv hG dX11_check_71 ki_0 ?_
      cases h
      exact K _ _ dX11_check_72
    · refine g_icmp_ge (tgt := 71) hG dX11_check_31 rfl (fun q => absurd q c8) (fun _ => ?_)
      refine g_aload_n hG dX11_check_34 rfl ?_
      refine g_get (f := 1) hG dX11_check_35 (eT g A _ X) rfl inX11 (by decide) rfl f_X11_44 rfl ?_
      refine g_iconstv hG dX11_check_38 ki_1 ?_
      obtain ⟨v9, σ10, q11, h⟩ := ob_some h
      refine g_cVv hG dX11_check_39 (c_N_S_passAll (by decide) q11) b_X7_passAll v_X11_187 rfl (eS (by decide)) rfl ⟨Nat.le_of_ble_eq_true rfl, Nat.le_of_ble_eq_true rfl⟩ ⟨rfl, rfl⟩ ⟨Nat.zero_le _, Nat.zero_le _⟩ _ rfl (Nat.le_of_ble_eq_true rfl) ?_
      refine g_aload_n hG dX11_check_42 rfl ?_
      refine g_get (f := 1) hG dX11_check_43 (eT g A _ X) rfl inX11 (by decide) rfl f_X11_44 rfl ?_
      obtain ⟨v12, σ13, q14, h⟩ := ob_some h
      refine g_cV hG dX11_check_46 (c_N_S_dirtOfAll (by decide) q14) b_X7_dirtOfAll v_X11_191 rfl (eS (by decide)) rfl ⟨Nat.le_of_ble_eq_true rfl, Nat.le_of_ble_eq_true rfl⟩ ⟨rfl, rfl⟩ ⟨Nat.zero_le _, Nat.zero_le _⟩ _ rfl (Nat.le_of_ble_eq_true rfl) ?_
      refine g_aload_n hG dX11_check_49 rfl ?_
      refine g_get (f := 0) hG dX11_check_50 (eT g A _ X) rfl inX11 (by decide) rfl f_X11_40 rfl ?_
      refine g_getN (f := 15) hG dX11_check_53 (eS (by decide)) rfl inX7 (by decide) rfl f_X11_295 rfl ?_
      refine g_iload_n hG dX11_check_56 rfl ?_
      obtain ⟨b15, h⟩ := gd_some h
      refine c_iald hG dX11_check_57 (aS15 (d := 0) (by decide)) b15 rfl ?_
      rcases if_some h with ⟨c16, h⟩ | ⟨c16, h⟩
      · refine g_icmp_eq (tgt := 65) hG dX11_check_58 rfl (fun _ => ?_) (fun q => absurd c16 q)
        refine g_iincv (c := (1 : Int32)) hG dX11_check_65 rfl (by decide) (by decide) ?_
        refine g_goto (tgt := 29) hG dX11_check_68 rfl ?_
        refine g_loc hG [(0, .ref (A 5 99)), (1, .int x1), (2, .int (x2 + (1 : Int32)))] ⟨rfl, rfl, rfl, trivial⟩ ?_
        exact ih _ _ _ h
      · refine g_icmp_eq (tgt := 65) hG dX11_check_58 rfl (fun q => absurd q c16) (fun _ => ?_)
        refine g_iconstv hG dX11_check_61 ki_1 ?_
        refine g_iload_n hG dX11_check_62 rfl ?_
        refine g_iadd hG dX11_check_63 ?_
        cases h
        exact K _ _ dX11_check_64
def N_T_check  (σ : CS) : Option (Int32 × CS) := (lt (σ.1 0 16) fun v1 => (lt (si σ 0 16 (0 : Int32)) fun σ3 => (ob (N_S_thinkOf 1 0  σ3) fun v5 σ6 => (N_T_check_b29  FU v1 (0 : Int32) σ6))))
set_option maxRecDepth 100000 in
set_option maxHeartbeats 4000000 in
theorem c_N_T_check {g : GP} {l : Launch} {A : Nat → Nat → Nat} {X : va_W} {v9 : Int32} {s9 : CS} {σ : CS} (h : N_T_check  σ = some (v9, s9)) : CI g l yX11_check cX11_check 3 (some .int) { frames := 5, cells := 0, slots := 0, locals := 159 } [.ref (A 5 99)] (wC g A σ X) (fun r0 w => r0 = v9 ∧ w = wC g A s9 X) := by
  refine CI.mk (by decide) (Nat.le_of_ble_eq_true rfl) (fun G hG hret => ?_)
  have K : ∀ L pc, decode cX11_check pc = .ok (.ireturn, 1) → G 0 0 (wC g A s9 X) L pc [.int v9] := fun L pc d => hret _ L pc v9 d rfl ⟨rfl, rfl⟩
  unfold N_T_check at h
  refine g_aload_n hG dX11_check_0 rfl ?_
  refine g_get (f := 0) hG dX11_check_1 (eT g A _ X) rfl inX11 (by decide) rfl f_X11_40 rfl ?_
  refine g_getN (f := 16) hG dX11_check_4 (eS (by decide)) rfl inX7 (by decide) rfl f_X11_292 rfl ?_
  obtain ⟨v1, e2, h⟩ := lt_ex h
  refine g_nam e2 ?_
  refine g_istore_n hG dX11_check_7 (by decide) ?_
  refine g_aload_n hG dX11_check_8 rfl ?_
  refine g_get (f := 0) hG dX11_check_9 (eT g A _ X) rfl inX11 (by decide) rfl f_X11_40 rfl ?_
  refine g_iconstv hG dX11_check_12 ki_0 ?_
  obtain ⟨σ3, e4, h⟩ := lt_ex h
  refine t_putN 16 hG (by decide) e4 dX11_check_13 f_X11_292 (by decide) (by decide) rfl rfl rfl ?_
  refine g_aload_n hG dX11_check_16 rfl ?_
  refine g_get (f := 1) hG dX11_check_17 (eT g A _ X) rfl inX11 (by decide) rfl f_X11_44 rfl ?_
  refine g_aload_n hG dX11_check_20 rfl ?_
  refine g_get (f := 0) hG dX11_check_21 (eT g A _ X) rfl inX11 (by decide) rfl f_X11_40 rfl ?_
  obtain ⟨v5, σ6, q7, h⟩ := ob_some h
  refine g_cVv hG dX11_check_24 (c_N_S_thinkOf (by decide) (by decide) q7) b_X7_thinkOf v_X11_198 rfl (eS (by decide)) rfl ⟨Nat.le_of_ble_eq_true rfl, Nat.le_of_ble_eq_true rfl⟩ ⟨rfl, rfl⟩ ⟨Nat.zero_le _, Nat.zero_le _⟩ _ rfl (Nat.le_of_ble_eq_true rfl) ?_
  refine g_iconstv hG dX11_check_27 ki_0 ?_
  refine g_istore_n hG dX11_check_28 (by decide) ?_
  refine g_loc hG [(0, .ref (A 5 99)), (1, .int v1), (2, .int (0 : Int32))] ⟨rfl, rfl, rfl, trivial⟩ ?_
  exact s_N_T_check_b29  hG K FU _ _ _ h
def N_T_count (x1 : Int32) (σ : CS) : Option (Int32 × CS) := (if x1 = (0 : Int32) then (some ((σ.1 0 5), σ)) else (if x1 = (1 : Int32) then (some ((σ.1 0 7), σ)) else (if x1 = (2 : Int32) then (some ((σ.1 0 8), σ)) else (if x1 = (3 : Int32) then (some ((σ.1 0 9), σ)) else (if x1 = (4 : Int32) then (some ((σ.1 0 10), σ)) else (if x1 = (5 : Int32) then (ob (N_S_dirtOfAll 0  σ) fun v7 σ8 => (some (v7, σ8))) else (if x1 = (6 : Int32) then (some ((σ.1 0 6), σ)) else (if x1 = (7 : Int32) then (some ((σ.1 0 14), σ)) else (if x1 = (8 : Int32) then (some ((σ.1 0 16), σ)) else (if x1 = (9 : Int32) then (some ((σ.1 4 1), σ)) else (if x1 = (10 : Int32) then (some ((σ.1 0 17), σ)) else (ob (N_T_fail (-1000000001 : Int32) σ) fun v15 σ16 => (some (v15, σ16))))))))))))))
set_option maxRecDepth 100000 in
set_option maxHeartbeats 4000000 in
theorem c_N_T_count {g : GP} {l : Launch} {A : Nat → Nat → Nat} {X : va_W} {v9 : Int32} {s9 : CS} {x1 : Int32} {σ : CS} (h : N_T_count x1 σ = some (v9, s9)) : CI g l yX11_count cX11_count 2 (some .int) { frames := 1, cells := 0, slots := 0, locals := 22 } [.ref (A 5 99), .int x1] (wC g A σ X) (fun r0 w => r0 = v9 ∧ w = wC g A s9 X) := by
  refine CI.mk (by decide) (Nat.le_of_ble_eq_true rfl) (fun G hG hret => ?_)
  have K : ∀ L pc, decode cX11_count pc = .ok (.ireturn, 1) → G 0 0 (wC g A s9 X) L pc [.int v9] := fun L pc d => hret _ L pc v9 d rfl ⟨rfl, rfl⟩
  unfold N_T_count at h
  refine g_iload_n hG dX11_count_0 rfl ?_
  rcases if_some h with ⟨c1, h⟩ | ⟨c1, h⟩
  · refine g_tabC (tgt := 60) (c := (0 : Int32)) hG c1 dX11_count_1 (by decide) (by decide) rfl rfl ?_
    refine g_aload_n hG dX11_count_60 rfl ?_
    refine g_get (f := 0) hG dX11_count_61 (eT g A _ X) rfl inX11 (by decide) rfl f_X11_40 rfl ?_
    refine g_getN (f := 5) hG dX11_count_64 (eS (by decide)) rfl inX7 (by decide) rfl f_X11_88 rfl ?_
    cases h
    exact K _ _ dX11_count_67
  ·
    rcases if_some h with ⟨c2, h⟩ | ⟨c2, h⟩
    · refine g_tabC (tgt := 68) (c := (1 : Int32)) hG c2 dX11_count_1 (by decide) (by decide) rfl rfl ?_
      refine g_aload_n hG dX11_count_68 rfl ?_
      refine g_get (f := 0) hG dX11_count_69 (eT g A _ X) rfl inX11 (by decide) rfl f_X11_40 rfl ?_
      refine g_getN (f := 7) hG dX11_count_72 (eS (by decide)) rfl inX7 (by decide) rfl f_X11_155 rfl ?_
      cases h
      exact K _ _ dX11_count_75
    ·
      rcases if_some h with ⟨c3, h⟩ | ⟨c3, h⟩
      · refine g_tabC (tgt := 76) (c := (2 : Int32)) hG c3 dX11_count_1 (by decide) (by decide) rfl rfl ?_
        refine g_aload_n hG dX11_count_76 rfl ?_
        refine g_get (f := 0) hG dX11_count_77 (eT g A _ X) rfl inX11 (by decide) rfl f_X11_40 rfl ?_
        refine g_getN (f := 8) hG dX11_count_80 (eS (by decide)) rfl inX7 (by decide) rfl f_X11_138 rfl ?_
        cases h
        exact K _ _ dX11_count_83
      ·
        rcases if_some h with ⟨c4, h⟩ | ⟨c4, h⟩
        · refine g_tabC (tgt := 84) (c := (3 : Int32)) hG c4 dX11_count_1 (by decide) (by decide) rfl rfl ?_
          refine g_aload_n hG dX11_count_84 rfl ?_
          refine g_get (f := 0) hG dX11_count_85 (eT g A _ X) rfl inX11 (by decide) rfl f_X11_40 rfl ?_
          refine g_getN (f := 9) hG dX11_count_88 (eS (by decide)) rfl inX7 (by decide) rfl f_X11_141 rfl ?_
          cases h
          exact K _ _ dX11_count_91
        ·
          rcases if_some h with ⟨c5, h⟩ | ⟨c5, h⟩
          · refine g_tabC (tgt := 92) (c := (4 : Int32)) hG c5 dX11_count_1 (by decide) (by decide) rfl rfl ?_
            refine g_aload_n hG dX11_count_92 rfl ?_
            refine g_get (f := 0) hG dX11_count_93 (eT g A _ X) rfl inX11 (by decide) rfl f_X11_40 rfl ?_
            refine g_getN (f := 10) hG dX11_count_96 (eS (by decide)) rfl inX7 (by decide) rfl f_X11_144 rfl ?_
            cases h
            exact K _ _ dX11_count_99
          ·
            rcases if_some h with ⟨c6, h⟩ | ⟨c6, h⟩
            · refine g_tabC (tgt := 100) (c := (5 : Int32)) hG c6 dX11_count_1 (by decide) (by decide) rfl rfl ?_
              refine g_aload_n hG dX11_count_100 rfl ?_
              refine g_get (f := 0) hG dX11_count_101 (eT g A _ X) rfl inX11 (by decide) rfl f_X11_40 rfl ?_
              obtain ⟨v7, σ8, q9, h⟩ := ob_some h
              refine g_cV hG dX11_count_104 (c_N_S_dirtOfAll (by decide) q9) b_X7_dirtOfAll v_X11_191 rfl (eS (by decide)) rfl ⟨Nat.le_of_ble_eq_true rfl, Nat.le_of_ble_eq_true rfl⟩ ⟨rfl, rfl⟩ ⟨Nat.zero_le _, Nat.zero_le _⟩ _ rfl (Nat.le_of_ble_eq_true rfl) ?_
              cases h
              exact K _ _ dX11_count_107
            ·
              rcases if_some h with ⟨c10, h⟩ | ⟨c10, h⟩
              · refine g_tabC (tgt := 108) (c := (6 : Int32)) hG c10 dX11_count_1 (by decide) (by decide) rfl rfl ?_
                refine g_aload_n hG dX11_count_108 rfl ?_
                refine g_get (f := 0) hG dX11_count_109 (eT g A _ X) rfl inX11 (by decide) rfl f_X11_40 rfl ?_
                refine g_getN (f := 6) hG dX11_count_112 (eS (by decide)) rfl inX7 (by decide) rfl f_X11_236 rfl ?_
                cases h
                exact K _ _ dX11_count_115
              ·
                rcases if_some h with ⟨c11, h⟩ | ⟨c11, h⟩
                · refine g_tabC (tgt := 116) (c := (7 : Int32)) hG c11 dX11_count_1 (by decide) (by decide) rfl rfl ?_
                  refine g_aload_n hG dX11_count_116 rfl ?_
                  refine g_get (f := 0) hG dX11_count_117 (eT g A _ X) rfl inX11 (by decide) rfl f_X11_40 rfl ?_
                  refine g_getN (f := 14) hG dX11_count_120 (eS (by decide)) rfl inX7 (by decide) rfl f_X11_161 rfl ?_
                  cases h
                  exact K _ _ dX11_count_123
                ·
                  rcases if_some h with ⟨c12, h⟩ | ⟨c12, h⟩
                  · refine g_tabC (tgt := 124) (c := (8 : Int32)) hG c12 dX11_count_1 (by decide) (by decide) rfl rfl ?_
                    refine g_aload_n hG dX11_count_124 rfl ?_
                    refine g_get (f := 0) hG dX11_count_125 (eT g A _ X) rfl inX11 (by decide) rfl f_X11_40 rfl ?_
                    refine g_getN (f := 16) hG dX11_count_128 (eS (by decide)) rfl inX7 (by decide) rfl f_X11_292 rfl ?_
                    cases h
                    exact K _ _ dX11_count_131
                  ·
                    rcases if_some h with ⟨c13, h⟩ | ⟨c13, h⟩
                    · refine g_tabC (tgt := 132) (c := (9 : Int32)) hG c13 dX11_count_1 (by decide) (by decide) rfl rfl ?_
                      refine g_aload_n hG dX11_count_132 rfl ?_
                      refine g_get (f := 4) hG dX11_count_133 (eT g A _ X) rfl inX11 (by decide) rfl f_X11_60 rfl ?_
                      refine g_getN (f := 1) hG dX11_count_136 (eP g A _ X) rfl inX6 (by decide) rfl f_X11_265 rfl ?_
                      cases h
                      exact K _ _ dX11_count_139
                    ·
                      rcases if_some h with ⟨c14, h⟩ | ⟨c14, h⟩
                      · refine g_tabC (tgt := 140) (c := (10 : Int32)) hG c14 dX11_count_1 (by decide) (by decide) rfl rfl ?_
                        refine g_aload_n hG dX11_count_140 rfl ?_
                        refine g_get (f := 0) hG dX11_count_141 (eT g A _ X) rfl inX11 (by decide) rfl f_X11_40 rfl ?_
                        refine g_getN (f := 17) hG dX11_count_144 (eS (by decide)) rfl inX7 (by decide) rfl f_X11_242 rfl ?_
                        cases h
                        exact K _ _ dX11_count_147
                      ·
                        refine g_tableOut (tgt := 148) hG dX11_count_1 (by have n0 := i32ne c1 (n := 0) (by decide); have n1 := i32ne c2 (n := 1) (by decide); have n2 := i32ne c3 (n := 2) (by decide); have n3 := i32ne c4 (n := 3) (by decide); have n4 := i32ne c5 (n := 4) (by decide); have n5 := i32ne c6 (n := 5) (by decide); have n6 := i32ne c10 (n := 6) (by decide); have n7 := i32ne c11 (n := 7) (by decide); have n8 := i32ne c12 (n := 8) (by decide); have n9 := i32ne c13 (n := 9) (by decide); have n10 := i32ne c14 (n := 10) (by decide); omega) rfl ?_
                        refine g_aload_n hG dX11_count_148 rfl ?_
                        refine g_ldc hG dX11_count_149 k_X11_83 ?_
                        obtain ⟨v15, σ16, q17, h⟩ := ob_some h
                        refine g_cV hG dX11_count_151 (c_N_T_fail q17) b_X11_fail v_X11_84 rfl (eT g A _ X) rfl ⟨Nat.le_of_ble_eq_true rfl, Nat.le_of_ble_eq_true rfl⟩ ⟨rfl, rfl⟩ ⟨Nat.zero_le _, Nat.zero_le _⟩ _ rfl (Nat.le_of_ble_eq_true rfl) ?_
                        cases h
                        exact K _ _ dX11_count_154
def N_T_told (x1 : Int32) (σ : CS) : Option (Int32 × CS) := (ob (N_T_within x1 (1 : Int32) (5 : Int32) σ) fun v1 σ2 => (if v1 = 0 then (ob (N_T_fail (-1000000001 : Int32) σ2) fun v5 σ6 => (some (v5, σ6))) else (gd (inb x1 6) (some ((σ2.2.1 5 8 (ix x1)), σ2)))))
set_option maxRecDepth 100000 in
set_option maxHeartbeats 4000000 in
theorem c_N_T_told {g : GP} {l : Launch} {A : Nat → Nat → Nat} {X : va_W} {v9 : Int32} {s9 : CS} {x1 : Int32} {σ : CS} (h : N_T_told x1 σ = some (v9, s9)) : CI g l yX11_told cX11_told 2 (some .int) { frames := 1, cells := 0, slots := 0, locals := 22 } [.ref (A 5 99), .int x1] (wC g A σ X) (fun r0 w => r0 = v9 ∧ w = wC g A s9 X) := by
  refine CI.mk (by decide) (Nat.le_of_ble_eq_true rfl) (fun G hG hret => ?_)
  have K : ∀ L pc, decode cX11_told pc = .ok (.ireturn, 1) → G 0 0 (wC g A s9 X) L pc [.int v9] := fun L pc d => hret _ L pc v9 d rfl ⟨rfl, rfl⟩
  unfold N_T_told at h
  refine g_iload_n hG dX11_told_0 rfl ?_
  refine g_iconstv hG dX11_told_1 ki_1 ?_
  refine g_iconstv hG dX11_told_2 ki_5 ?_
  obtain ⟨v1, σ2, q3, h⟩ := ob_some h
  refine g_cS hG dX11_told_3 (c_N_T_within q3) b_X11_within v_X11_79 rfl ⟨Nat.le_of_ble_eq_true rfl, Nat.le_of_ble_eq_true rfl⟩ ⟨rfl, rfl⟩ ⟨Nat.zero_le _, Nat.zero_le _⟩ _ rfl (Nat.le_of_ble_eq_true rfl) ?_
  rcases if_some h with ⟨c4, h⟩ | ⟨c4, h⟩
  · refine g_if_ne (tgt := 16) hG dX11_told_6 rfl (fun q => absurd c4 q) (fun _ => ?_)
    refine g_aload_n hG dX11_told_9 rfl ?_
    refine g_ldc hG dX11_told_10 k_X11_83 ?_
    obtain ⟨v5, σ6, q7, h⟩ := ob_some h
    refine g_cV hG dX11_told_12 (c_N_T_fail q7) b_X11_fail v_X11_84 rfl (eT g A _ X) rfl ⟨Nat.le_of_ble_eq_true rfl, Nat.le_of_ble_eq_true rfl⟩ ⟨rfl, rfl⟩ ⟨Nat.zero_le _, Nat.zero_le _⟩ _ rfl (Nat.le_of_ble_eq_true rfl) ?_
    cases h
    exact K _ _ dX11_told_15
  · refine g_if_ne (tgt := 16) hG dX11_told_6 rfl (fun _ => ?_) (fun q => absurd q c4)
    refine g_aload_n hG dX11_told_16 rfl ?_
    refine g_get (f := 8) hG dX11_told_17 (eT g A _ X) rfl inX11 (by decide) rfl f_X11_76 rfl ?_
    refine g_iload_n hG dX11_told_20 rfl ?_
    obtain ⟨b8, h⟩ := gd_some h
    refine c_iald hG dX11_told_21 aT8 b8 rfl ?_
    cases h
    exact K _ _ dX11_told_22
