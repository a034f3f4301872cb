def N_Q_readsDenied (rd : Int32 → Int32 → CS → Option (Int32 × CS)) (ro : Int32 → CS → Option (Int32 × CS)) (x1 : Int32) (σ : CS) : Option (Int32 × CS) := (ob (ro x1 σ) fun v1 σ2 => (if v1 = 0 then (some ((0 : Int32), σ2)) else (ob (N_Q_write (-33 : Int32) σ2) fun v5 σ6 => (some ((1 : Int32), σ6)))))
set_option maxRecDepth 100000 in
set_option maxHeartbeats 4000000 in
theorem c_N_Q_readsDenied {g : GP} {l : Launch} {A : Nat → Nat → Nat} {X : va_W} {v9 : Int32} {s9 : CS} {rd : Int32 → Int32 → CS → Option (Int32 × CS)} {ro : Int32 → CS → Option (Int32 × CS)} {F1 L1 : Nat} (hrd : ∀ (a b : Int32) (σ : CS) (v9 : Int32) (s9 : CS), rd a b σ = some (v9, s9) → CI g l yX5_reads cX5_reads 6 (some .boolean) { frames := F1, cells := 0, slots := 0, locals := L1 } [.ref (A 3 99), .int a, .int b] (wC g A σ X) (fun r0 w => r0 = v9 ∧ w = wC g A s9 X)) (hro : ∀ (a : Int32) (σ : CS) (v9 : Int32) (s9 : CS), ro a σ = some (v9, s9) → CI g l yX5_readsOne cX5_readsOne 4 (some .boolean) { frames := F1, cells := 0, slots := 0, locals := L1 } [.ref (A 3 99), .int a] (wC g A σ X) (fun r0 w => r0 = v9 ∧ w = wC g A s9 X)) {x1 : Int32} {σ : CS} (h : N_Q_readsDenied rd ro x1 σ = some (v9, s9)) : CI g l yX5_readsDenied cX5_readsDenied 2 (some .boolean) { frames := F1 + 1, cells := 0, slots := 0, locals := L1 + 25 } [.ref (A 3 99), .int x1] (wC g A σ X) (fun r0 w => r0 = v9 ∧ w = wC g A s9 X) := by
  refine CI.mk (by decide) (Nat.le_of_ble_eq_true rfl) (fun G hG hret => ?_)
  have K : ∀ L pc, decode cX5_readsDenied pc = .ok (.ireturn, 1) → isb v9 = true → G 0 0 (wC g A s9 X) L pc [.int v9] := fun L pc d hz => hret _ L pc v9 d (isb_n hz) ⟨rfl, rfl⟩
  unfold N_Q_readsDenied at h
  refine g_aload_n hG dX5_readsDenied_0 rfl ?_
  refine g_iload_n hG dX5_readsDenied_1 rfl ?_
  obtain ⟨v1, σ2, q3, h⟩ := ob_some h
  refine g_cV hG dX5_readsDenied_2 (hro _ _ _ _ q3) b_X5_readsOne v_X5_46 rfl (eQ g A _ X) rfl ⟨by dsimp only; omega, by dsimp only; omega⟩ ⟨rfl, rfl⟩ ⟨Nat.zero_le _, Nat.zero_le _⟩ _ rfl (Nat.le_of_ble_eq_true rfl) ?_
  rcases if_some h with ⟨c4, h⟩ | ⟨c4, h⟩
  · refine g_if_ne (tgt := 10) hG dX5_readsDenied_5 rfl (fun q => absurd c4 q) (fun _ => ?_)
    refine g_iconstv hG dX5_readsDenied_8 ki_0 ?_
    cases h
    exact K _ _ dX5_readsDenied_9 (by decide)
  · refine g_if_ne (tgt := 10) hG dX5_readsDenied_5 rfl (fun _ => ?_) (fun q => absurd q c4)
    refine g_aload_n hG dX5_readsDenied_10 rfl ?_
    refine g_bipushv hG dX5_readsDenied_11 kb_m33 ?_
    obtain ⟨v5, σ6, q7, h⟩ := ob_some h
    refine g_cVv hG dX5_readsDenied_13 (c_N_Q_write q7) b_X5_write v_X5_58 rfl (eQ g A _ X) rfl ⟨by dsimp only; omega, by dsimp only; omega⟩ ⟨rfl, rfl⟩ ⟨Nat.zero_le _, Nat.zero_le _⟩ _ rfl (Nat.le_of_ble_eq_true rfl) ?_
    refine g_iconstv hG dX5_readsDenied_16 ki_1 ?_
    cases h
    exact K _ _ dX5_readsDenied_17 (by decide)
def N_Q_readsClosed (rd : Int32 → Int32 → CS → Option (Int32 × CS)) (ro : Int32 → CS → Option (Int32 × CS)) (x1 : Int32) (σ : CS) : Option (Int32 × CS) := (ob (rd (0 : Int32) x1 σ) fun v1 σ2 => (if v1 = 0 then (some ((0 : Int32), σ2)) else (ob (N_Q_next  σ2) fun v5 σ6 => (if v5 = (41 : Int32) then (lt (si σ6 3 3 ((σ6.1 3 3) + (1 : Int32))) fun σ9 => (some ((1 : Int32), σ9))) else (some ((0 : Int32), σ6))))))
set_option maxRecDepth 100000 in
set_option maxHeartbeats 4000000 in
theorem c_N_Q_readsClosed {g : GP} {l : Launch} {A : Nat → Nat → Nat} {X : va_W} {v9 : Int32} {s9 : CS} {rd : Int32 → Int32 → CS → Option (Int32 × CS)} {ro : Int32 → CS → Option (Int32 × CS)} {F1 L1 : Nat} (hrd : ∀ (a b : Int32) (σ : CS) (v9 : Int32) (s9 : CS), rd a b σ = some (v9, s9) → CI g l yX5_reads cX5_reads 6 (some .boolean) { frames := F1, cells := 0, slots := 0, locals := L1 } [.ref (A 3 99), .int a, .int b] (wC g A σ X) (fun r0 w => r0 = v9 ∧ w = wC g A s9 X)) (hro : ∀ (a : Int32) (σ : CS) (v9 : Int32) (s9 : CS), ro a σ = some (v9, s9) → CI g l yX5_readsOne cX5_readsOne 4 (some .boolean) { frames := F1, cells := 0, slots := 0, locals := L1 } [.ref (A 3 99), .int a] (wC g A σ X) (fun r0 w => r0 = v9 ∧ w = wC g A s9 X)) {x1 : Int32} {σ : CS} (h : N_Q_readsClosed rd ro x1 σ = some (v9, s9)) : CI g l yX5_readsClosed cX5_readsClosed 2 (some .boolean) { frames := F1 + 1, cells := 0, slots := 0, locals := L1 + 25 } [.ref (A 3 99), .int x1] (wC g A σ X) (fun r0 w => r0 = v9 ∧ w = wC g A s9 X) := by
  refine CI.mk (by decide) (Nat.le_of_ble_eq_true rfl) (fun G hG hret => ?_)
  have K : ∀ L pc, decode cX5_readsClosed pc = .ok (.ireturn, 1) → isb v9 = true → G 0 0 (wC g A s9 X) L pc [.int v9] := fun L pc d hz => hret _ L pc v9 d (isb_n hz) ⟨rfl, rfl⟩
  unfold N_Q_readsClosed at h
  refine g_aload_n hG dX5_readsClosed_0 rfl ?_
  refine g_iconstv hG dX5_readsClosed_1 ki_0 ?_
  refine g_iload_n hG dX5_readsClosed_2 rfl ?_
  obtain ⟨v1, σ2, q3, h⟩ := ob_some h
  refine g_cV hG dX5_readsClosed_3 (hrd _ _ _ _ _ q3) b_X5_reads v_X5_37 rfl (eQ g A _ X) rfl ⟨by dsimp only; omega, by dsimp only; omega⟩ ⟨rfl, rfl⟩ ⟨Nat.zero_le _, Nat.zero_le _⟩ _ rfl (Nat.le_of_ble_eq_true rfl) ?_
  rcases if_some h with ⟨c4, h⟩ | ⟨c4, h⟩
  · refine g_if_eq (tgt := 18) hG dX5_readsClosed_6 rfl (fun _ => ?_) (fun q => absurd c4 q)
    refine g_iconstv hG dX5_readsClosed_18 ki_0 ?_
    cases h
    exact K _ _ dX5_readsClosed_19 (by decide)
  · refine g_if_eq (tgt := 18) hG dX5_readsClosed_6 rfl (fun q => absurd q c4) (fun _ => ?_)
    refine g_aload_n hG dX5_readsClosed_9 rfl ?_
    obtain ⟨v5, σ6, q7, h⟩ := ob_some h
    refine g_cV hG dX5_readsClosed_10 (c_N_Q_next q7) b_X5_next v_X5_50 rfl (eQ g A _ X) rfl ⟨by dsimp only; omega, by dsimp only; omega⟩ ⟨rfl, rfl⟩ ⟨Nat.zero_le _, Nat.zero_le _⟩ _ rfl (Nat.le_of_ble_eq_true rfl) ?_
    refine g_bipushv hG dX5_readsClosed_13 kb_41 ?_
    rcases if_some h with ⟨c8, h⟩ | ⟨c8, h⟩
    · refine g_icmp_eq (tgt := 20) hG dX5_readsClosed_15 rfl (fun _ => ?_) (fun q => absurd c8 q)
      refine g_aload_n hG dX5_readsClosed_20 rfl ?_
      refine g_dup hG dX5_readsClosed_21 rfl ?_
      refine g_get (f := 3) hG dX5_readsClosed_22 (eQ g A _ X) rfl inX5 (by decide) rfl f_X5_31 rfl ?_
      refine g_iconstv hG dX5_readsClosed_25 ki_1 ?_
      refine g_iadd hG dX5_readsClosed_26 ?_
      obtain ⟨σ9, e10, h⟩ := lt_ex h
      refine q_put 3 hG e10 dX5_readsClosed_27 f_X5_31 (by decide) (by decide) rfl rfl rfl ?_
      refine g_iconstv hG dX5_readsClosed_30 ki_1 ?_
      cases h
      exact K _ _ dX5_readsClosed_31 (by decide)
    · refine g_icmp_eq (tgt := 20) hG dX5_readsClosed_15 rfl (fun q => absurd q c8) (fun _ => ?_)
      refine g_iconstv hG dX5_readsClosed_18 ki_0 ?_
      cases h
      exact K _ _ dX5_readsClosed_19 (by decide)
def N_Q_readsOne_b59 (rd : Int32 → Int32 → CS → Option (Int32 × CS)) (ro : Int32 → CS → Option (Int32 × CS)) (x1 : Int32) (x2 : Int32) (σ : CS) : Option (Int32 × CS) := (if x1 < (5 : Int32) then (lt (si σ 3 3 ((σ.1 3 3) + (1 : Int32))) fun σ14 => (if x2 = (33 : Int32) then (ob (N_Q_readsDenied rd ro (x1 + (1 : Int32)) σ14) fun v17 σ18 => (gd (isb v17) (some (v17, σ18)))) else (ob (N_Q_readsClosed rd ro (x1 + (1 : Int32)) σ14) fun v21 σ22 => (gd (isb v21) (some (v21, σ22)))))) else (some ((0 : Int32), σ)))
set_option maxRecDepth 100000 in
set_option maxHeartbeats 4000000 in
theorem s_N_Q_readsOne_b59 {g : GP} {l : Launch} {A : Nat → Nat → Nat} {X : va_W} {G : GT} {v9 : Int32} {s9 : CS} {rd : Int32 → Int32 → CS → Option (Int32 × CS)} {ro : Int32 → CS → Option (Int32 × CS)} {F1 L1 : Nat} (hrd : ∀ (a b : Int32) (σ : CS) (v9 : Int32) (s9 : CS), rd a b σ = some (v9, s9) → CI g l yX5_reads cX5_reads 6 (some .boolean) { frames := F1, cells := 0, slots := 0, locals := L1 } [.ref (A 3 99), .int a, .int b] (wC g A σ X) (fun r0 w => r0 = v9 ∧ w = wC g A s9 X)) (hro : ∀ (a : Int32) (σ : CS) (v9 : Int32) (s9 : CS), ro a σ = some (v9, s9) → CI g l yX5_readsOne cX5_readsOne 4 (some .boolean) { frames := F1, cells := 0, slots := 0, locals := L1 } [.ref (A 3 99), .int a] (wC g A σ X) (fun r0 w => r0 = v9 ∧ w = wC g A s9 X)) (hG : IsG g l yX5_readsOne cX5_readsOne 4 { frames := F1 + 8, cells := 0, slots := 0, locals := L1 + 300 } G) (K : ∀ L pc, decode cX5_readsOne pc = .ok (.ireturn, 1) → isb v9 = true → G 0 0 (wC g A s9 X) L pc [.int v9]) {x1 : Int32} {x2 : Int32} {σ : CS} (h : N_Q_readsOne_b59 rd ro  x1 x2 σ = some (v9, s9)) : G 0 0 (wC g A σ X) [(0, .ref (A 3 99)), (1, .int x1), (2, .int x2)] 59 [] := by
  unfold N_Q_readsOne_b59 at h
  refine g_iload_n hG dX5_readsOne_59 rfl ?_
  refine g_iconstv hG dX5_readsOne_60 ki_5 ?_
  rcases if_some h with ⟨c13, h⟩ | ⟨c13, h⟩
  · refine g_icmp_lt (tgt := 66) hG dX5_readsOne_61 rfl (fun _ => ?_) (fun q => absurd c13 q)
    refine g_aload_n hG dX5_readsOne_66 rfl ?_
    refine g_dup hG dX5_readsOne_67 rfl ?_
    refine g_get (f := 3) hG dX5_readsOne_68 (eQ g A _ X) rfl inX5 (by decide) rfl f_X5_31 rfl ?_
    refine g_iconstv hG dX5_readsOne_71 ki_1 ?_
    refine g_iadd hG dX5_readsOne_72 ?_
    obtain ⟨σ14, e15, h⟩ := lt_ex h
    refine q_put 3 hG e15 dX5_readsOne_73 f_X5_31 (by decide) (by decide) rfl rfl rfl ?_
    refine g_iload_n hG dX5_readsOne_76 rfl ?_
    refine g_bipushv hG dX5_readsOne_77 kb_33 ?_
    rcases if_some h with ⟨c16, h⟩ | ⟨c16, h⟩
    · refine g_icmp_ne (tgt := 92) hG dX5_readsOne_79 rfl (fun q => absurd c16 q) (fun _ => ?_)
      refine g_aload_n hG dX5_readsOne_82 rfl ?_
      refine g_iload_n hG dX5_readsOne_83 rfl ?_
      refine g_iconstv hG dX5_readsOne_84 ki_1 ?_
      refine g_iadd hG dX5_readsOne_85 ?_
      obtain ⟨v17, σ18, q19, h⟩ := ob_some h
      refine g_cV hG dX5_readsOne_86 (c_N_Q_readsDenied hrd hro q19) b_X5_readsDenied v_X5_71 rfl (eQ g A _ X) rfl ⟨by dsimp only; omega, by dsimp only; omega⟩ ⟨rfl, rfl⟩ ⟨Nat.zero_le _, Nat.zero_le _⟩ _ rfl (Nat.le_of_ble_eq_true rfl) ?_
      refine g_goto (tgt := 99) hG dX5_readsOne_89 rfl ?_
      obtain ⟨b20, h⟩ := gd_some h
      cases h
      exact K _ _ dX5_readsOne_99 b20
    · refine g_icmp_ne (tgt := 92) hG dX5_readsOne_79 rfl (fun _ => ?_) (fun q => absurd q c16)
      refine g_aload_n hG dX5_readsOne_92 rfl ?_
      refine g_iload_n hG dX5_readsOne_93 rfl ?_
      refine g_iconstv hG dX5_readsOne_94 ki_1 ?_
      refine g_iadd hG dX5_readsOne_95 ?_
      obtain ⟨v21, σ22, q23, h⟩ := ob_some h
      refine g_cV hG dX5_readsOne_96 (c_N_Q_readsClosed hrd hro q23) b_X5_readsClosed v_X5_74 rfl (eQ g A _ X) rfl ⟨by dsimp only; omega, by dsimp only; omega⟩ ⟨rfl, rfl⟩ ⟨Nat.zero_le _, Nat.zero_le _⟩ _ rfl (Nat.le_of_ble_eq_true rfl) ?_
      obtain ⟨b24, h⟩ := gd_some h
      cases h
      exact K _ _ dX5_readsOne_99 b24
  · refine g_icmp_lt (tgt := 66) hG dX5_readsOne_61 rfl (fun q => absurd q c13) (fun _ => ?_)
    refine g_iconstv hG dX5_readsOne_64 ki_0 ?_
    cases h
    exact K _ _ dX5_readsOne_65 (by decide)
def N_Q_readsOne (rd : Int32 → Int32 → CS → Option (Int32 × CS)) (ro : Int32 → CS → Option (Int32 × CS)) (x1 : Int32) (σ : CS) : Option (Int32 × CS) := (ob (N_Q_next  σ) fun v1 σ2 => (ob (N_Q_isDigit v1 σ2) fun v4 σ5 => (if v4 = 0 then (ob (N_Q_nameOf v1 σ5) fun v8 σ9 => (if v8 < 0 then (if v1 = (33 : Int32) then (N_Q_readsOne_b59 rd ro  x1 v1 σ9) else (if v1 = (40 : Int32) then (N_Q_readsOne_b59 rd ro  x1 v1 σ9) else (some ((0 : Int32), σ9)))) else (lt (si σ9 3 3 ((σ9.1 3 3) + (1 : Int32))) fun σ26 => (ob (N_Q_write ((-1 : Int32) - v8) σ26) fun v28 σ29 => (some ((1 : Int32), σ29)))))) else (ob (N_Q_readNumber  σ5) fun v31 σ32 => (some ((1 : Int32), σ32))))))
set_option maxRecDepth 100000 in
set_option maxHeartbeats 4000000 in
theorem c_N_Q_readsOne {g : GP} {l : Launch} {A : Nat → Nat → Nat} {X : va_W} {v9 : Int32} {s9 : CS} {rd : Int32 → Int32 → CS → Option (Int32 × CS)} {ro : Int32 → CS → Option (Int32 × CS)} {F1 L1 : Nat} (hrd : ∀ (a b : Int32) (σ : CS) (v9 : Int32) (s9 : CS), rd a b σ = some (v9, s9) → CI g l yX5_reads cX5_reads 6 (some .boolean) { frames := F1, cells := 0, slots := 0, locals := L1 } [.ref (A 3 99), .int a, .int b] (wC g A σ X) (fun r0 w => r0 = v9 ∧ w = wC g A s9 X)) (hro : ∀ (a : Int32) (σ : CS) (v9 : Int32) (s9 : CS), ro a σ = some (v9, s9) → CI g l yX5_readsOne cX5_readsOne 4 (some .boolean) { frames := F1, cells := 0, slots := 0, locals := L1 } [.ref (A 3 99), .int a] (wC g A σ X) (fun r0 w => r0 = v9 ∧ w = wC g A s9 X)) {x1 : Int32} {σ : CS} (h : N_Q_readsOne rd ro x1 σ = some (v9, s9)) : CI g l yX5_readsOne cX5_readsOne 4 (some .boolean) { frames := F1 + 8, cells := 0, slots := 0, locals := L1 + 300 } [.ref (A 3 99), .int x1] (wC g A σ X) (fun r0 w => r0 = v9 ∧ w = wC g A s9 X) := by
  refine CI.mk (by decide) (Nat.le_of_ble_eq_true rfl) (fun G hG hret => ?_)
  have K : ∀ L pc, decode cX5_readsOne pc = .ok (.ireturn, 1) → isb v9 = true → G 0 0 (wC g A s9 X) L pc [.int v9] := fun L pc d hz => hret _ L pc v9 d (isb_n hz) ⟨rfl, rfl⟩
  unfold N_Q_readsOne at h
  refine g_aload_n hG dX5_readsOne_0 rfl ?_
  obtain ⟨v1, σ2, q3, h⟩ := ob_some h
  refine g_cV hG dX5_readsOne_1 (c_N_Q_next q3) b_X5_next v_X5_50 rfl (eQ g A _ X) rfl ⟨by dsimp only; omega, by dsimp only; omega⟩ ⟨rfl, rfl⟩ ⟨Nat.zero_le _, Nat.zero_le _⟩ _ rfl (Nat.le_of_ble_eq_true rfl) ?_
  refine g_istore_n hG dX5_readsOne_4 (by decide) ?_
  refine g_iload_n hG dX5_readsOne_5 rfl ?_
  obtain ⟨v4, σ5, q6, h⟩ := ob_some h
  refine g_cS hG dX5_readsOne_6 (c_N_Q_isDigit q6) b_X5_isDigit v_X5_62 rfl ⟨by dsimp only; omega, by dsimp only; omega⟩ ⟨rfl, rfl⟩ ⟨Nat.zero_le _, Nat.zero_le _⟩ _ rfl (Nat.le_of_ble_eq_true rfl) ?_
  rcases if_some h with ⟨c7, h⟩ | ⟨c7, h⟩
  · refine g_if_eq (tgt := 18) hG dX5_readsOne_9 rfl (fun _ => ?_) (fun q => absurd c7 q)
    refine g_aload_n hG dX5_readsOne_18 rfl ?_
    refine g_iload_n hG dX5_readsOne_19 rfl ?_
    obtain ⟨v8, σ9, q10, h⟩ := ob_some h
    refine g_cV hG dX5_readsOne_20 (c_N_Q_nameOf q10) b_X5_nameOf v_X5_68 rfl (eQ g A _ X) rfl ⟨by dsimp only; omega, by dsimp only; omega⟩ ⟨rfl, rfl⟩ ⟨Nat.zero_le _, Nat.zero_le _⟩ _ rfl (Nat.le_of_ble_eq_true rfl) ?_
    refine g_istore_n hG dX5_readsOne_23 (by decide) ?_
    refine g_iload_n hG dX5_readsOne_24 rfl ?_
    rcases if_some h with ⟨c11, h⟩ | ⟨c11, h⟩
    · refine g_if_lt (tgt := 47) hG dX5_readsOne_25 rfl (fun _ => ?_) (fun q => absurd c11 q)
      refine g_iload_n hG dX5_readsOne_47 rfl ?_
      refine g_bipushv hG dX5_readsOne_48 kb_33 ?_
      rcases if_some h with ⟨c12, h⟩ | ⟨c12, h⟩
      · refine g_icmp_eq (tgt := 59) hG dX5_readsOne_50 rfl (fun _ => ?_) (fun q => absurd c12 q)
        refine g_loc hG [(0, .ref (A 3 99)), (1, .int x1), (2, .int v1)] ⟨rfl, rfl, rfl, trivial⟩ ?_
        exact s_N_Q_readsOne_b59 hrd hro hG K  h
      · refine g_icmp_eq (tgt := 59) hG dX5_readsOne_50 rfl (fun q => absurd q c12) (fun _ => ?_)
        refine g_iload_n hG dX5_readsOne_53 rfl ?_
        refine g_bipushv hG dX5_readsOne_54 kb_40 ?_
        rcases if_some h with ⟨c25, h⟩ | ⟨c25, h⟩
        · refine g_icmp_ne (tgt := 64) hG dX5_readsOne_56 rfl (fun q => absurd c25 q) (fun _ => ?_)
          refine g_loc hG [(0, .ref (A 3 99)), (1, .int x1), (2, .int v1)] ⟨rfl, rfl, rfl, trivial⟩ ?_
          exact s_N_Q_readsOne_b59 hrd hro hG K  h
        · refine g_icmp_ne (tgt := 64) hG dX5_readsOne_56 rfl (fun _ => ?_) (fun q => absurd q c25)
          refine g_iconstv hG dX5_readsOne_64 ki_0 ?_
          cases h
          exact K _ _ dX5_readsOne_65 (by decide)
    · refine g_if_lt (tgt := 47) hG dX5_readsOne_25 rfl (fun q => absurd q c11) (fun _ => ?_)
      refine g_aload_n hG dX5_readsOne_28 rfl ?_
      refine g_dup hG dX5_readsOne_29 rfl ?_
      refine g_get (f := 3) hG dX5_readsOne_30 (eQ g A _ X) rfl inX5 (by decide) rfl f_X5_31 rfl ?_
      refine g_iconstv hG dX5_readsOne_33 ki_1 ?_
      refine g_iadd hG dX5_readsOne_34 ?_
      obtain ⟨σ26, e27, h⟩ := lt_ex h
      refine q_put 3 hG e27 dX5_readsOne_35 f_X5_31 (by decide) (by decide) rfl rfl rfl ?_
      refine g_aload_n hG dX5_readsOne_38 rfl ?_
      refine g_iconstv hG dX5_readsOne_39 ki_m1 ?_
      refine g_iload_n hG dX5_readsOne_40 rfl ?_
      refine g_isub hG dX5_readsOne_41 ?_
      obtain ⟨v28, σ29, q30, h⟩ := ob_some h
      refine g_cVv hG dX5_readsOne_42 (c_N_Q_write q30) b_X5_write v_X5_58 rfl (eQ g A _ X) rfl ⟨by dsimp only; omega, by dsimp only; omega⟩ ⟨rfl, rfl⟩ ⟨Nat.zero_le _, Nat.zero_le _⟩ _ rfl (Nat.le_of_ble_eq_true rfl) ?_
      refine g_iconstv hG dX5_readsOne_45 ki_1 ?_
      cases h
      exact K _ _ dX5_readsOne_46 (by decide)
  · refine g_if_eq (tgt := 18) hG dX5_readsOne_9 rfl (fun q => absurd q c7) (fun _ => ?_)
    refine g_aload_n hG dX5_readsOne_12 rfl ?_
    obtain ⟨v31, σ32, q33, h⟩ := ob_some h
    refine g_cVv hG dX5_readsOne_13 (c_N_Q_readNumber q33) b_X5_readNumber v_X5_65 rfl (eQ g A _ X) rfl ⟨by dsimp only; omega, by dsimp only; omega⟩ ⟨rfl, rfl⟩ ⟨Nat.zero_le _, Nat.zero_le _⟩ _ rfl (Nat.le_of_ble_eq_true rfl) ?_
    refine g_iconstv hG dX5_readsOne_16 ki_1 ?_
    cases h
    exact K _ _ dX5_readsOne_17 (by decide)
def N_Q_reads_b39 (rd : Int32 → Int32 → CS → Option (Int32 × CS)) (ro : Int32 → CS → Option (Int32 × CS)) : Nat → Int32 → Int32 → Int32 → Int32 → CS → Option (Int32 × CS)
  | 0, _, _, _, _, _ => none
  | n + 1, x1, x2, x3, x4, σ => (if x3 ≤ x4 then (some ((1 : Int32), σ)) else (ob (N_Q_next  σ) fun v11 σ12 => (ob (N_Q_levelOf v11 σ12) fun v14 σ15 => (if v14 = x1 then (ob (N_Q_next  σ15) fun v18 σ19 => (lt (si σ19 3 3 ((σ19.1 3 3) + (1 : Int32))) fun σ21 => (ob (rd (x1 + (1 : Int32)) x2 σ21) fun v23 σ24 => (if v23 = 0 then (some ((0 : Int32), σ24)) else (ob (N_Q_write (-v18) σ24) fun v27 σ28 => ((N_Q_reads_b39 rd ro  n) x1 x2 x3 (x4 + (1 : Int32)) σ28)))))) else (some ((1 : Int32), σ15))))))
set_option maxRecDepth 100000 in
set_option maxHeartbeats 4000000 in
theorem s_N_Q_reads_b39 {g : GP} {l : Launch} {A : Nat → Nat → Nat} {X : va_W} {G : GT} {v9 : Int32} {s9 : CS} {rd : Int32 → Int32 → CS → Option (Int32 × CS)} {ro : Int32 → CS → Option (Int32 × CS)} {F1 L1 : Nat} (hrd : ∀ (a b : Int32) (σ : CS) (v9 : Int32) (s9 : CS), rd a b σ = some (v9, s9) → CI g l yX5_reads cX5_reads 6 (some .boolean) { frames := F1, cells := 0, slots := 0, locals := L1 } [.ref (A 3 99), .int a, .int b] (wC g A σ X) (fun r0 w => r0 = v9 ∧ w = wC g A s9 X)) (hro : ∀ (a : Int32) (σ : CS) (v9 : Int32) (s9 : CS), ro a σ = some (v9, s9) → CI g l yX5_readsOne cX5_readsOne 4 (some .boolean) { frames := F1, cells := 0, slots := 0, locals := L1 } [.ref (A 3 99), .int a] (wC g A σ X) (fun r0 w => r0 = v9 ∧ w = wC g A s9 X)) (hG : IsG g l yX5_reads cX5_reads 6 { frames := F1 + 8, cells := 0, slots := 0, locals := L1 + 300 } G) (K : ∀ L pc, decode cX5_reads pc = .ok (.ireturn, 1) → isb v9 = true → G 0 0 (wC g A s9 X) L pc [.int v9]) : ∀ (n : Nat) (x1 : Int32) (x2 : Int32) (x3 : Int32) (x4 : Int32) (σ : CS) (h : N_Q_reads_b39 rd ro  n x1 x2 x3 x4 σ = some (v9, s9)), G 0 0 (wC g A σ X) [(0, .ref (A 3 99)), (1, .int x1), (2, .int x2), (3, .int x3), (4, .int x4)] 39 [] := by
  intro n
  induction n with
  | zero => intro _ _ _ _ σ h; cases h
  | succ n ih =>
    intro x1 x2 x3 x4 σ h
    unfold N_Q_reads_b39 at h
    refine g_iload hG dX5_reads_39 rfl ?_
    refine g_iload_n hG dX5_reads_41 rfl ?_
    rcases if_some h with ⟨c10, h⟩ | ⟨c10, h⟩
    · refine g_icmp_ge (tgt := 98) hG dX5_reads_42 rfl (fun _ => ?_) (fun q => absurd c10 q)
      refine g_iconstv hG dX5_reads_98 ki_1 ?_
      cases h
      exact K _ _ dX5_reads_99 (by decide)
    · refine g_icmp_ge (tgt := 98) hG dX5_reads_42 rfl (fun q => absurd q c10) (fun _ => ?_)
      refine g_aload_n hG dX5_reads_45 rfl ?_
      obtain ⟨v11, σ12, q13, h⟩ := ob_some h
      refine g_cV hG dX5_reads_46 (c_N_Q_next q13) b_X5_next v_X5_50 rfl (eQ g A _ X) rfl ⟨by dsimp only; omega, by dsimp only; omega⟩ ⟨rfl, rfl⟩ ⟨Nat.zero_le _, Nat.zero_le _⟩ _ rfl (Nat.le_of_ble_eq_true rfl) ?_
      obtain ⟨v14, σ15, q16, h⟩ := ob_some h
      refine g_cS hG dX5_reads_49 (c_N_Q_levelOf q16) b_X5_levelOf v_X5_54 rfl ⟨by dsimp only; omega, by dsimp only; omega⟩ ⟨rfl, rfl⟩ ⟨Nat.zero_le _, Nat.zero_le _⟩ _ rfl (Nat.le_of_ble_eq_true rfl) ?_
      refine g_iload_n hG dX5_reads_52 rfl ?_
      rcases if_some h with ⟨c17, h⟩ | ⟨c17, h⟩
      · refine g_icmp_ne (tgt := 98) hG dX5_reads_53 rfl (fun q => absurd c17 q) (fun _ => ?_)
        refine g_aload_n hG dX5_reads_56 rfl ?_
        obtain ⟨v18, σ19, q20, h⟩ := ob_some h
        refine g_cV hG dX5_reads_57 (c_N_Q_next q20) b_X5_next v_X5_50 rfl (eQ g A _ X) rfl ⟨by dsimp only; omega, by dsimp only; omega⟩ ⟨rfl, rfl⟩ ⟨Nat.zero_le _, Nat.zero_le _⟩ _ rfl (Nat.le_of_ble_eq_true rfl) ?_
        refine g_istore hG dX5_reads_60 (by decide) ?_
        refine g_aload_n hG dX5_reads_62 rfl ?_
        refine g_dup hG dX5_reads_63 rfl ?_
        refine g_get (f := 3) hG dX5_reads_64 (eQ g A _ X) rfl inX5 (by decide) rfl f_X5_31 rfl ?_
        refine g_iconstv hG dX5_reads_67 ki_1 ?_
        refine g_iadd hG dX5_reads_68 ?_
        obtain ⟨σ21, e22, h⟩ := lt_ex h
        refine q_put 3 hG e22 dX5_reads_69 f_X5_31 (by decide) (by decide) rfl rfl rfl ?_
        refine g_aload_n hG dX5_reads_72 rfl ?_
        refine g_iload_n hG dX5_reads_73 rfl ?_
        refine g_iconstv hG dX5_reads_74 ki_1 ?_
        refine g_iadd hG dX5_reads_75 ?_
        refine g_iload_n hG dX5_reads_76 rfl ?_
        obtain ⟨v23, σ24, q25, h⟩ := ob_some h
        refine g_cV hG dX5_reads_77 (hrd _ _ _ _ _ q25) b_X5_reads v_X5_37 rfl (eQ g A _ X) rfl ⟨by dsimp only; omega, by dsimp only; omega⟩ ⟨rfl, rfl⟩ ⟨Nat.zero_le _, Nat.zero_le _⟩ _ rfl (Nat.le_of_ble_eq_true rfl) ?_
        rcases if_some h with ⟨c26, h⟩ | ⟨c26, h⟩
        · refine g_if_ne (tgt := 85) hG dX5_reads_80 rfl (fun q => absurd c26 q) (fun _ => ?_)
          refine g_iconstv hG dX5_reads_83 ki_0 ?_
          cases h
          exact K _ _ dX5_reads_84 (by decide)
        · refine g_if_ne (tgt := 85) hG dX5_reads_80 rfl (fun _ => ?_) (fun q => absurd q c26)
          refine g_aload_n hG dX5_reads_85 rfl ?_
          refine g_iload hG dX5_reads_86 rfl ?_
          refine g_ineg hG dX5_reads_88 ?_
          obtain ⟨v27, σ28, q29, h⟩ := ob_some h
          refine g_cVv hG dX5_reads_89 (c_N_Q_write q29) b_X5_write v_X5_58 rfl (eQ g A _ X) rfl ⟨by dsimp only; omega, by dsimp only; omega⟩ ⟨rfl, rfl⟩ ⟨Nat.zero_le _, Nat.zero_le _⟩ _ rfl (Nat.le_of_ble_eq_true rfl) ?_
          refine g_iincv (c := (1 : Int32)) hG dX5_reads_92 rfl (by decide) (by decide) ?_
          refine g_goto (tgt := 39) hG dX5_reads_95 rfl ?_
          refine g_loc hG [(0, .ref (A 3 99)), (1, .int x1), (2, .int x2), (3, .int x3), (4, .int (x4 + (1 : Int32)))] ⟨rfl, rfl, rfl, rfl, rfl, trivial⟩ ?_
          exact ih _ _ _ _ _ h
      · refine g_icmp_ne (tgt := 98) hG dX5_reads_53 rfl (fun _ => ?_) (fun q => absurd q c17)
        refine g_iconstv hG dX5_reads_98 ki_1 ?_
        cases h
        exact K _ _ dX5_reads_99 (by decide)
def N_Q_reads (rd : Int32 → Int32 → CS → Option (Int32 × CS)) (ro : Int32 → CS → Option (Int32 × CS)) (x1 : Int32) (x2 : Int32) (σ : CS) : Option (Int32 × CS) := (if x1 < (5 : Int32) then (ob (rd (x1 + (1 : Int32)) x2 σ) fun v2 σ3 => (if v2 = 0 then (some ((0 : Int32), σ3)) else (lt (if x1 = (2 : Int32) then (1 : Int32) else (50 : Int32)) fun v8 => (N_Q_reads_b39 rd ro  FU x1 x2 v8 (0 : Int32) σ3)))) else (ob (ro x2 σ) fun v30 σ31 => (gd (isb v30) (some (v30, σ31)))))
set_option maxRecDepth 100000 in
set_option maxHeartbeats 4000000 in
theorem c_N_Q_reads {g : GP} {l : Launch} {A : Nat → Nat → Nat} {X : va_W} {v9 : Int32} {s9 : CS} {rd : Int32 → Int32 → CS → Option (Int32 × CS)} {ro : Int32 → CS → Option (Int32 × CS)} {F1 L1 : Nat} (hrd : ∀ (a b : Int32) (σ : CS) (v9 : Int32) (s9 : CS), rd a b σ = some (v9, s9) → CI g l yX5_reads cX5_reads 6 (some .boolean) { frames := F1, cells := 0, slots := 0, locals := L1 } [.ref (A 3 99), .int a, .int b] (wC g A σ X) (fun r0 w => r0 = v9 ∧ w = wC g A s9 X)) (hro : ∀ (a : Int32) (σ : CS) (v9 : Int32) (s9 : CS), ro a σ = some (v9, s9) → CI g l yX5_readsOne cX5_readsOne 4 (some .boolean) { frames := F1, cells := 0, slots := 0, locals := L1 } [.ref (A 3 99), .int a] (wC g A σ X) (fun r0 w => r0 = v9 ∧ w = wC g A s9 X)) {x1 : Int32} {x2 : Int32} {σ : CS} (h : N_Q_reads rd ro x1 x2 σ = some (v9, s9)) : CI g l yX5_reads cX5_reads 6 (some .boolean) { frames := F1 + 8, cells := 0, slots := 0, locals := L1 + 300 } [.ref (A 3 99), .int x1, .int x2] (wC g A σ X) (fun r0 w => r0 = v9 ∧ w = wC g A s9 X) := by
  refine CI.mk (by decide) (Nat.le_of_ble_eq_true rfl) (fun G hG hret => ?_)
  have K : ∀ L pc, decode cX5_reads pc = .ok (.ireturn, 1) → isb v9 = true → G 0 0 (wC g A s9 X) L pc [.int v9] := fun L pc d hz => hret _ L pc v9 d (isb_n hz) ⟨rfl, rfl⟩
  unfold N_Q_reads at h
  refine g_iload_n hG dX5_reads_0 rfl ?_
  refine g_iconstv hG dX5_reads_1 ki_5 ?_
  rcases if_some h with ⟨c1, h⟩ | ⟨c1, h⟩
  · refine g_icmp_lt (tgt := 11) hG dX5_reads_2 rfl (fun _ => ?_) (fun q => absurd c1 q)
    refine g_aload_n hG dX5_reads_11 rfl ?_
    refine g_iload_n hG dX5_reads_12 rfl ?_
    refine g_iconstv hG dX5_reads_13 ki_1 ?_
    refine g_iadd hG dX5_reads_14 ?_
    refine g_iload_n hG dX5_reads_15 rfl ?_
    obtain ⟨v2, σ3, q4, h⟩ := ob_some h
    refine g_cV hG dX5_reads_16 (hrd _ _ _ _ _ q4) b_X5_reads v_X5_37 rfl (eQ g A _ X) rfl ⟨by dsimp only; omega, by dsimp only; omega⟩ ⟨rfl, rfl⟩ ⟨Nat.zero_le _, Nat.zero_le _⟩ _ rfl (Nat.le_of_ble_eq_true rfl) ?_
    rcases if_some h with ⟨c5, h⟩ | ⟨c5, h⟩
    · refine g_if_ne (tgt := 24) hG dX5_reads_19 rfl (fun q => absurd c5 q) (fun _ => ?_)
      refine g_iconstv hG dX5_reads_22 ki_0 ?_
      cases h
      exact K _ _ dX5_reads_23 (by decide)
    · refine g_if_ne (tgt := 24) hG dX5_reads_19 rfl (fun _ => ?_) (fun q => absurd q c5)
      refine g_iload_n hG dX5_reads_24 rfl ?_
      refine g_iconstv hG dX5_reads_25 ki_2 ?_
      refine g_dia2 (if x1 = (2 : Int32) then (1 : Int32) else (50 : Int32)) 35 (fun J6 => ?_) ?_
      · by_cases c7 : x1 = (2 : Int32)
        · refine g_icmp_ne (tgt := 33) hG dX5_reads_26 rfl (fun q => absurd c7 q) (fun _ => ?_)
          refine g_iconstv hG dX5_reads_29 ki_1 ?_
          refine g_goto (tgt := 35) hG dX5_reads_30 rfl ?_
          rw [if_pos c7] at J6
          exact J6
        · refine g_icmp_ne (tgt := 33) hG dX5_reads_26 rfl (fun _ => ?_) (fun q => absurd q c7)
          refine g_bipushv hG dX5_reads_33 kb_50 ?_
          rw [if_neg c7] at J6
          exact J6
      obtain ⟨v8, e9, h⟩ := lt_ex h
      refine g_nam e9 ?_
      refine g_istore_n hG dX5_reads_35 (by decide) ?_
      refine g_iconstv hG dX5_reads_36 ki_0 ?_
      refine g_istore hG dX5_reads_37 (by decide) ?_
      refine g_loc hG [(0, .ref (A 3 99)), (1, .int x1), (2, .int x2), (3, .int v8), (4, .int (0 : Int32))] ⟨rfl, rfl, rfl, rfl, rfl, trivial⟩ ?_
      exact s_N_Q_reads_b39 hrd hro hG K FU _ _ _ _ _ h
  · refine g_icmp_lt (tgt := 11) hG dX5_reads_2 rfl (fun q => absurd q c1) (fun _ => ?_)
    refine g_aload_n hG dX5_reads_5 rfl ?_
    refine g_iload_n hG dX5_reads_6 rfl ?_
    obtain ⟨v30, σ31, q32, h⟩ := ob_some h
    refine g_cV hG dX5_reads_7 (hro _ _ _ _ q32) b_X5_readsOne v_X5_46 rfl (eQ g A _ X) rfl ⟨by dsimp only; omega, by dsimp only; omega⟩ ⟨rfl, rfl⟩ ⟨Nat.zero_le _, Nat.zero_le _⟩ _ rfl (Nat.le_of_ble_eq_true rfl) ?_
    obtain ⟨b33, h⟩ := gd_some h
    cases h
    exact K _ _ dX5_reads_10 b33
def rdp : Nat → (Int32 → Int32 → CS → Option (Int32 × CS)) × (Int32 → CS → Option (Int32 × CS))
  | 0 => (fun _ _ _ => none, fun _ _ => none)
  | n + 1 => (N_Q_reads (rdp n).1 (rdp n).2, N_Q_readsOne (rdp n).1 (rdp n).2)
theorem c_rdp {g : GP} {l : Launch} {A : Nat → Nat → Nat} {X : va_W} : ∀ n : Nat, (∀ (a b : Int32) (σ : CS) (v9 : Int32) (s9 : CS), (rdp n).1 a b σ = some (v9, s9) → CI g l yX5_reads cX5_reads 6 (some .boolean) { frames := 8 * n, cells := 0, slots := 0, locals := 300 * n } [.ref (A 3 99), .int a, .int b] (wC g A σ X) (fun r0 w => r0 = v9 ∧ w = wC g A s9 X)) ∧ (∀ (a : Int32) (σ : CS) (v9 : Int32) (s9 : CS), (rdp n).2 a σ = some (v9, s9) → CI g l yX5_readsOne cX5_readsOne 4 (some .boolean) { frames := 8 * n, cells := 0, slots := 0, locals := 300 * n } [.ref (A 3 99), .int a] (wC g A σ X) (fun r0 w => r0 = v9 ∧ w = wC g A s9 X))
  | 0 => ⟨fun _ _ _ _ _ h => (by cases h), fun _ _ _ _ h => (by cases h)⟩
  | n + 1 => ⟨fun _ _ _ _ _ h => c_N_Q_reads (c_rdp n).1 (c_rdp n).2 h, fun _ _ _ _ h => c_N_Q_readsOne (c_rdp n).1 (c_rdp n).2 h⟩
def N_Q_faultIn (x2 : Int32) (x3 : Int32) (σ : CS) : Option (Int32 × CS) := (gd (cpok (0 : Int32) (0 : Int32) x2 50 50) (lt (sa σ 3 0 (va_cpy (σ.2.1 0 13) (σ.2.1 3 0) (ix (0 : Int32)) (ix (0 : Int32)) (ix x2))) fun σ2 => (lt (si σ2 3 2 x2) fun σ4 => (lt (si σ4 3 5 x3) fun σ6 => (lt (si σ6 3 3 (0 : Int32)) fun σ8 => (lt (si σ8 3 4 (0 : Int32)) fun σ10 => (ob ((rdp 60).1 (0 : Int32) (0 : Int32) σ10) fun v12 σ13 => (if v12 = 0 then (some ((σ13.1 3 3), σ13)) else (if (σ13.1 3 3) = (σ13.1 3 2) then (some ((-1 : Int32), σ13)) else (some ((σ13.1 3 3), σ13)))))))))))
set_option maxRecDepth 100000 in
set_option maxHeartbeats 4000000 in
theorem c_N_Q_faultIn {g : GP} {l : Launch} {A : Nat → Nat → Nat} {X : va_W} {v9 : Int32} {s9 : CS} {x2 : Int32} {x3 : Int32} {σ : CS} (h : N_Q_faultIn x2 x3 σ = some (v9, s9)) : CI g l yX5_faultIn cX5_faultIn 4 (some .int) { frames := 481, cells := 0, slots := 0, locals := 18025 } [.ref (A 3 99), .ref (A 0 13), .int x2, .int x3] (wC g A σ X) (fun r0 w => r0 = v9 ∧ w = wC g A s9 X) := by
  refine CI.mk (by decide) (Nat.le_of_ble_eq_true rfl) (fun G hG hret => ?_)
  have K : ∀ L pc, decode cX5_faultIn pc = .ok (.ireturn, 1) → G 0 0 (wC g A s9 X) L pc [.int v9] := fun L pc d => hret _ L pc v9 d rfl ⟨rfl, rfl⟩
  unfold N_Q_faultIn at h
  refine g_aload_n hG dX5_faultIn_0 rfl ?_
  refine g_iconstv hG dX5_faultIn_1 ki_0 ?_
  refine g_aload_n hG dX5_faultIn_2 rfl ?_
  refine g_get (f := 0) hG dX5_faultIn_3 (eQ g A _ X) rfl inX5 (by decide) rfl f_X5_9 rfl ?_
  refine g_iconstv hG dX5_faultIn_6 ki_0 ?_
  refine g_iload_n hG dX5_faultIn_7 rfl ?_
  obtain ⟨b1, h⟩ := gd_some h
  obtain ⟨σ2, e3, h⟩ := lt_ex h
  refine c_copy hG e3 dX5_faultIn_8 v_X5_18 na_ac st_ac in_System (aS13 (d := 0) (by decide)) aQ0 b1 (Nat.le_of_ble_eq_true rfl) (by decide) ?_
  refine g_aload_n hG dX5_faultIn_11 rfl ?_
  refine g_iload_n hG dX5_faultIn_12 rfl ?_
  obtain ⟨σ4, e5, h⟩ := lt_ex h
  refine q_put 2 hG e5 dX5_faultIn_13 f_X5_24 (by decide) (by decide) rfl rfl rfl ?_
  refine g_aload_n hG dX5_faultIn_16 rfl ?_
  refine g_iload_n hG dX5_faultIn_17 rfl ?_
  obtain ⟨σ6, e7, h⟩ := lt_ex h
  refine q_put 5 hG e7 dX5_faultIn_18 f_X5_28 (by decide) (by decide) rfl rfl rfl ?_
  refine g_aload_n hG dX5_faultIn_21 rfl ?_
  refine g_iconstv hG dX5_faultIn_22 ki_0 ?_
  obtain ⟨σ8, e9, h⟩ := lt_ex h
  refine q_put 3 hG e9 dX5_faultIn_23 f_X5_31 (by decide) (by decide) rfl rfl rfl ?_
  refine g_aload_n hG dX5_faultIn_26 rfl ?_
  refine g_iconstv hG dX5_faultIn_27 ki_0 ?_
  obtain ⟨σ10, e11, h⟩ := lt_ex h
  refine q_put 4 hG e11 dX5_faultIn_28 f_X5_34 (by decide) (by decide) rfl rfl rfl ?_
  refine g_aload_n hG dX5_faultIn_31 rfl ?_
  refine g_iconstv hG dX5_faultIn_32 ki_0 ?_
  refine g_iconstv hG dX5_faultIn_33 ki_0 ?_
  obtain ⟨v12, σ13, q14, h⟩ := ob_some h
  refine g_cV hG dX5_faultIn_34 ((c_rdp 60).1 _ _ _ _ _ q14) b_X5_reads v_X5_37 rfl (eQ g A _ X) rfl ⟨Nat.le_of_ble_eq_true rfl, Nat.le_of_ble_eq_true rfl⟩ ⟨rfl, rfl⟩ ⟨Nat.zero_le _, Nat.zero_le _⟩ _ rfl (Nat.le_of_ble_eq_true rfl) ?_
  rcases if_some h with ⟨c15, h⟩ | ⟨c15, h⟩
  · refine g_if_eq (tgt := 55) hG dX5_faultIn_37 rfl (fun _ => ?_) (fun q => absurd c15 q)
    refine g_aload_n hG dX5_faultIn_55 rfl ?_
    refine g_get (f := 3) hG dX5_faultIn_56 (eQ g A _ X) rfl inX5 (by decide) rfl f_X5_31 rfl ?_
    cases h
    exact K _ _ dX5_faultIn_59
  · refine g_if_eq (tgt := 55) hG dX5_faultIn_37 rfl (fun q => absurd q c15) (fun _ => ?_)
    refine g_aload_n hG dX5_faultIn_40 rfl ?_
    refine g_get (f := 3) hG dX5_faultIn_41 (eQ g A _ X) rfl inX5 (by decide) rfl f_X5_31 rfl ?_
    refine g_aload_n hG dX5_faultIn_44 rfl ?_
    refine g_get (f := 2) hG dX5_faultIn_45 (eQ g A _ X) rfl inX5 (by decide) rfl f_X5_24 rfl ?_
    rcases if_some h with ⟨c16, h⟩ | ⟨c16, h⟩
    · refine g_icmp_ne (tgt := 55) hG dX5_faultIn_48 rfl (fun q => absurd c16 q) (fun _ => ?_)
      refine g_iconstv hG dX5_faultIn_51 ki_m1 ?_
      refine g_goto (tgt := 59) hG dX5_faultIn_52 rfl ?_
      cases h
      exact K _ _ dX5_faultIn_59
    · refine g_icmp_ne (tgt := 55) hG dX5_faultIn_48 rfl (fun _ => ?_) (fun q => absurd q c16)
      refine g_aload_n hG dX5_faultIn_55 rfl ?_
      refine g_get (f := 3) hG dX5_faultIn_56 (eQ g A _ X) rfl inX5 (by decide) rfl f_X5_31 rfl ?_
      cases h
      exact K _ _ dX5_faultIn_59
