theorem c_N_Q_lawRead {g : GP} {l : Launch} {A : Nat → Nat → Nat} {X : va_W} {σ s9 : CS} {j : Nat} (h : N_Q_lawRead σ = some (j, s9)) : CR g l yX5_lawRead cX5_lawRead 2 (some (.object "SweptRound$Law")) { frames := 2, cells := 3, slots := 103, locals := 80 } [.ref (A 3 99)] (wC g A σ X) (fun u => ∃ A1 : Nat → Nat → Nat, (∀ o f, o < σ.2.2 7 0 + 8 → A1 o f = A o f) ∧ u.1 = A1 (j + 8) 99 ∧ u.2 = wC g A1 s9 X) := by
  unfold N_Q_lawRead at h
  obtain ⟨b1, h⟩ := gd_some h
  obtain ⟨b2, h⟩ := gd_some h
  cases h
  refine CR.mk (by decide) (Nat.le_of_ble_eq_true rfl) (fun G hG hret => ?_)
  have h51 := inb_lt b1
  have hnn : ¬ σ.1 3 4 < 0 := fun q => inb_in b1 (Or.inl q)
  generalize hN : ix (σ.1 3 4) = N at h51
  refine g_aload_n hG dX5_lawRead_0 rfl ?_
  refine g_get (f := 4) hG dX5_lawRead_1 (eQ g A σ X) rfl inX5 (by decide) rfl f_X5_34 rfl ?_
  refine g_newa (N := N) hG dX5_lawRead_4 aw_int hnn hN (by omega) (by show 0 + 1 ≤ 3; omega) (by show 0 + N ≤ 103; omega) (fun q1 => ?_)
  refine g_astore_n hG dX5_lawRead_6 (by decide) ?_
  refine g_aload_n hG dX5_lawRead_7 rfl ?_
  refine g_get (f := 1) (k := 22) (ci := 5) (fs := qfs A σ) hG dX5_lawRead_8 rfl rfl inX5 (by decide) rfl f_X5_15 rfl ?_
  refine g_iconstv hG dX5_lawRead_11 ki_0 ?_
  refine g_aload_n hG dX5_lawRead_12 rfl ?_
  refine g_iconstv hG dX5_lawRead_13 ki_0 ?_
  refine g_aload_n hG dX5_lawRead_14 rfl ?_
  refine g_get (f := 4) (k := 22) (ci := 5) (fs := qfs A σ) hG dX5_lawRead_15 rfl rfl inX5 (by decide) rfl f_X5_34 rfl ?_
  have hok : cpok 0 0 (σ.1 3 4) 50 N = true := by
    unfold cpok
    have e0 : Int32.toNatClampNeg 0 = 0 := by decide
    have e1 : (σ.1 3 4).toNatClampNeg = N := hN
    rw [e0, e1]
    have : N ≤ 50 := by omega
    simp [hnn, this]
  refine g_copy (k0 := 24) (k1 := (wC g A σ X).length) (n0 := 50) (n1 := N) (f := σ.2.1 3 1) (h := fun _ => 0) hG dX5_lawRead_18 v_X5_18 na_ac st_ac in_System rfl (last_at _ _) hok (Nat.le_of_ble_eq_true rfl) (by decide) ?_
  rw [last_set, show Int32.toNatClampNeg 0 = 0 from by decide, show (σ.1 3 4).toNatClampNeg = N from hN]
  refine g_new (ci := 4) (fs := [.int 0, .null, .null]) hG dX5_lawRead_21 rfl inX4 tyX4_ok cl_X5_41 nw_X4 ni_X4 (fun j hj => by rcases (show j = 0 ∨ j = 1 ∨ j = 2 by omega) with rfl | rfl | rfl <;> rfl) (by show 0 + 1 + 1 ≤ 3; omega) (by show 0 + N + 3 ≤ 103; omega) (fun q2 => ?_)
  refine g_dup hG dX5_lawRead_24 rfl ?_
  refine g_aload_n hG dX5_lawRead_25 rfl ?_
  refine g_get (f := 5) (k := 22) (ci := 5) (fs := qfs A σ) hG dX5_lawRead_26 rfl rfl inX5 (by decide) rfl f_X5_28 rfl ?_
  refine g_aload_n hG dX5_lawRead_29 rfl ?_
  have hlen : (wC g A σ X ++ [(q1, .inl (g.2.1 0, N, .inl (va_cpy (σ.2.1 3 1) (fun _ => 0) 0 0 N)))] : va_W).length = (wC g A σ X).length + 1 := by simp
  have he : ((wC g A σ X ++ [(q1, .inl (g.2.1 0, N, .inl (va_cpy (σ.2.1 3 1) (fun _ => 0) 0 0 N)))] : va_W) ++ [(q2, .inr (4, [.int 0, .null, .null]))])[(wC g A σ X).length + 1]? = some (q2, .inr (4, [.int 0, .null, .null])) := by
    rw [← hlen]
    exact last_at _ _
  have he2 : ((wC g A σ X ++ [(q1, .inl (g.2.1 0, N, .inl (va_cpy (σ.2.1 3 1) (fun _ => 0) 0 0 N)))] : va_W) ++ [(q2, .inr (4, [.int 0, .null, .null]))])[(wC g A σ X).length]? = some (q1, .inl (g.2.1 0, N, .inl (va_cpy (σ.2.1 3 1) (fun _ => 0) 0 0 N))) := by
    rw [List.getElem?_append_left (by rw [hlen]; omega)]
    exact last_at _ _
  refine g_callI hG dX5_lawRead_30 (c_L_init (u := σ.1 3 5) he he2 (by omega)) b_X4_init il_X5_43 rfl ⟨Nat.le_of_ble_eq_true rfl, Nat.le_of_ble_eq_true rfl⟩ ⟨by show 0 + 1 + 1 + 1 ≤ 3; omega, by show 0 + N + 3 + N ≤ 103; omega⟩ _ rfl (Nat.le_of_ble_eq_true rfl) (fun w hw => ?_)
  obtain ⟨q3, rfl⟩ := hw
  rw [← hlen, last_set]
  subst hN
  refine g_perm hG (lawNew_perm b2 q1 q2 q3) ?_
  refine g_widen hG (k := 3) (n := 103) (by show 0 + 1 + 1 + 1 ≤ 3; omega) (by show 0 + ix (σ.1 3 4) + 3 + ix (σ.1 3 4) ≤ 103; omega) ?_
  refine hret _ _ 33 _ dX5_lawRead_33 ⟨(fun o f => if o = σ.2.2 7 0 + 8 then (if f = 99 then q2 else if f = 1 then q1 else q3) else A o f), fun o f ho => ?_, ?_, rfl⟩
  · have h1 : ¬ o = σ.2.2 7 0 + 8 := by omega
    simp [h1]
  · simp
theorem sp {α β : Type} {a c : α} {b d : β} (h : some (a, b) = some (c, d)) : a = c ∧ b = d := ⟨congrArg Prod.fst (Option.some.inj h), congrArg Prod.snd (Option.some.inj h)⟩
theorem g_lawRead {g : GP} {l : Launch} {y : MethodName} {cc : ByteArray} {nL : Nat} {R : Room} {G : GT} {pc idx : Nat} {L : List (Nat × Value)} {st : List Value} {A : Nat → Nat → Nat} {σ s9 : CS} {X : va_W} {j : Nat} (hG : IsG g l y cc nL R G) (d : decode cc pc = .ok (.invokevirtual idx, 3)) (lk : LkV y.cls idx yX5_lawRead) (h : N_Q_lawRead σ = some (j, s9)) (hR : 2 + 1 ≤ R.frames ∧ 8 + (2 + 11) + 80 ≤ R.locals) (hf : 0 + 3 ≤ R.cells ∧ 0 + 103 ≤ R.slots) (hst : (st.map fun v => v.category).sum ≤ 8) (kk : ∀ A1 : Nat → Nat → Nat, (∀ o f, o < σ.2.2 7 0 + 8 → A1 o f = A o f) → G 3 103 (wC g A1 s9 X) L (pc + 3) (.ref (A1 (j + 8) 99) :: st)) : G 0 0 (wC g A σ X) L pc (.ref (A 3 99) :: st) := by
  refine g_cVr (As := []) hG d (c_N_Q_lawRead h) b_X5_lawRead lk rfl (eQ g A σ X) rfl hR hf _ rfl hst (fun a hp' hpost => ?_)
  obtain ⟨A1, h1, h2, h3⟩ := hpost
  dsimp only at h2 h3
  subst h2
  subst h3
  exact kk A1 h1
def N_T_text (x1 : Int32) (σ : CS) : Option (Int32 × CS) := (ob (N_T_within x1 (0 : Int32) (1 : Int32) σ) fun v1 σ2 => (if v1 = 0 then (ob (N_T_fail (-1000000001 : Int32) σ2) fun v5 σ6 => (some (v5, σ6))) else (ob (N_Q_faultIn (σ2.1 0 14) x1 σ2) fun v8 σ9 => (lt (si σ9 0 14 (0 : Int32)) fun σ11 => (if v8 < 0 then (if x1 = 0 then (ob (N_Q_lawRead σ11) fun v15 σ16 => (lt (slw σ16 0 11 v15) fun σ20 => (some ((1 : Int32), σ20)))) else (ob (N_Q_lawRead σ11) fun v22 σ23 => (lt (slw σ23 0 12 v22) fun σ27 => (some ((1 : Int32), σ27))))) else (some (((-10 : Int32) - v8), σ11)))))))
set_option maxRecDepth 100000 in
set_option maxHeartbeats 4000000 in
theorem c_N_T_text {g : GP} {l : Launch} {A : Nat → Nat → Nat} {X : va_W} {v9 : Int32} {s9 : CS} {x1 : Int32} {σ : CS} (h : N_T_text x1 σ = some (v9, s9)) : CI g l yX11_text cX11_text 3 (some .int) { frames := 484, cells := 3, slots := 103, locals := 18200 } [.ref (A 5 99), .int x1] (wC g A σ X) (fun r0 w => r0 = v9 ∧ ∃ A1 : Nat → Nat → Nat, (∀ o f, o < 8 → A1 o f = A o f) ∧ w = wC g A1 s9 X) := by
  refine CI.mk (by decide) (Nat.le_of_ble_eq_true rfl) (fun G hG hret => ?_)
  have K : ∀ (A1 : Nat → Nat → Nat) L pc, (∀ o f, o < 8 → A1 o f = A o f) → decode cX11_text pc = .ok (.ireturn, 1) → G 3 103 (wC g A1 s9 X) L pc [.int v9] := fun A1 L pc hA d => hret _ L pc v9 d rfl ⟨rfl, A1, hA, rfl⟩
  unfold N_T_text at h
  refine g_iload_n hG dX11_text_0 rfl ?_
  refine g_iconstv hG dX11_text_1 ki_0 ?_
  refine g_iconstv hG dX11_text_2 ki_1 ?_
  obtain ⟨v1, σ2, q3, h⟩ := ob_some h
  refine g_cS hG dX11_text_3 (c_N_T_within q3) b_X11_within v_X11_79 rfl ⟨Nat.le_of_ble_eq_true rfl, Nat.le_of_ble_eq_true rfl⟩ ⟨rfl, rfl⟩ ⟨Nat.zero_le _, Nat.zero_le _⟩ _ rfl (Nat.le_of_ble_eq_true rfl) ?_
  rcases if_some h with ⟨c4, h⟩ | ⟨c4, h⟩
  · refine g_if_ne (tgt := 16) hG dX11_text_6 rfl (fun q => absurd c4 q) (fun _ => ?_)
    refine g_aload_n hG dX11_text_9 rfl ?_
    refine g_ldc hG dX11_text_10 k_X11_83 ?_
    obtain ⟨v5, σ6, q7, h⟩ := ob_some h
    refine g_cV hG dX11_text_12 (c_N_T_fail q7) b_X11_fail v_X11_84 rfl (eT g A _ X) rfl ⟨Nat.le_of_ble_eq_true rfl, Nat.le_of_ble_eq_true rfl⟩ ⟨rfl, rfl⟩ ⟨Nat.zero_le _, Nat.zero_le _⟩ _ rfl (Nat.le_of_ble_eq_true rfl) ?_
    obtain ⟨rfl, rfl⟩ := sp h
    refine g_widen hG (Nat.zero_le 3) (Nat.zero_le 103) ?_
    exact K A _ _ (fun _ _ _ => rfl) dX11_text_15
  · refine g_if_ne (tgt := 16) hG dX11_text_6 rfl (fun _ => ?_) (fun q => absurd q c4)
    refine g_aload_n hG dX11_text_16 rfl ?_
    refine g_get (f := 3) hG dX11_text_17 (eT g A _ X) rfl inX11 (by decide) rfl f_X11_53 rfl ?_
    refine g_aload_n hG dX11_text_20 rfl ?_
    refine g_get (f := 0) hG dX11_text_21 (eT g A _ X) rfl inX11 (by decide) rfl f_X11_40 rfl ?_
    refine g_getN (f := 13) hG dX11_text_24 (eS (by decide)) rfl inX7 (by decide) rfl f_X11_164 rfl ?_
    refine g_aload_n hG dX11_text_27 rfl ?_
    refine g_get (f := 0) hG dX11_text_28 (eT g A _ X) rfl inX11 (by decide) rfl f_X11_40 rfl ?_
    refine g_getN (f := 14) hG dX11_text_31 (eS (by decide)) rfl inX7 (by decide) rfl f_X11_161 rfl ?_
    refine g_iload_n hG dX11_text_34 rfl ?_
    obtain ⟨v8, σ9, q10, h⟩ := ob_some h
    refine g_cV hG dX11_text_35 (c_N_Q_faultIn q10) b_X5_faultIn v_X11_167 rfl (eQ g A _ X) rfl ⟨Nat.le_of_ble_eq_true rfl, Nat.le_of_ble_eq_true rfl⟩ ⟨rfl, rfl⟩ ⟨Nat.zero_le _, Nat.zero_le _⟩ _ rfl (Nat.le_of_ble_eq_true rfl) ?_
    refine g_istore_n hG dX11_text_38 (by decide) ?_
    refine g_aload_n hG dX11_text_39 rfl ?_
    refine g_get (f := 0) hG dX11_text_40 (eT g A _ X) rfl inX11 (by decide) rfl f_X11_40 rfl ?_
    refine g_iconstv hG dX11_text_43 ki_0 ?_
    obtain ⟨σ11, e12, h⟩ := lt_ex h
    refine t_putN 14 hG (by decide) e12 dX11_text_44 f_X11_161 (by decide) (by decide) rfl rfl rfl ?_
    refine g_iload_n hG dX11_text_47 rfl ?_
    rcases if_some h with ⟨c13, h⟩ | ⟨c13, h⟩
    · refine g_if_lt (tgt := 56) hG dX11_text_48 rfl (fun _ => ?_) (fun q => absurd c13 q)
      refine g_iload_n hG dX11_text_56 rfl ?_
      rcases if_some h with ⟨c14, h⟩ | ⟨c14, h⟩
      · refine g_if_ne (tgt := 77) hG dX11_text_57 rfl (fun q => absurd c14 q) (fun _ => ?_)
        refine g_aload_n hG dX11_text_60 rfl ?_
        refine g_get (f := 0) hG dX11_text_61 (eT g A _ X) rfl inX11 (by decide) rfl f_X11_40 rfl ?_
        refine g_aload_n hG dX11_text_64 rfl ?_
        refine g_get (f := 3) hG dX11_text_65 (eT g A _ X) rfl inX11 (by decide) rfl f_X11_53 rfl ?_
        obtain ⟨v15, σ16, q17, h⟩ := ob_some h
        refine g_lawRead hG dX11_text_68 v_X11_171 q17 ⟨Nat.le_of_ble_eq_true rfl, Nat.le_of_ble_eq_true rfl⟩ ⟨Nat.le_of_ble_eq_true rfl, Nat.le_of_ble_eq_true rfl⟩ (Nat.le_of_ble_eq_true rfl) (fun A18 a19 => ?_)
        rw [← a19 0 99 (by omega)]
        obtain ⟨σ20, e21, h⟩ := lt_ex h
        refine t_putLN 11 hG (by decide) e21 dX11_text_71 f_X11_175 (by decide) (by decide) rfl rfl rfl ?_
        refine g_goto (tgt := 91) hG dX11_text_74 rfl ?_
        refine g_iconstv hG dX11_text_91 ki_1 ?_
        obtain ⟨rfl, rfl⟩ := sp h
        exact K A18 _ _ (fun o f ho => a19 o f (by omega)) dX11_text_92
      · refine g_if_ne (tgt := 77) hG dX11_text_57 rfl (fun _ => ?_) (fun q => absurd q c14)
        refine g_aload_n hG dX11_text_77 rfl ?_
        refine g_get (f := 0) hG dX11_text_78 (eT g A _ X) rfl inX11 (by decide) rfl f_X11_40 rfl ?_
        refine g_aload_n hG dX11_text_81 rfl ?_
        refine g_get (f := 3) hG dX11_text_82 (eT g A _ X) rfl inX11 (by decide) rfl f_X11_53 rfl ?_
        obtain ⟨v22, σ23, q24, h⟩ := ob_some h
        refine g_lawRead hG dX11_text_85 v_X11_171 q24 ⟨Nat.le_of_ble_eq_true rfl, Nat.le_of_ble_eq_true rfl⟩ ⟨Nat.le_of_ble_eq_true rfl, Nat.le_of_ble_eq_true rfl⟩ (Nat.le_of_ble_eq_true rfl) (fun A25 a26 => ?_)
        rw [← a26 0 99 (by omega)]
        obtain ⟨σ27, e28, h⟩ := lt_ex h
        refine t_putLN 12 hG (by decide) e28 dX11_text_88 f_X11_179 (by decide) (by decide) rfl rfl rfl ?_
        refine g_iconstv hG dX11_text_91 ki_1 ?_
        obtain ⟨rfl, rfl⟩ := sp h
        exact K A25 _ _ (fun o f ho => a26 o f (by omega)) dX11_text_92
    · refine g_if_lt (tgt := 56) hG dX11_text_48 rfl (fun q => absurd q c13) (fun _ => ?_)
      refine g_bipushv hG dX11_text_51 kb_m10 ?_
      refine g_iload_n hG dX11_text_53 rfl ?_
      refine g_isub hG dX11_text_54 ?_
      obtain ⟨rfl, rfl⟩ := sp h
      refine g_widen hG (Nat.zero_le 3) (Nat.zero_le 103) ?_
      exact K A _ _ (fun _ _ _ => rfl) dX11_text_55
