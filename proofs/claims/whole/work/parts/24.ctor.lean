theorem i_X10 {g : GP} {l : Launch} {hp : va_W} {a : Nat} : CV g l yX10_init cX10_init 1 { frames := 1, cells := 0, slots := 0, locals := 20 } [.ref a] hp (fun w => w = hp) := by
  refine CV.mk (by decide) (Nat.le_of_ble_eq_true rfl) (fun G hG hret => ?_)
  refine g_aload_n hG dX10_init_0 rfl ?_
  refine g_obj hG dX10_init_1 ol_X10_1 oi_1 oi_2 (Nat.le_of_ble_eq_true rfl) (Nat.le_of_ble_eq_true rfl) ?_
  exact hret _ _ 4 dX10_init_4 rfl
theorem i_X8 {g : GP} {l : Launch} {hp : va_W} {a : Nat} : CV g l yX8_init cX8_init 1 { frames := 2, cells := 0, slots := 0, locals := 40 } [.ref a] hp (fun w => w = hp) := by
  refine CV.mk (by decide) (Nat.le_of_ble_eq_true rfl) (fun G hG hret => ?_)
  refine g_aload_n hG dX8_init_0 rfl ?_
  refine g_callIN hG dX8_init_1 (i_X10 (hp := hp)) b_X10_init il_X8_1 rfl ⟨(Nat.le_of_ble_eq_true rfl), (Nat.le_of_ble_eq_true rfl)⟩ ⟨(Nat.le_of_ble_eq_true rfl), (Nat.le_of_ble_eq_true rfl)⟩ _ rfl (Nat.le_of_ble_eq_true rfl) (fun w hw => ?_)
  subst hw
  exact hret _ _ 4 dX8_init_4 rfl
theorem i_X1 {g : GP} {l : Launch} {hp : va_W} {a : Nat} : CV g l yX1_init cX1_init 1 { frames := 2, cells := 0, slots := 0, locals := 40 } [.ref a] hp (fun w => w = hp) := by
  refine CV.mk (by decide) (Nat.le_of_ble_eq_true rfl) (fun G hG hret => ?_)
  refine g_aload_n hG dX1_init_0 rfl ?_
  refine g_callIN hG dX1_init_1 (i_X10 (hp := hp)) b_X10_init il_X1_1 rfl ⟨(Nat.le_of_ble_eq_true rfl), (Nat.le_of_ble_eq_true rfl)⟩ ⟨(Nat.le_of_ble_eq_true rfl), (Nat.le_of_ble_eq_true rfl)⟩ _ rfl (Nat.le_of_ble_eq_true rfl) (fun w hw => ?_)
  subst hw
  exact hret _ _ 4 dX1_init_4 rfl
theorem i_X9 {g : GP} {l : Launch} {hp : va_W} {a : Nat} : CV g l yX9_init cX9_init 1 { frames := 2, cells := 0, slots := 0, locals := 40 } [.ref a] hp (fun w => w = hp) := by
  refine CV.mk (by decide) (Nat.le_of_ble_eq_true rfl) (fun G hG hret => ?_)
  refine g_aload_n hG dX9_init_0 rfl ?_
  refine g_callIN hG dX9_init_1 (i_X10 (hp := hp)) b_X10_init il_X9_1 rfl ⟨(Nat.le_of_ble_eq_true rfl), (Nat.le_of_ble_eq_true rfl)⟩ ⟨(Nat.le_of_ble_eq_true rfl), (Nat.le_of_ble_eq_true rfl)⟩ _ rfl (Nat.le_of_ble_eq_true rfl) (fun w hw => ?_)
  subst hw
  exact hret _ _ 4 dX9_init_4 rfl
theorem i_X2 {g : GP} {l : Launch} {hp : va_W} {a : Nat} : CV g l yX2_init cX2_init 1 { frames := 3, cells := 0, slots := 0, locals := 60 } [.ref a] hp (fun w => w = hp) := by
  refine CV.mk (by decide) (Nat.le_of_ble_eq_true rfl) (fun G hG hret => ?_)
  refine g_aload_n hG dX2_init_0 rfl ?_
  refine g_callIN hG dX2_init_1 (i_X8 (hp := hp)) b_X8_init il_X2_1 rfl ⟨(Nat.le_of_ble_eq_true rfl), (Nat.le_of_ble_eq_true rfl)⟩ ⟨(Nat.le_of_ble_eq_true rfl), (Nat.le_of_ble_eq_true rfl)⟩ _ rfl (Nat.le_of_ble_eq_true rfl) (fun w hw => ?_)
  subst hw
  exact hret _ _ 4 dX2_init_4 rfl
theorem i_X3 {g : GP} {l : Launch} {hp : va_W} {a : Nat} : CV g l yX3_init cX3_init 1 { frames := 3, cells := 0, slots := 0, locals := 60 } [.ref a] hp (fun w => w = hp) := by
  refine CV.mk (by decide) (Nat.le_of_ble_eq_true rfl) (fun G hG hret => ?_)
  refine g_aload_n hG dX3_init_0 rfl ?_
  refine g_callIN hG dX3_init_1 (i_X1 (hp := hp)) b_X1_init il_X3_1 rfl ⟨(Nat.le_of_ble_eq_true rfl), (Nat.le_of_ble_eq_true rfl)⟩ ⟨(Nat.le_of_ble_eq_true rfl), (Nat.le_of_ble_eq_true rfl)⟩ _ rfl (Nat.le_of_ble_eq_true rfl) (fun w hw => ?_)
  subst hw
  exact hret _ _ 4 dX3_init_4 rfl
theorem i_X0 {g : GP} {l : Launch} {hp : va_W} {a : Nat} : CV g l yX0_init cX0_init 1 { frames := 3, cells := 0, slots := 0, locals := 60 } [.ref a] hp (fun w => w = hp) := by
  refine CV.mk (by decide) (Nat.le_of_ble_eq_true rfl) (fun G hG hret => ?_)
  refine g_aload_n hG dX0_init_0 rfl ?_
  refine g_callIN hG dX0_init_1 (i_X9 (hp := hp)) b_X9_init il_X0_1 rfl ⟨(Nat.le_of_ble_eq_true rfl), (Nat.le_of_ble_eq_true rfl)⟩ ⟨(Nat.le_of_ble_eq_true rfl), (Nat.le_of_ble_eq_true rfl)⟩ _ rfl (Nat.le_of_ble_eq_true rfl) (fun w hw => ?_)
  subst hw
  exact hret _ _ 4 dX0_init_4 rfl
set_option maxRecDepth 100000 in
set_option maxHeartbeats 4000000 in
theorem i_X5 {g : GP} {l : Launch} {Y : va_W} {a : Nat} : CV g l yX5_init cX5_init 1 { frames := 1, cells := 2, slots := 100, locals := 40 } [.ref a] ((a, .inr (5, [.null, .null, .int 0, .int 0, .int 0, .int 0])) :: Y) (fun w => ∃ q1 q2 : Nat, w.Perm (([(a, .inr (5, [.ref q1, .ref q2, .int 0, .int 0, .int 0, .int 0])), (q1, .inl (g.2.1 0, 50, .inl (fun _ => 0))), (q2, .inl (g.2.1 0, 50, .inl (fun _ => 0)))] : va_W) ++ Y)) := by
  refine CV.mk (by decide) (Nat.le_of_ble_eq_true rfl) (fun G hG hret => ?_)
  refine g_aload_n hG dX5_init_0 rfl ?_
  refine g_obj hG dX5_init_1 ol_X5_3 oi_1 oi_2 (Nat.le_of_ble_eq_true rfl) (Nat.le_of_ble_eq_true rfl) ?_
  refine g_aload_n hG dX5_init_4 rfl ?_
  refine g_bipushv hG dX5_init_5 kb_50 ?_
  refine g_newa (N := 50) hG dX5_init_7 aw_int (by decide) (by decide) (by decide) (Nat.le_of_ble_eq_true rfl) (Nat.le_of_ble_eq_true rfl) (fun q1 => ?_)
  refine g_perm hG (List.perm_append_singleton _ _) ?_
  refine g_putF (f := 0) (k := 1) hG dX5_init_9 rfl rfl inX5 tyX5_ok nmX5 (by decide) rfl rfl f_X5_9 rfl rfl rfl rfl (Nat.le_of_ble_eq_true rfl) ?_
  refine g_aload_n hG dX5_init_12 rfl ?_
  refine g_bipushv hG dX5_init_13 kb_50 ?_
  refine g_newa (N := 50) hG dX5_init_15 aw_int (by decide) (by decide) (by decide) (Nat.le_of_ble_eq_true rfl) (Nat.le_of_ble_eq_true rfl) (fun q2 => ?_)
  refine g_perm hG (List.perm_append_singleton _ _) ?_
  refine g_putF (f := 1) (k := 2) hG dX5_init_17 rfl rfl inX5 tyX5_ok nmX5 (by decide) rfl rfl f_X5_15 rfl rfl rfl rfl (Nat.le_of_ble_eq_true rfl) ?_
  refine g_widen hG (k := 2) (n := 100) (Nat.le_of_ble_eq_true rfl) (Nat.le_of_ble_eq_true rfl) ?_
  refine hret _ _ 20 dX5_init_20 ⟨q1, q2, ?_⟩
  show List.Perm ((q2, .inl (g.2.1 0, 50, .inl (fun _ => 0))) :: (q1, .inl (g.2.1 0, 50, .inl (fun _ => 0))) :: (a, .inr (5, [.ref q1, .ref q2, .int 0, .int 0, .int 0, .int 0])) :: Y : va_W) _
  exact (List.reverse_perm ([(a, .inr (5, [.ref q1, .ref q2, .int 0, .int 0, .int 0, .int 0])), (q1, .inl (g.2.1 0, 50, .inl (fun _ => 0))), (q2, .inl (g.2.1 0, 50, .inl (fun _ => 0)))] : va_W)).append_right Y

set_option maxRecDepth 100000 in
set_option maxHeartbeats 4000000 in
theorem i_X6 {g : GP} {l : Launch} {Y : va_W} {a : Nat} : CV g l yX6_init cX6_init 1 { frames := 1, cells := 1, slots := 40, locals := 40 } [.ref a] ((a, .inr (6, [.null, .int 0, .int 0, .int 0])) :: Y) (fun w => ∃ q1 : Nat, w.Perm (([(a, .inr (6, [.ref q1, .int 0, .int 0, .int 0])), (q1, .inl (g.2.1 0, 40, .inl (fun _ => 0)))] : va_W) ++ Y)) := by
  refine CV.mk (by decide) (Nat.le_of_ble_eq_true rfl) (fun G hG hret => ?_)
  refine g_aload_n hG dX6_init_0 rfl ?_
  refine g_obj hG dX6_init_1 ol_X6_3 oi_1 oi_2 (Nat.le_of_ble_eq_true rfl) (Nat.le_of_ble_eq_true rfl) ?_
  refine g_aload_n hG dX6_init_4 rfl ?_
  refine g_bipushv hG dX6_init_5 kb_40 ?_
  refine g_newa (N := 40) hG dX6_init_7 aw_int (by decide) (by decide) (by decide) (Nat.le_of_ble_eq_true rfl) (Nat.le_of_ble_eq_true rfl) (fun q1 => ?_)
  refine g_perm hG (List.perm_append_singleton _ _) ?_
  refine g_putF (f := 0) (k := 1) hG dX6_init_9 rfl rfl inX6 tyX6_ok nmX6 (by decide) rfl rfl f_X6_9 rfl rfl rfl rfl (Nat.le_of_ble_eq_true rfl) ?_
  refine g_widen hG (k := 1) (n := 40) (Nat.le_of_ble_eq_true rfl) (Nat.le_of_ble_eq_true rfl) ?_
  refine hret _ _ 12 dX6_init_12 ⟨q1, ?_⟩
  show List.Perm ((q1, .inl (g.2.1 0, 40, .inl (fun _ => 0))) :: (a, .inr (6, [.ref q1, .int 0, .int 0, .int 0])) :: Y : va_W) _
  exact (List.reverse_perm ([(a, .inr (6, [.ref q1, .int 0, .int 0, .int 0])), (q1, .inl (g.2.1 0, 40, .inl (fun _ => 0)))] : va_W)).append_right Y

set_option maxRecDepth 100000 in
set_option maxHeartbeats 4000000 in
theorem i_X7 {g : GP} {l : Launch} {Y : va_W} {a ka la lb : Nat} : CV g l yX7_init cX7_init 4 { frames := 1, cells := 6, slots := 118, locals := 40 } [.ref a, .ref ka, .ref la, .ref lb] ((a, .inr (7, [.null, .null, .null, .null, .null, .int 0, .int 0, .int 0, .int 0, .int 0, .int 0, .null, .null, .null, .int 0, .null, .int 0, .int 0])) :: Y) (fun w => ∃ q1 q2 q3 q4 q5 q6 : Nat, w.Perm (([(a, .inr (7, [.ref ka, .ref q1, .ref q2, .ref q3, .ref q4, .int 0, .int 0, .int 0, .int 0, .int 11, .int 0, .ref la, .ref lb, .ref q5, .int 0, .ref q6, .int 0, .int 1])), (q1, .inl (g.2.1 0, 12, .inl (fun _ => 0))), (q2, .inl (g.2.1 0, 12, .inl (fun _ => 0))), (q3, .inl (g.2.1 0, 12, .inl (fun _ => 0))), (q4, .inl (g.2.1 0, 12, .inl (fun _ => 0))), (q5, .inl (g.2.1 0, 50, .inl (fun _ => 0))), (q6, .inl (g.2.1 0, 20, .inl (fun _ => 0)))] : va_W) ++ Y)) := by
  refine CV.mk (by decide) (Nat.le_of_ble_eq_true rfl) (fun G hG hret => ?_)
  refine g_aload_n hG dX7_init_0 rfl ?_
  refine g_obj hG dX7_init_1 ol_X7_3 oi_1 oi_2 (Nat.le_of_ble_eq_true rfl) (Nat.le_of_ble_eq_true rfl) ?_
  refine g_aload_n hG dX7_init_4 rfl ?_
  refine g_bipushv hG dX7_init_5 kb_12 ?_
  refine g_newa (N := 12) hG dX7_init_7 aw_int (by decide) (by decide) (by decide) (Nat.le_of_ble_eq_true rfl) (Nat.le_of_ble_eq_true rfl) (fun q1 => ?_)
  refine g_perm hG (List.perm_append_singleton _ _) ?_
  refine g_putF (f := 1) (k := 1) hG dX7_init_9 rfl rfl inX7 tyX7_ok nmX7 (by decide) rfl rfl f_X7_9 rfl rfl rfl rfl (Nat.le_of_ble_eq_true rfl) ?_
  refine g_aload_n hG dX7_init_12 rfl ?_
  refine g_bipushv hG dX7_init_13 kb_12 ?_
  refine g_newa (N := 12) hG dX7_init_15 aw_int (by decide) (by decide) (by decide) (Nat.le_of_ble_eq_true rfl) (Nat.le_of_ble_eq_true rfl) (fun q2 => ?_)
  refine g_perm hG (List.perm_append_singleton _ _) ?_
  refine g_putF (f := 2) (k := 2) hG dX7_init_17 rfl rfl inX7 tyX7_ok nmX7 (by decide) rfl rfl f_X7_15 rfl rfl rfl rfl (Nat.le_of_ble_eq_true rfl) ?_
  refine g_aload_n hG dX7_init_20 rfl ?_
  refine g_bipushv hG dX7_init_21 kb_12 ?_
  refine g_newa (N := 12) hG dX7_init_23 aw_int (by decide) (by decide) (by decide) (Nat.le_of_ble_eq_true rfl) (Nat.le_of_ble_eq_true rfl) (fun q3 => ?_)
  refine g_perm hG (List.perm_append_singleton _ _) ?_
  refine g_putF (f := 3) (k := 3) hG dX7_init_25 rfl rfl inX7 tyX7_ok nmX7 (by decide) rfl rfl f_X7_18 rfl rfl rfl rfl (Nat.le_of_ble_eq_true rfl) ?_
  refine g_aload_n hG dX7_init_28 rfl ?_
  refine g_bipushv hG dX7_init_29 kb_12 ?_
  refine g_newa (N := 12) hG dX7_init_31 aw_int (by decide) (by decide) (by decide) (Nat.le_of_ble_eq_true rfl) (Nat.le_of_ble_eq_true rfl) (fun q4 => ?_)
  refine g_perm hG (List.perm_append_singleton _ _) ?_
  refine g_putF (f := 4) (k := 4) hG dX7_init_33 rfl rfl inX7 tyX7_ok nmX7 (by decide) rfl rfl f_X7_21 rfl rfl rfl rfl (Nat.le_of_ble_eq_true rfl) ?_
  refine g_aload_n hG dX7_init_36 rfl ?_
  refine g_bipushv hG dX7_init_37 kb_11 ?_
  refine g_put (f := 9) (k := 4) hG dX7_init_39 rfl rfl inX7 tyX7_ok nmX7 (by decide) rfl f_X7_24 rfl rfl rfl (Nat.le_of_ble_eq_true rfl) ?_
  refine g_aload_n hG dX7_init_42 rfl ?_
  refine g_bipushv hG dX7_init_43 kb_50 ?_
  refine g_newa (N := 50) hG dX7_init_45 aw_int (by decide) (by decide) (by decide) (Nat.le_of_ble_eq_true rfl) (Nat.le_of_ble_eq_true rfl) (fun q5 => ?_)
  refine g_perm hG (List.perm_append_singleton _ _) ?_
  refine g_putF (f := 13) (k := 5) hG dX7_init_47 rfl rfl inX7 tyX7_ok nmX7 (by decide) rfl rfl f_X7_28 rfl rfl rfl rfl (Nat.le_of_ble_eq_true rfl) ?_
  refine g_aload_n hG dX7_init_50 rfl ?_
  refine g_bipushv hG dX7_init_51 kb_20 ?_
  refine g_newa (N := 20) hG dX7_init_53 aw_int (by decide) (by decide) (by decide) (Nat.le_of_ble_eq_true rfl) (Nat.le_of_ble_eq_true rfl) (fun q6 => ?_)
  refine g_perm hG (List.perm_append_singleton _ _) ?_
  refine g_putF (f := 15) (k := 6) hG dX7_init_55 rfl rfl inX7 tyX7_ok nmX7 (by decide) rfl rfl f_X7_31 rfl rfl rfl rfl (Nat.le_of_ble_eq_true rfl) ?_
  refine g_aload_n hG dX7_init_58 rfl ?_
  refine g_iconstv hG dX7_init_59 ki_1 ?_
  refine g_put (f := 17) (k := 6) hG dX7_init_60 rfl rfl inX7 tyX7_ok nmX7 (by decide) rfl f_X7_34 rfl rfl rfl (Nat.le_of_ble_eq_true rfl) ?_
  refine g_aload_n hG dX7_init_63 rfl ?_
  refine g_aload_n hG dX7_init_64 rfl ?_
  refine g_putF (f := 0) (k := 6) hG dX7_init_65 rfl rfl inX7 tyX7_ok nmX7 (by decide) rfl rfl f_X7_37 rfl rfl rfl rfl (Nat.le_of_ble_eq_true rfl) ?_
  refine g_aload_n hG dX7_init_68 rfl ?_
  refine g_aload_n hG dX7_init_69 rfl ?_
  refine g_put (f := 11) (k := 6) hG dX7_init_70 rfl rfl inX7 tyX7_ok nmX7 (by decide) rfl f_X7_41 rfl rfl rfl (Nat.le_of_ble_eq_true rfl) ?_
  refine g_aload_n hG dX7_init_73 rfl ?_
  refine g_aload_n hG dX7_init_74 rfl ?_
  refine g_put (f := 12) (k := 6) hG dX7_init_75 rfl rfl inX7 tyX7_ok nmX7 (by decide) rfl f_X7_45 rfl rfl rfl (Nat.le_of_ble_eq_true rfl) ?_
  refine g_widen hG (k := 6) (n := 118) (Nat.le_of_ble_eq_true rfl) (Nat.le_of_ble_eq_true rfl) ?_
  refine hret _ _ 78 dX7_init_78 ⟨q1, q2, q3, q4, q5, q6, ?_⟩
  show List.Perm ((q6, .inl (g.2.1 0, 20, .inl (fun _ => 0))) :: (q5, .inl (g.2.1 0, 50, .inl (fun _ => 0))) :: (q4, .inl (g.2.1 0, 12, .inl (fun _ => 0))) :: (q3, .inl (g.2.1 0, 12, .inl (fun _ => 0))) :: (q2, .inl (g.2.1 0, 12, .inl (fun _ => 0))) :: (q1, .inl (g.2.1 0, 12, .inl (fun _ => 0))) :: (a, .inr (7, [.ref ka, .ref q1, .ref q2, .ref q3, .ref q4, .int 0, .int 0, .int 0, .int 0, .int 11, .int 0, .ref la, .ref lb, .ref q5, .int 0, .ref q6, .int 0, .int 1])) :: Y : va_W) _
  exact (List.reverse_perm ([(a, .inr (7, [.ref ka, .ref q1, .ref q2, .ref q3, .ref q4, .int 0, .int 0, .int 0, .int 0, .int 11, .int 0, .ref la, .ref lb, .ref q5, .int 0, .ref q6, .int 0, .int 1])), (q1, .inl (g.2.1 0, 12, .inl (fun _ => 0))), (q2, .inl (g.2.1 0, 12, .inl (fun _ => 0))), (q3, .inl (g.2.1 0, 12, .inl (fun _ => 0))), (q4, .inl (g.2.1 0, 12, .inl (fun _ => 0))), (q5, .inl (g.2.1 0, 50, .inl (fun _ => 0))), (q6, .inl (g.2.1 0, 20, .inl (fun _ => 0)))] : va_W)).append_right Y

def σ0R : RS := (fun _ => 0, fun f => if f = 0 then (upd (upd (upd (upd (fun _ => 0) 1 (1)) 8 (11)) 5 (-1)) 6 (-1)) else fun _ => 0)
set_option maxRecDepth 100000 in
set_option maxHeartbeats 4000000 in
theorem i_X12 {g : GP} {l : Launch} {Y : va_W} {a : Nat} : CV g l yX12_init cX12_init 1 { frames := 1, cells := 10, slots := 1500, locals := 40 } [.ref a] ((a, .inr (12, [.null, .null, .null, .null, .int 0, .int 0, .null, .int 0, .int 0, .int 0, .int 0, .int 0, .int 0, .int 0, .int 0, .int 0, .null, .null, .null, .null, .null, .int 0, .int 0, .int 0, .int 0])) :: Y) (fun w => ∃ r : Nat → Nat, r 25 = a ∧ w.Perm (wR g r σ0R Y)) := by
  refine CV.mk (by decide) (Nat.le_of_ble_eq_true rfl) (fun G hG hret => ?_)
  refine g_aload_n hG dX12_init_0 rfl ?_
  refine g_obj hG dX12_init_1 ol_X12_1 oi_1 oi_2 (Nat.le_of_ble_eq_true rfl) (Nat.le_of_ble_eq_true rfl) ?_
  refine g_aload_n hG dX12_init_4 rfl ?_
  refine g_sipushv hG dX12_init_5 ks_240 ?_
  refine g_newa (N := 240) hG dX12_init_8 aw_int (by decide) (by decide) (by decide) (Nat.le_of_ble_eq_true rfl) (Nat.le_of_ble_eq_true rfl) (fun q1 => ?_)
  refine g_perm hG (List.perm_append_singleton _ _) ?_
  refine g_putF (f := 0) (k := 1) hG dX12_init_10 rfl rfl inX12 tyX12_ok nmX12 (by decide) rfl rfl f_X12_7 rfl rfl rfl rfl (Nat.le_of_ble_eq_true rfl) ?_
  refine g_aload_n hG dX12_init_13 rfl ?_
  refine g_sipushv hG dX12_init_14 ks_240 ?_
  refine g_newa (N := 240) hG dX12_init_17 aw_int (by decide) (by decide) (by decide) (Nat.le_of_ble_eq_true rfl) (Nat.le_of_ble_eq_true rfl) (fun q2 => ?_)
  refine g_perm hG (List.perm_append_singleton _ _) ?_
  refine g_putF (f := 1) (k := 2) hG dX12_init_19 rfl rfl inX12 tyX12_ok nmX12 (by decide) rfl rfl f_X12_13 rfl rfl rfl rfl (Nat.le_of_ble_eq_true rfl) ?_
  refine g_aload_n hG dX12_init_22 rfl ?_
  refine g_sipushv hG dX12_init_23 ks_240 ?_
  refine g_newa (N := 240) hG dX12_init_26 aw_int (by decide) (by decide) (by decide) (Nat.le_of_ble_eq_true rfl) (Nat.le_of_ble_eq_true rfl) (fun q3 => ?_)
  refine g_perm hG (List.perm_append_singleton _ _) ?_
  refine g_putF (f := 2) (k := 3) hG dX12_init_28 rfl rfl inX12 tyX12_ok nmX12 (by decide) rfl rfl f_X12_16 rfl rfl rfl rfl (Nat.le_of_ble_eq_true rfl) ?_
  refine g_aload_n hG dX12_init_31 rfl ?_
  refine g_sipushv hG dX12_init_32 ks_240 ?_
  refine g_newa (N := 240) hG dX12_init_35 aw_int (by decide) (by decide) (by decide) (Nat.le_of_ble_eq_true rfl) (Nat.le_of_ble_eq_true rfl) (fun q4 => ?_)
  refine g_perm hG (List.perm_append_singleton _ _) ?_
  refine g_putF (f := 3) (k := 4) hG dX12_init_37 rfl rfl inX12 tyX12_ok nmX12 (by decide) rfl rfl f_X12_19 rfl rfl rfl rfl (Nat.le_of_ble_eq_true rfl) ?_
  refine g_aload_n hG dX12_init_40 rfl ?_
  refine g_bipushv hG dX12_init_41 kb_6 ?_
  refine g_newa (N := 6) hG dX12_init_43 aw_int (by decide) (by decide) (by decide) (Nat.le_of_ble_eq_true rfl) (Nat.le_of_ble_eq_true rfl) (fun q5 => ?_)
  refine g_perm hG (List.perm_append_singleton _ _) ?_
  refine g_putF (f := 6) (k := 5) hG dX12_init_45 rfl rfl inX12 tyX12_ok nmX12 (by decide) rfl rfl f_X12_22 rfl rfl rfl rfl (Nat.le_of_ble_eq_true rfl) ?_
  refine g_aload_n hG dX12_init_48 rfl ?_
  refine g_iconstv hG dX12_init_49 ki_4 ?_
  refine g_newa (N := 4) hG dX12_init_50 aw_int (by decide) (by decide) (by decide) (Nat.le_of_ble_eq_true rfl) (Nat.le_of_ble_eq_true rfl) (fun q6 => ?_)
  refine g_perm hG (List.perm_append_singleton _ _) ?_
  refine g_putF (f := 16) (k := 6) hG dX12_init_52 rfl rfl inX12 tyX12_ok nmX12 (by decide) rfl rfl f_X12_25 rfl rfl rfl rfl (Nat.le_of_ble_eq_true rfl) ?_
  refine g_aload_n hG dX12_init_55 rfl ?_
  refine g_iconstv hG dX12_init_56 ki_4 ?_
  refine g_newa (N := 4) hG dX12_init_57 aw_int (by decide) (by decide) (by decide) (Nat.le_of_ble_eq_true rfl) (Nat.le_of_ble_eq_true rfl) (fun q7 => ?_)
  refine g_perm hG (List.perm_append_singleton _ _) ?_
  refine g_putF (f := 17) (k := 7) hG dX12_init_59 rfl rfl inX12 tyX12_ok nmX12 (by decide) rfl rfl f_X12_28 rfl rfl rfl rfl (Nat.le_of_ble_eq_true rfl) ?_
  refine g_aload_n hG dX12_init_62 rfl ?_
  refine g_sipushv hG dX12_init_63 ks_160 ?_
  refine g_newa (N := 160) hG dX12_init_66 aw_int (by decide) (by decide) (by decide) (Nat.le_of_ble_eq_true rfl) (Nat.le_of_ble_eq_true rfl) (fun q8 => ?_)
  refine g_perm hG (List.perm_append_singleton _ _) ?_
  refine g_putF (f := 18) (k := 8) hG dX12_init_68 rfl rfl inX12 tyX12_ok nmX12 (by decide) rfl rfl f_X12_31 rfl rfl rfl rfl (Nat.le_of_ble_eq_true rfl) ?_
  refine g_aload_n hG dX12_init_71 rfl ?_
  refine g_bipushv hG dX12_init_72 kb_40 ?_
  refine g_newa (N := 40) hG dX12_init_74 aw_int (by decide) (by decide) (by decide) (Nat.le_of_ble_eq_true rfl) (Nat.le_of_ble_eq_true rfl) (fun q9 => ?_)
  refine g_perm hG (List.perm_append_singleton _ _) ?_
  refine g_putF (f := 19) (k := 9) hG dX12_init_76 rfl rfl inX12 tyX12_ok nmX12 (by decide) rfl rfl f_X12_34 rfl rfl rfl rfl (Nat.le_of_ble_eq_true rfl) ?_
  refine g_aload_n hG dX12_init_79 rfl ?_
  refine g_bipushv hG dX12_init_80 kb_40 ?_
  refine g_newa (N := 40) hG dX12_init_82 aw_int (by decide) (by decide) (by decide) (Nat.le_of_ble_eq_true rfl) (Nat.le_of_ble_eq_true rfl) (fun q10 => ?_)
  refine g_perm hG (List.perm_append_singleton _ _) ?_
  refine g_putF (f := 20) (k := 10) hG dX12_init_84 rfl rfl inX12 tyX12_ok nmX12 (by decide) rfl rfl f_X12_37 rfl rfl rfl rfl (Nat.le_of_ble_eq_true rfl) ?_
  refine g_aload_n hG dX12_init_87 rfl ?_
  refine g_get (f := 0) (k := 10) hG dX12_init_88 rfl rfl inX12 (by decide) rfl f_X12_7 rfl ?_
  refine g_iconstv hG dX12_init_91 ki_1 ?_
  refine g_iconstv hG dX12_init_92 ki_1 ?_
  refine g_iast (k := 9) hG dX12_init_93 rfl (inb_in (by decide)) ?_
  refine g_aload_n hG dX12_init_94 rfl ?_
  refine g_get (f := 0) (k := 10) hG dX12_init_95 rfl rfl inX12 (by decide) rfl f_X12_7 rfl ?_
  refine g_bipushv hG dX12_init_98 kb_8 ?_
  refine g_bipushv hG dX12_init_100 kb_11 ?_
  refine g_iast (k := 9) hG dX12_init_102 rfl (inb_in (by decide)) ?_
  refine g_aload_n hG dX12_init_103 rfl ?_
  refine g_get (f := 0) (k := 10) hG dX12_init_104 rfl rfl inX12 (by decide) rfl f_X12_7 rfl ?_
  refine g_iconstv hG dX12_init_107 ki_5 ?_
  refine g_iconstv hG dX12_init_108 ki_m1 ?_
  refine g_iast (k := 9) hG dX12_init_109 rfl (inb_in (by decide)) ?_
  refine g_aload_n hG dX12_init_110 rfl ?_
  refine g_get (f := 0) (k := 10) hG dX12_init_111 rfl rfl inX12 (by decide) rfl f_X12_7 rfl ?_
  refine g_bipushv hG dX12_init_114 kb_6 ?_
  refine g_iconstv hG dX12_init_116 ki_m1 ?_
  refine g_iast (k := 9) hG dX12_init_117 rfl (inb_in (by decide)) ?_
  refine g_widen hG (k := 10) (n := 1500) (Nat.le_of_ble_eq_true rfl) (Nat.le_of_ble_eq_true rfl) ?_
  refine hret _ _ 118 dX12_init_118 ⟨fun f => ([q1, q2, q3, q4, 0, 0, q5, 0, 0, 0, 0, 0, 0, 0, 0, 0, q6, q7, q8, q9, q10, 0, 0, 0, 0, a] : List Nat).getD f 0, rfl, ?_⟩
  show List.Perm ((q10, .inl (g.2.1 0, 40, .inl (fun _ => 0))) :: (q9, .inl (g.2.1 0, 40, .inl (fun _ => 0))) :: (q8, .inl (g.2.1 0, 160, .inl (fun _ => 0))) :: (q7, .inl (g.2.1 0, 4, .inl (fun _ => 0))) :: (q6, .inl (g.2.1 0, 4, .inl (fun _ => 0))) :: (q5, .inl (g.2.1 0, 6, .inl (fun _ => 0))) :: (q4, .inl (g.2.1 0, 240, .inl (fun _ => 0))) :: (q3, .inl (g.2.1 0, 240, .inl (fun _ => 0))) :: (q2, .inl (g.2.1 0, 240, .inl (fun _ => 0))) :: (q1, .inl (g.2.1 0, 240, .inl (upd (upd (upd (upd (fun _ => 0) 1 (1)) 8 (11)) 5 (-1)) 6 (-1)))) :: (a, .inr (12, [.ref q1, .ref q2, .ref q3, .ref q4, .int 0, .int 0, .ref q5, .int 0, .int 0, .int 0, .int 0, .int 0, .int 0, .int 0, .int 0, .int 0, .ref q6, .ref q7, .ref q8, .ref q9, .ref q10, .int 0, .int 0, .int 0, .int 0])) :: Y : va_W) _
  exact (List.reverse_perm ([(a, .inr (12, [.ref q1, .ref q2, .ref q3, .ref q4, .int 0, .int 0, .ref q5, .int 0, .int 0, .int 0, .int 0, .int 0, .int 0, .int 0, .int 0, .int 0, .ref q6, .ref q7, .ref q8, .ref q9, .ref q10, .int 0, .int 0, .int 0, .int 0])), (q1, .inl (g.2.1 0, 240, .inl (upd (upd (upd (upd (fun _ => 0) 1 (1)) 8 (11)) 5 (-1)) 6 (-1)))), (q2, .inl (g.2.1 0, 240, .inl (fun _ => 0))), (q3, .inl (g.2.1 0, 240, .inl (fun _ => 0))), (q4, .inl (g.2.1 0, 240, .inl (fun _ => 0))), (q5, .inl (g.2.1 0, 6, .inl (fun _ => 0))), (q6, .inl (g.2.1 0, 4, .inl (fun _ => 0))), (q7, .inl (g.2.1 0, 4, .inl (fun _ => 0))), (q8, .inl (g.2.1 0, 160, .inl (fun _ => 0))), (q9, .inl (g.2.1 0, 40, .inl (fun _ => 0))), (q10, .inl (g.2.1 0, 40, .inl (fun _ => 0)))] : va_W)).append_right Y

